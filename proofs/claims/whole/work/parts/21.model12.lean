theorem dX15_isGoneOver_0 : decode cX15_isGoneOver 0 = .ok (.iconst 1, 1) := by decide +kernel
theorem dX15_isGoneOver_1 : decode cX15_isGoneOver 1 = .ok (.istore_n 3, 1) := by decide +kernel
theorem dX15_isGoneOver_2 : decode cX15_isGoneOver 2 = .ok (.iload_n 3, 1) := by decide +kernel
theorem dX15_isGoneOver_3 : decode cX15_isGoneOver 3 = .ok (.aload_n 1, 1) := by decide +kernel
theorem dX15_isGoneOver_4 : decode cX15_isGoneOver 4 = .ok (.getfield 441, 3) := by decide +kernel
theorem dX15_isGoneOver_7 : decode cX15_isGoneOver 7 = .ok (.if_icmp .ge 21, 3) := by decide +kernel
theorem dX15_isGoneOver_10 : decode cX15_isGoneOver 10 = .ok (.aload_n 1, 1) := by decide +kernel
theorem dX15_isGoneOver_11 : decode cX15_isGoneOver 11 = .ok (.getfield 439, 3) := by decide +kernel
theorem dX15_isGoneOver_14 : decode cX15_isGoneOver 14 = .ok (.iload_n 3, 1) := by decide +kernel
theorem dX15_isGoneOver_15 : decode cX15_isGoneOver 15 = .ok (.iaload, 1) := by decide +kernel
theorem dX15_isGoneOver_16 : decode cX15_isGoneOver 16 = .ok (.iload_n 2, 1) := by decide +kernel
theorem dX15_isGoneOver_17 : decode cX15_isGoneOver 17 = .ok (.if_icmp .ne 5, 3) := by decide +kernel
theorem dX15_isGoneOver_20 : decode cX15_isGoneOver 20 = .ok (.iconst 1, 1) := by decide +kernel
theorem dX15_isGoneOver_21 : decode cX15_isGoneOver 21 = .ok (.ireturn, 1) := by decide +kernel
theorem dX15_isGoneOver_22 : decode cX15_isGoneOver 22 = .ok (.iinc 3 1, 3) := by decide +kernel
theorem dX15_isGoneOver_25 : decode cX15_isGoneOver 25 = .ok (.goto (-23), 3) := by decide +kernel
theorem dX15_isGoneOver_28 : decode cX15_isGoneOver 28 = .ok (.iconst 0, 1) := by decide +kernel
theorem dX15_isGoneOver_29 : decode cX15_isGoneOver 29 = .ok (.ireturn, 1) := by decide +kernel
def sX15_isGoneOver_2 (F : Nat) : Nat → Hp → Nat → Int32 → Int32 → Option (Int32 × Hp)
  | 0, _, _, _, _ => none
  | f + 1, h, x1, x2, x3 => br ((hI h x1 3) ≤ x3) (some ((0 : Int32), h)) (cl (hR h x1 4) fun r_2 => gd (inB x3 (hN h r_2)) <| br ((hI h r_2 x3.toNatClampNeg) = x2) (some ((1 : Int32), h)) (nm (x3 + (1 : Int32)) fun v_5 => sX15_isGoneOver_2 F f h x1 x2 v_5))
def sX15_isGoneOver (F : Nat) (h : Hp) (x0 : Nat) (x1 : Nat) (x2 : Int32) : Option (Int32 × Hp) := sX15_isGoneOver_2 F F h x1 x2 (1 : Int32)
set_option maxRecDepth 20000 in
theorem moX15_isGoneOver_2 {o : Int32 × Hp} {F : Nat} : ∀ (f : Nat) {h : Hp} {x1 : Nat} {x2 : Int32} {x3 : Int32}, sX15_isGoneOver_2 F f h x1 x2 x3 = some o → Le h o.2 := by
  intro f
  induction f with
  | zero =>
    intro h x1 x2 x3 hE
    rw [sX15_isGoneOver_2] at hE
    cases hE
  | succ f ih =>
    intro h x1 x2 x3 hE
    rw [sX15_isGoneOver_2] at hE
    have mk_2 : ∀ (h : Hp) (x1 : Nat) (x2 : Int32) (x3 : Int32), sX15_isGoneOver_2 F f h x1 x2 x3 = some o → Le h o.2 := fun h x1 x2 x3 hE => ih hE
    rcases br_e hE with ⟨_, hE⟩ | ⟨_, hE⟩
    · exact le_some2 hE
    · obtain ⟨r_2, er_2, hE⟩ := cl_e hE
      obtain ⟨g_3, hE⟩ := gd_e hE
      rcases br_e hE with ⟨_, hE⟩ | ⟨_, hE⟩
      · exact le_some2 hE
      · obtain ⟨v_5, ev_5, hE⟩ := nm_e2 hE
        exact mk_2 _ _ _ _ hE
set_option maxRecDepth 20000 in
theorem moX15_isGoneOver {o : Int32 × Hp} {F : Nat} {h : Hp} {x0 : Nat} {x1 : Nat} {x2 : Int32} (hE : sX15_isGoneOver F h x0 x1 x2 = some o) : Le h o.2 := by
  exact moX15_isGoneOver_2 _ hE
set_option maxRecDepth 20000 in
theorem bX15_isGoneOver_2 {p : Program} {l : Launch} {e : Env} {s : State} {m : MethodId} {args : Array Value} {below : List Frame} {meth : Method} {c : Code} {X : Ec} {h0 : Hp} {o : Int32 × Hp} {F : Nat} (C : Cx X p s m args meth c RX15 cX15_isGoneOver 4 (some .boolean) "isGoneOver") : ∀ (f : Nat) {h : Hp} {x1 : Nat} {x2 : Int32} {x3 : Int32} {H : Heap} {locs : List Loc} (k_x1 : hK h x1 = 12), Km h0 h → Wx X h H → va_S (aA (eB X)) s.heap H locs → ∀ (ls : Array Slot), lv_has ls 4 [(1, .ref x1), (2, .int x2), (3, .int x3)] → sX15_isGoneOver_2 F f h x1 x2 x3 = some o → W p l e (rm 0 0) s m args below meth c H locs 0 0 (MQ below (QI X h0 o.1 o.2) args s 0 0 (aA (eB X))) (F0 m 2 ls []) := by
  intro f
  induction f with
  | zero =>
    intro h x1 x2 x3 H locs k_x1 hkm hW hZ ls hl hE
    rw [sX15_isGoneOver_2] at hE
    cases hE
  | succ f ih =>
    intro h x1 x2 x3 H locs k_x1 hkm hW hZ ls hl hE
    rw [sX15_isGoneOver_2] at hE
    have hk_2 : ∀ (h : Hp) (x1 : Nat) (x2 : Int32) (x3 : Int32) (H : Heap) (locs : List Loc), hK h x1 = 12 → Km h0 h → Wx X h H → va_S (aA (eB X)) s.heap H locs → ∀ (ls : Array Slot), lv_has ls 4 [(1, .ref x1), (2, .int x2), (3, .int x3)] → sX15_isGoneOver_2 F f h x1 x2 x3 = some o → W p l e (rm 0 0) s m args below meth c H locs 0 0 (MQ below (QI X h0 o.1 o.2) args s 0 0 (aA (eB X))) (F0 m 2 ls []) := fun h x1 x2 x3 H locs k_x1 a b c ls hl hE => ih k_x1 a b c ls hl hE
    refine lv_iload_n C.1 C.2.1 dX15_isGoneOver_2 rfl (lv_at hl 2 rfl) ?_
    refine lv_aload_n C.1 C.2.1 dX15_isGoneOver_3 rfl (lv_at hl 0 rfl) ?_
    refine gf_X15_441 C hW k_x1 dX15_isGoneOver_4 ?_
    refine lv_icmp_ge (tgt := 28) C.1 C.2.1 dX15_isGoneOver_7 (by decide) (fun c_1 => ?_) (fun c_1 => ?_)
    · have hE := br_p hE c_1
      refine lv_iconst (v := (0 : Int32)) C.1 C.2.1 dX15_isGoneOver_28 (by decide) ?_
      exact x_iret C rfl (by decide) hW hZ hkm hE dX15_isGoneOver_29
    · have hE := br_n hE c_1
      refine lv_aload_n C.1 C.2.1 dX15_isGoneOver_10 rfl (lv_at hl 0 rfl) ?_
      obtain ⟨r_2, er_2, hE⟩ := cl_e hE
      refine gf_X15_439 C hW k_x1 er_2 dX15_isGoneOver_11 (fun k_r_2 => ?_)
      refine lv_iload_n C.1 C.2.1 dX15_isGoneOver_14 rfl (lv_at hl 2 rfl) ?_
      obtain ⟨g_3, hE⟩ := gd_e hE
      refine y_iald C hW k_r_2 g_3 dX15_isGoneOver_15 ?_
      refine lv_iload_n C.1 C.2.1 dX15_isGoneOver_16 rfl (lv_at hl 1 rfl) ?_
      refine lv_icmp_ne (tgt := 22) C.1 C.2.1 dX15_isGoneOver_17 (by decide) (fun c_4 => ?_) (fun c_4 => ?_)
      · have hE := br_n hE c_4
        obtain ⟨v_5, ev_5, hE⟩ := nm_e2 hE
        refine lv_iinc (v := v_5) (lv' := [(3, .int v_5), (1, .ref x1), (2, .int x2)]) C.1 C.2.1 dX15_isGoneOver_22 hl (k := 2) rfl (by rw [ev_5]; rfl) (by decide) rfl (fun ls hl => ?_)
        refine lv_goto (tgt := 2) C.1 C.2.1 dX15_isGoneOver_25 (by decide) ?_
        exact hk_2 _ _ _ _ _ _ k_x1 hkm hW hZ _ (lv_sub hl [1, 2, 0] rfl) hE
      · have hE := br_p hE c_4
        refine lv_iconst (v := (1 : Int32)) C.1 C.2.1 dX15_isGoneOver_20 (by decide) ?_
        exact x_iret C rfl (by decide) hW hZ hkm hE dX15_isGoneOver_21
set_option maxRecDepth 20000 in
theorem ct_X15_isGoneOver (l : Launch) (X : Ec) (F : Nat) {h : Hp} {x0 : Nat} {x1 : Nat} {x2 : Int32} {o : Int32 × Hp} (k_x0 : hK h x0 = 15) (k_x1 : hK h x1 = 12) (hE : sX15_isGoneOver F h x0 x1 x2 = some o) : MetI l yX15_isGoneOver cX15_isGoneOver 4 (some .boolean) 0 0 X [.ref x0, .ref x1, .int x2] h o := by
  refine x_met (by decide) (Nat.le_of_ble_eq_true rfl) ?_
  intro p e s m below meth c ls C hl hW hZ
  have hl : lv_has ls 4 [(0, .ref x0), (1, .ref x1), (2, .int x2)] := hl
  have hkm : Km h h := Km.rf h
  refine lv_iconst (v := (1 : Int32)) C.1 C.2.1 dX15_isGoneOver_0 (by decide) ?_
  refine lv_istore_n (lv' := [(3, .int (1 : Int32)), (0, .ref x0), (1, .ref x1), (2, .int x2)]) C.1 C.2.1 dX15_isGoneOver_1 rfl hl (by decide) rfl (fun ls hl => ?_)
  exact bX15_isGoneOver_2 C F k_x1 hkm hW hZ _ (lv_sub hl [2, 3, 0] rfl) hE
set_option maxRecDepth 100000 in
theorem ms_176 : Cond.selects RX15 yX15_isGoneOver yX15_isGoneOver ∈ W0 := w0_in (List.mem_append_left _ (List.mem_of_getElem? (i := 176) rfl)) rfl
set_option maxRecDepth 100000 in
theorem m_2540 : Cond.methodLink RX15 572 yX15_isGoneOver ∈ W0 := w0_in (List.mem_append_right _ (List.mem_of_getElem? (i := 2540) rfl)) rfl
set_option maxRecDepth 100000 in
theorem m_2542 : Cond.instanceMethod yX15_isGoneOver ∈ W0 := w0_in (List.mem_append_right _ (List.mem_of_getElem? (i := 2542) rfl)) rfl
set_option maxRecDepth 100000 in
theorem m_2543 : Cond.code yX15_isGoneOver cX15_isGoneOver 4 (some .boolean) ∈ W0 := w0_in (List.mem_append_right _ (List.mem_of_getElem? (i := 2543) rfl)) rfl
section
variable {p : Program} {l : Launch} {e : Env} {R : Room} {s : State} {m : MethodId} {args : Array Value} {below : List Frame} {meth : Method} {c : Code} {H : Heap} {locs : List Loc} {cells slots : Nat} {Q : State → Prop}
variable {cc : ByteArray} {pc : Nat} {ls : Array Slot} {rest : List Value} {X : Ec} {h h1 : Hp} {nL : Nat} {rt : Option FieldType} {mn : String}
theorem gf_X15_272 {a r : Nat} (C : Cx X p s m args meth c RX15 cc nL rt mn) (hW : Wx X h H) (ha : hK h a = 15) (hr : hR h a 25 = some r) (hdg : decode cc pc = .ok (.getfield 272, 3)) (kk : hK h r = 17 → W p l e R s m args below meth c H locs cells slots Q (F0 m (pc + 3) ls (.ref r :: rest))) : W p l e R s m args below meth c H locs cells slots Q (F0 m pc ls (.ref a :: rest)) :=
  y_getr C hW ha i_X15 (by decide) rfl (by decide) m_2136 rfl rfl hr hdg kk
theorem gf_X15_275 {a r : Nat} (C : Cx X p s m args meth c RX15 cc nL rt mn) (hW : Wx X h H) (ha : hK h a = 15) (hr : hR h a 26 = some r) (hdg : decode cc pc = .ok (.getfield 275, 3)) (kk : hK h r = 17 → W p l e R s m args below meth c H locs cells slots Q (F0 m (pc + 3) ls (.ref r :: rest))) : W p l e R s m args below meth c H locs cells slots Q (F0 m pc ls (.ref a :: rest)) :=
  y_getr C hW ha i_X15 (by decide) rfl (by decide) m_2137 rfl rfl hr hdg kk
theorem gf_X15_278 {a r : Nat} (C : Cx X p s m args meth c RX15 cc nL rt mn) (hW : Wx X h H) (ha : hK h a = 15) (hr : hR h a 27 = some r) (hdg : decode cc pc = .ok (.getfield 278, 3)) (kk : hK h r = 19 → W p l e R s m args below meth c H locs cells slots Q (F0 m (pc + 3) ls (.ref r :: rest))) : W p l e R s m args below meth c H locs cells slots Q (F0 m pc ls (.ref a :: rest)) :=
  y_getr C hW ha i_X15 (by decide) rfl (by decide) m_2138 rfl rfl hr hdg kk
end
theorem cw_X15_572 : cwd RX15 572 yX15_isGoneOver cX15_isGoneOver 4 (some .boolean) false 2 := ⟨m_2543, m_2540, m_19, ⟨m_2542, ms_176⟩, by decide, by decide, by decide +kernel⟩
theorem dX15_leadBy_0 : decode cX15_leadBy 0 = .ok (.aload_n 0, 1) := by decide +kernel
theorem dX15_leadBy_1 : decode cX15_leadBy 1 = .ok (.getfield 252, 3) := by decide +kernel
theorem dX15_leadBy_4 : decode cX15_leadBy 4 = .ok (.getfield 198, 3) := by decide +kernel
theorem dX15_leadBy_7 : decode cX15_leadBy 7 = .ok (.iload 4, 2) := by decide +kernel
theorem dX15_leadBy_9 : decode cX15_leadBy 9 = .ok (.iaload, 1) := by decide +kernel
theorem dX15_leadBy_10 : decode cX15_leadBy 10 = .ok (.istore 6, 2) := by decide +kernel
theorem dX15_leadBy_12 : decode cX15_leadBy 12 = .ok (.iconst 0, 1) := by decide +kernel
theorem dX15_leadBy_13 : decode cX15_leadBy 13 = .ok (.istore 7, 2) := by decide +kernel
theorem dX15_leadBy_15 : decode cX15_leadBy 15 = .ok (.iconst 1, 1) := by decide +kernel
theorem dX15_leadBy_16 : decode cX15_leadBy 16 = .ok (.istore 8, 2) := by decide +kernel
theorem dX15_leadBy_18 : decode cX15_leadBy 18 = .ok (.iload 8, 2) := by decide +kernel
theorem dX15_leadBy_20 : decode cX15_leadBy 20 = .ok (.aload_n 0, 1) := by decide +kernel
theorem dX15_leadBy_21 : decode cX15_leadBy 21 = .ok (.getfield 252, 3) := by decide +kernel
theorem dX15_leadBy_24 : decode cX15_leadBy 24 = .ok (.getfield 207, 3) := by decide +kernel
theorem dX15_leadBy_27 : decode cX15_leadBy 27 = .ok (.iload 4, 2) := by decide +kernel
theorem dX15_leadBy_29 : decode cX15_leadBy 29 = .ok (.iaload, 1) := by decide +kernel
theorem dX15_leadBy_30 : decode cX15_leadBy 30 = .ok (.if_icmp .gt 186, 3) := by decide +kernel
theorem dX15_leadBy_33 : decode cX15_leadBy 33 = .ok (.iload 7, 2) := by decide +kernel
theorem dX15_leadBy_35 : decode cX15_leadBy 35 = .ok (.iconst 2, 1) := by decide +kernel
theorem dX15_leadBy_36 : decode cX15_leadBy 36 = .ok (.if_icmp .ge 180, 3) := by decide +kernel
theorem dX15_leadBy_39 : decode cX15_leadBy 39 = .ok (.aload_n 0, 1) := by decide +kernel
theorem dX15_leadBy_40 : decode cX15_leadBy 40 = .ok (.iload_n 2, 1) := by decide +kernel
theorem dX15_leadBy_41 : decode cX15_leadBy 41 = .ok (.iload 8, 2) := by decide +kernel
theorem dX15_leadBy_43 : decode cX15_leadBy 43 = .ok (.invokevirtual 524, 3) := by decide +kernel
theorem dX15_leadBy_46 : decode cX15_leadBy 46 = .ok (.istore 9, 2) := by decide +kernel
theorem dX15_leadBy_48 : decode cX15_leadBy 48 = .ok (.iload 9, 2) := by decide +kernel
theorem dX15_leadBy_50 : decode cX15_leadBy 50 = .ok (.iconst (-1), 1) := by decide +kernel
theorem dX15_leadBy_51 : decode cX15_leadBy 51 = .ok (.if_icmp .ne 4, 3) := by decide +kernel
theorem dX15_leadBy_54 : decode cX15_leadBy 54 = .ok (.return_, 1) := by decide +kernel
theorem dX15_leadBy_55 : decode cX15_leadBy 55 = .ok (.aload_n 1, 1) := by decide +kernel
theorem dX15_leadBy_56 : decode cX15_leadBy 56 = .ok (.getfield 396, 3) := by decide +kernel
theorem dX15_leadBy_59 : decode cX15_leadBy 59 = .ok (.iload 9, 2) := by decide +kernel
theorem dX15_leadBy_61 : decode cX15_leadBy 61 = .ok (.iaload, 1) := by decide +kernel
theorem dX15_leadBy_62 : decode cX15_leadBy 62 = .ok (.istore 10, 2) := by decide +kernel
theorem dX15_leadBy_64 : decode cX15_leadBy 64 = .ok (.iload 6, 2) := by decide +kernel
theorem dX15_leadBy_66 : decode cX15_leadBy 66 = .ok (.iload 7, 2) := by decide +kernel
theorem dX15_leadBy_68 : decode cX15_leadBy 68 = .ok (.invokestatic 565, 3) := by decide +kernel
theorem dX15_leadBy_71 : decode cX15_leadBy 71 = .ok (.ifCond .eq 124, 3) := by decide +kernel
theorem dX15_leadBy_74 : decode cX15_leadBy 74 = .ok (.aload_n 0, 1) := by decide +kernel
theorem dX15_leadBy_75 : decode cX15_leadBy 75 = .ok (.getfield 272, 3) := by decide +kernel
theorem dX15_leadBy_78 : decode cX15_leadBy 78 = .ok (.iload 9, 2) := by decide +kernel
theorem dX15_leadBy_80 : decode cX15_leadBy 80 = .ok (.iaload, 1) := by decide +kernel
theorem dX15_leadBy_81 : decode cX15_leadBy 81 = .ok (.iconst (-1), 1) := by decide +kernel
theorem dX15_leadBy_82 : decode cX15_leadBy 82 = .ok (.if_icmp .ne 113, 3) := by decide +kernel
theorem dX15_leadBy_85 : decode cX15_leadBy 85 = .ok (.iload 5, 2) := by decide +kernel
theorem dX15_leadBy_87 : decode cX15_leadBy 87 = .ok (.ifCond .eq 25, 3) := by decide +kernel
theorem dX15_leadBy_90 : decode cX15_leadBy 90 = .ok (.iload 6, 2) := by decide +kernel
theorem dX15_leadBy_92 : decode cX15_leadBy 92 = .ok (.bipush 32, 2) := by decide +kernel
theorem dX15_leadBy_94 : decode cX15_leadBy 94 = .ok (.iand, 1) := by decide +kernel
theorem dX15_leadBy_95 : decode cX15_leadBy 95 = .ok (.ifCond .eq 17, 3) := by decide +kernel
theorem dX15_leadBy_98 : decode cX15_leadBy 98 = .ok (.aload_n 0, 1) := by decide +kernel
theorem dX15_leadBy_99 : decode cX15_leadBy 99 = .ok (.aload_n 1, 1) := by decide +kernel
theorem dX15_leadBy_100 : decode cX15_leadBy 100 = .ok (.iload 9, 2) := by decide +kernel
theorem dX15_leadBy_102 : decode cX15_leadBy 102 = .ok (.invokevirtual 572, 3) := by decide +kernel
theorem dX15_leadBy_105 : decode cX15_leadBy 105 = .ok (.ifCond .eq 7, 3) := by decide +kernel
theorem dX15_leadBy_108 : decode cX15_leadBy 108 = .ok (.iconst 1, 1) := by decide +kernel
theorem dX15_leadBy_109 : decode cX15_leadBy 109 = .ok (.goto 4, 3) := by decide +kernel
theorem dX15_leadBy_112 : decode cX15_leadBy 112 = .ok (.iconst 0, 1) := by decide +kernel
theorem dX15_leadBy_113 : decode cX15_leadBy 113 = .ok (.istore 11, 2) := by decide +kernel
theorem dX15_leadBy_115 : decode cX15_leadBy 115 = .ok (.iload 10, 2) := by decide +kernel
theorem dX15_leadBy_117 : decode cX15_leadBy 117 = .ok (.ifCond .le 27, 3) := by decide +kernel
theorem dX15_leadBy_120 : decode cX15_leadBy 120 = .ok (.iload 10, 2) := by decide +kernel
theorem dX15_leadBy_122 : decode cX15_leadBy 122 = .ok (.invokestatic 489, 3) := by decide +kernel
theorem dX15_leadBy_125 : decode cX15_leadBy 125 = .ok (.iload_n 3, 1) := by decide +kernel
theorem dX15_leadBy_126 : decode cX15_leadBy 126 = .ok (.if_icmp .eq 14, 3) := by decide +kernel
theorem dX15_leadBy_129 : decode cX15_leadBy 129 = .ok (.iload 6, 2) := by decide +kernel
theorem dX15_leadBy_131 : decode cX15_leadBy 131 = .ok (.iconst 1, 1) := by decide +kernel
theorem dX15_leadBy_132 : decode cX15_leadBy 132 = .ok (.iand, 1) := by decide +kernel
theorem dX15_leadBy_133 : decode cX15_leadBy 133 = .ok (.ifCond .ne 7, 3) := by decide +kernel
theorem dX15_leadBy_136 : decode cX15_leadBy 136 = .ok (.iconst 1, 1) := by decide +kernel
theorem dX15_leadBy_137 : decode cX15_leadBy 137 = .ok (.goto 19, 3) := by decide +kernel
theorem dX15_leadBy_140 : decode cX15_leadBy 140 = .ok (.iconst 0, 1) := by decide +kernel
theorem dX15_leadBy_141 : decode cX15_leadBy 141 = .ok (.goto 15, 3) := by decide +kernel
theorem dX15_leadBy_144 : decode cX15_leadBy 144 = .ok (.iload 6, 2) := by decide +kernel
theorem dX15_leadBy_146 : decode cX15_leadBy 146 = .ok (.iconst 2, 1) := by decide +kernel
theorem dX15_leadBy_147 : decode cX15_leadBy 147 = .ok (.iand, 1) := by decide +kernel
theorem dX15_leadBy_148 : decode cX15_leadBy 148 = .ok (.ifCond .ne 7, 3) := by decide +kernel
theorem dX15_leadBy_151 : decode cX15_leadBy 151 = .ok (.iconst 1, 1) := by decide +kernel
theorem dX15_leadBy_152 : decode cX15_leadBy 152 = .ok (.goto 4, 3) := by decide +kernel
theorem dX15_leadBy_155 : decode cX15_leadBy 155 = .ok (.iconst 0, 1) := by decide +kernel
theorem dX15_leadBy_156 : decode cX15_leadBy 156 = .ok (.istore 12, 2) := by decide +kernel
theorem dX15_leadBy_158 : decode cX15_leadBy 158 = .ok (.iload 11, 2) := by decide +kernel
theorem dX15_leadBy_160 : decode cX15_leadBy 160 = .ok (.ifCond .ne 8, 3) := by decide +kernel
theorem dX15_leadBy_163 : decode cX15_leadBy 163 = .ok (.iload 12, 2) := by decide +kernel
theorem dX15_leadBy_165 : decode cX15_leadBy 165 = .ok (.ifCond .eq 30, 3) := by decide +kernel
theorem dX15_leadBy_168 : decode cX15_leadBy 168 = .ok (.aload_n 0, 1) := by decide +kernel
theorem dX15_leadBy_169 : decode cX15_leadBy 169 = .ok (.getfield 272, 3) := by decide +kernel
theorem dX15_leadBy_172 : decode cX15_leadBy 172 = .ok (.iload 9, 2) := by decide +kernel
theorem dX15_leadBy_174 : decode cX15_leadBy 174 = .ok (.iload 4, 2) := by decide +kernel
theorem dX15_leadBy_176 : decode cX15_leadBy 176 = .ok (.iastore, 1) := by decide +kernel
theorem dX15_leadBy_177 : decode cX15_leadBy 177 = .ok (.aload_n 0, 1) := by decide +kernel
theorem dX15_leadBy_178 : decode cX15_leadBy 178 = .ok (.getfield 275, 3) := by decide +kernel
theorem dX15_leadBy_181 : decode cX15_leadBy 181 = .ok (.iload 9, 2) := by decide +kernel
theorem dX15_leadBy_183 : decode cX15_leadBy 183 = .ok (.iload 8, 2) := by decide +kernel
theorem dX15_leadBy_185 : decode cX15_leadBy 185 = .ok (.iastore, 1) := by decide +kernel
theorem dX15_leadBy_186 : decode cX15_leadBy 186 = .ok (.aload_n 0, 1) := by decide +kernel
theorem dX15_leadBy_187 : decode cX15_leadBy 187 = .ok (.getfield 278, 3) := by decide +kernel
theorem dX15_leadBy_190 : decode cX15_leadBy 190 = .ok (.iload 9, 2) := by decide +kernel
theorem dX15_leadBy_192 : decode cX15_leadBy 192 = .ok (.iload 11, 2) := by decide +kernel
theorem dX15_leadBy_194 : decode cX15_leadBy 194 = .ok (.bastore, 1) := by decide +kernel
theorem dX15_leadBy_195 : decode cX15_leadBy 195 = .ok (.iload 7, 2) := by decide +kernel
theorem dX15_leadBy_197 : decode cX15_leadBy 197 = .ok (.iload 10, 2) := by decide +kernel
theorem dX15_leadBy_199 : decode cX15_leadBy 199 = .ok (.ifCond .le 7, 3) := by decide +kernel
theorem dX15_leadBy_202 : decode cX15_leadBy 202 = .ok (.iconst 1, 1) := by decide +kernel
theorem dX15_leadBy_203 : decode cX15_leadBy 203 = .ok (.goto 4, 3) := by decide +kernel
theorem dX15_leadBy_206 : decode cX15_leadBy 206 = .ok (.iconst 0, 1) := by decide +kernel
theorem dX15_leadBy_207 : decode cX15_leadBy 207 = .ok (.iadd, 1) := by decide +kernel
theorem dX15_leadBy_208 : decode cX15_leadBy 208 = .ok (.istore 7, 2) := by decide +kernel
theorem dX15_leadBy_210 : decode cX15_leadBy 210 = .ok (.iinc 8 1, 3) := by decide +kernel
theorem dX15_leadBy_213 : decode cX15_leadBy 213 = .ok (.goto (-195), 3) := by decide +kernel
theorem dX15_leadBy_216 : decode cX15_leadBy 216 = .ok (.return_, 1) := by decide +kernel
def sX15_leadBy_216 (F : Nat) (h : Hp) : Option (Hp) := some h
def sX15_leadBy_207 (F : Nat) (k_18 : Hp → Nat → Nat → Int32 → Int32 → Int32 → Int32 → Int32 → Int32 → Int32 → Option (Hp)) (h : Hp) (x0 : Nat) (x1 : Nat) (x2 : Int32) (x3 : Int32) (x4 : Int32) (x5 : Int32) (x6 : Int32) (x8 : Int32) (t0 : Int32) (t1 : Int32) : Option (Hp) := nm (t1 + t0) fun v_1 => nm (x8 + (1 : Int32)) fun v_2 => k_18 h x0 x1 x2 x3 x4 x5 x6 v_1 v_2
def sX15_leadBy_195 (F : Nat) (k_18 : Hp → Nat → Nat → Int32 → Int32 → Int32 → Int32 → Int32 → Int32 → Int32 → Option (Hp)) (h : Hp) (x0 : Nat) (x1 : Nat) (x2 : Int32) (x3 : Int32) (x4 : Int32) (x5 : Int32) (x6 : Int32) (x7 : Int32) (x8 : Int32) (x10 : Int32) : Option (Hp) := br (x10 ≤ 0) (sX15_leadBy_207 F k_18 h x0 x1 x2 x3 x4 x5 x6 x8 (0 : Int32) x7) (sX15_leadBy_207 F k_18 h x0 x1 x2 x3 x4 x5 x6 x8 (1 : Int32) x7)
def sX15_leadBy_168 (F : Nat) (k_18 : Hp → Nat → Nat → Int32 → Int32 → Int32 → Int32 → Int32 → Int32 → Int32 → Option (Hp)) (h : Hp) (x0 : Nat) (x1 : Nat) (x2 : Int32) (x3 : Int32) (x4 : Int32) (x5 : Int32) (x6 : Int32) (x7 : Int32) (x8 : Int32) (x9 : Int32) (x10 : Int32) (x11 : Int32) : Option (Hp) := cl (hR h x0 25) fun r_1 => gd (inB x9 (hN h r_1)) <| nm (wI h r_1 x9.toNatClampNeg x4) fun h_3 => cl (hR h_3 x0 26) fun r_4 => gd (inB x9 (hN h_3 r_4)) <| nm (wI h_3 r_4 x9.toNatClampNeg x8) fun h_6 => cl (hR h_6 x0 27) fun r_7 => gd (inB x9 (hN h_6 r_7)) <| nm (wI h_6 r_7 x9.toNatClampNeg (vp_nar .boolean x11)) fun h_9 => sX15_leadBy_195 F k_18 h_9 x0 x1 x2 x3 x4 x5 x6 x7 x8 x10
def sX15_leadBy_156 (F : Nat) (k_18 : Hp → Nat → Nat → Int32 → Int32 → Int32 → Int32 → Int32 → Int32 → Int32 → Option (Hp)) (h : Hp) (x0 : Nat) (x1 : Nat) (x2 : Int32) (x3 : Int32) (x4 : Int32) (x5 : Int32) (x6 : Int32) (x7 : Int32) (x8 : Int32) (x9 : Int32) (x10 : Int32) (x11 : Int32) (t0 : Int32) : Option (Hp) := br (x11 = 0) (br (t0 = 0) (sX15_leadBy_195 F k_18 h x0 x1 x2 x3 x4 x5 x6 x7 x8 x10) (sX15_leadBy_168 F k_18 h x0 x1 x2 x3 x4 x5 x6 x7 x8 x9 x10 x11)) (sX15_leadBy_168 F k_18 h x0 x1 x2 x3 x4 x5 x6 x7 x8 x9 x10 x11)
def sX15_leadBy_140 (F : Nat) (k_18 : Hp → Nat → Nat → Int32 → Int32 → Int32 → Int32 → Int32 → Int32 → Int32 → Option (Hp)) (h : Hp) (x0 : Nat) (x1 : Nat) (x2 : Int32) (x3 : Int32) (x4 : Int32) (x5 : Int32) (x6 : Int32) (x7 : Int32) (x8 : Int32) (x9 : Int32) (x10 : Int32) (x11 : Int32) : Option (Hp) := sX15_leadBy_156 F k_18 h x0 x1 x2 x3 x4 x5 x6 x7 x8 x9 x10 x11 (0 : Int32)
def sX15_leadBy_113 (F : Nat) (k_18 : Hp → Nat → Nat → Int32 → Int32 → Int32 → Int32 → Int32 → Int32 → Int32 → Option (Hp)) (h : Hp) (x0 : Nat) (x1 : Nat) (x2 : Int32) (x3 : Int32) (x4 : Int32) (x5 : Int32) (x6 : Int32) (x7 : Int32) (x8 : Int32) (x9 : Int32) (x10 : Int32) (t0 : Int32) : Option (Hp) := br (x10 ≤ 0) (br ((x6 &&& (2 : Int32)) = 0) (sX15_leadBy_156 F k_18 h x0 x1 x2 x3 x4 x5 x6 x7 x8 x9 x10 t0 (1 : Int32)) (sX15_leadBy_156 F k_18 h x0 x1 x2 x3 x4 x5 x6 x7 x8 x9 x10 t0 (0 : Int32))) (cl (sX15_sideOf h x10) fun o_3 => br (o_3.1 = x3) (sX15_leadBy_140 F k_18 o_3.2 x0 x1 x2 x3 x4 x5 x6 x7 x8 x9 x10 t0) (br ((x6 &&& (1 : Int32)) = 0) (sX15_leadBy_156 F k_18 o_3.2 x0 x1 x2 x3 x4 x5 x6 x7 x8 x9 x10 t0 (1 : Int32)) (sX15_leadBy_140 F k_18 o_3.2 x0 x1 x2 x3 x4 x5 x6 x7 x8 x9 x10 t0)))
def sX15_leadBy_112 (F : Nat) (k_18 : Hp → Nat → Nat → Int32 → Int32 → Int32 → Int32 → Int32 → Int32 → Int32 → Option (Hp)) (h : Hp) (x0 : Nat) (x1 : Nat) (x2 : Int32) (x3 : Int32) (x4 : Int32) (x5 : Int32) (x6 : Int32) (x7 : Int32) (x8 : Int32) (x9 : Int32) (x10 : Int32) : Option (Hp) := sX15_leadBy_113 F k_18 h x0 x1 x2 x3 x4 x5 x6 x7 x8 x9 x10 (0 : Int32)
def sX15_leadBy_18 (F : Nat) : Nat → Hp → Nat → Nat → Int32 → Int32 → Int32 → Int32 → Int32 → Int32 → Int32 → Option (Hp)
  | 0, _, _, _, _, _, _, _, _, _, _ => none
  | f + 1, h, x0, x1, x2, x3, x4, x5, x6, x7, x8 => cl (hR h x0 4) fun r_1 => cl (hR h r_1 8) fun r_2 => gd (inB x4 (hN h r_2)) <| br ((hI h r_2 x4.toNatClampNeg) < x8) (sX15_leadBy_216 F h ) (br ((2 : Int32) ≤ x7) (sX15_leadBy_216 F h ) (cl (sX15_onward h x0 x2 x8) fun o_6 => br (o_6.1 = (-1 : Int32)) (some o_6.2) (cl (hR o_6.2 x1 0) fun r_8 => gd (inB o_6.1 (hN o_6.2 r_8)) <| nm (hI o_6.2 r_8 o_6.1.toNatClampNeg) fun v_10 => cl (sX15_isFree o_6.2 x6 x7) fun o_11 => br (o_11.1 = 0) (sX15_leadBy_195 F (sX15_leadBy_18 F f) o_11.2 x0 x1 x2 x3 x4 x5 x6 x7 x8 v_10) (cl (hR o_11.2 x0 25) fun r_13 => gd (inB o_6.1 (hN o_11.2 r_13)) <| br ((hI o_11.2 r_13 o_6.1.toNatClampNeg) = (-1 : Int32)) (br (x5 = 0) (sX15_leadBy_112 F (sX15_leadBy_18 F f) o_11.2 x0 x1 x2 x3 x4 x5 x6 x7 x8 o_6.1 v_10) (br ((x6 &&& (32 : Int32)) = 0) (sX15_leadBy_112 F (sX15_leadBy_18 F f) o_11.2 x0 x1 x2 x3 x4 x5 x6 x7 x8 o_6.1 v_10) (cl (sX15_isGoneOver F o_11.2 x0 x1 o_6.1) fun o_18 => br (o_18.1 = 0) (sX15_leadBy_112 F (sX15_leadBy_18 F f) o_18.2 x0 x1 x2 x3 x4 x5 x6 x7 x8 o_6.1 v_10) (sX15_leadBy_113 F (sX15_leadBy_18 F f) o_18.2 x0 x1 x2 x3 x4 x5 x6 x7 x8 o_6.1 v_10 (1 : Int32))))) (sX15_leadBy_195 F (sX15_leadBy_18 F f) o_11.2 x0 x1 x2 x3 x4 x5 x6 x7 x8 v_10)))))
def sX15_leadBy (F : Nat) (h : Hp) (x0 : Nat) (x1 : Nat) (x2 : Int32) (x3 : Int32) (x4 : Int32) (x5 : Int32) : Option (Hp) := cl (hR h x0 4) fun r_1 => cl (hR h r_1 5) fun r_2 => gd (inB x4 (hN h r_2)) <| nm (hI h r_2 x4.toNatClampNeg) fun v_4 => sX15_leadBy_18 F F h x0 x1 x2 x3 x4 x5 v_4 (0 : Int32) (1 : Int32)
set_option maxRecDepth 20000 in
theorem moX15_leadBy_216 {o : Hp} {F : Nat} {h : Hp} (hE : sX15_leadBy_216 F h  = some o) : Le h o := by
  exact le_some1 hE
set_option maxRecDepth 20000 in
theorem moX15_leadBy_207 {o : Hp} {k_18 : Hp → Nat → Nat → Int32 → Int32 → Int32 → Int32 → Int32 → Int32 → Int32 → Option (Hp)} {F : Nat} (mk_18 : ∀ (h : Hp) (x0 : Nat) (x1 : Nat) (x2 : Int32) (x3 : Int32) (x4 : Int32) (x5 : Int32) (x6 : Int32) (x7 : Int32) (x8 : Int32), k_18 h x0 x1 x2 x3 x4 x5 x6 x7 x8 = some o → Le h o) {h : Hp} {x0 : Nat} {x1 : Nat} {x2 : Int32} {x3 : Int32} {x4 : Int32} {x5 : Int32} {x6 : Int32} {x8 : Int32} {t0 : Int32} {t1 : Int32} (hE : sX15_leadBy_207 F k_18 h x0 x1 x2 x3 x4 x5 x6 x8 t0 t1 = some o) : Le h o := by
  obtain ⟨v_1, ev_1, hE⟩ := nm_e2 hE
  obtain ⟨v_2, ev_2, hE⟩ := nm_e2 hE
  exact mk_18 _ _ _ _ _ _ _ _ _ _ hE
set_option maxRecDepth 20000 in
theorem moX15_leadBy_195 {o : Hp} {k_18 : Hp → Nat → Nat → Int32 → Int32 → Int32 → Int32 → Int32 → Int32 → Int32 → Option (Hp)} {F : Nat} (mk_18 : ∀ (h : Hp) (x0 : Nat) (x1 : Nat) (x2 : Int32) (x3 : Int32) (x4 : Int32) (x5 : Int32) (x6 : Int32) (x7 : Int32) (x8 : Int32), k_18 h x0 x1 x2 x3 x4 x5 x6 x7 x8 = some o → Le h o) {h : Hp} {x0 : Nat} {x1 : Nat} {x2 : Int32} {x3 : Int32} {x4 : Int32} {x5 : Int32} {x6 : Int32} {x7 : Int32} {x8 : Int32} {x10 : Int32} (hE : sX15_leadBy_195 F k_18 h x0 x1 x2 x3 x4 x5 x6 x7 x8 x10 = some o) : Le h o := by
  rcases br_e hE with ⟨_, hE⟩ | ⟨_, hE⟩
  · exact moX15_leadBy_207 mk_18 hE
  · exact moX15_leadBy_207 mk_18 hE
set_option maxRecDepth 20000 in
theorem moX15_leadBy_168 {o : Hp} {k_18 : Hp → Nat → Nat → Int32 → Int32 → Int32 → Int32 → Int32 → Int32 → Int32 → Option (Hp)} {F : Nat} (mk_18 : ∀ (h : Hp) (x0 : Nat) (x1 : Nat) (x2 : Int32) (x3 : Int32) (x4 : Int32) (x5 : Int32) (x6 : Int32) (x7 : Int32) (x8 : Int32), k_18 h x0 x1 x2 x3 x4 x5 x6 x7 x8 = some o → Le h o) {h : Hp} {x0 : Nat} {x1 : Nat} {x2 : Int32} {x3 : Int32} {x4 : Int32} {x5 : Int32} {x6 : Int32} {x7 : Int32} {x8 : Int32} {x9 : Int32} {x10 : Int32} {x11 : Int32} (hE : sX15_leadBy_168 F k_18 h x0 x1 x2 x3 x4 x5 x6 x7 x8 x9 x10 x11 = some o) : Le h o := by
  obtain ⟨r_1, er_1, hE⟩ := cl_e hE
  obtain ⟨g_2, hE⟩ := gd_e hE
  obtain ⟨h_3, eh_3, hE⟩ := nm_e2 hE
  refine (le_I eh_3).tr ?_
  obtain ⟨r_4, er_4, hE⟩ := cl_e hE
  obtain ⟨g_5, hE⟩ := gd_e hE
  obtain ⟨h_6, eh_6, hE⟩ := nm_e2 hE
  refine (le_I eh_6).tr ?_
  obtain ⟨r_7, er_7, hE⟩ := cl_e hE
  obtain ⟨g_8, hE⟩ := gd_e hE
  obtain ⟨h_9, eh_9, hE⟩ := nm_e2 hE
  refine (le_I eh_9).tr ?_
  exact moX15_leadBy_195 mk_18 hE
set_option maxRecDepth 20000 in
theorem moX15_leadBy_156 {o : Hp} {k_18 : Hp → Nat → Nat → Int32 → Int32 → Int32 → Int32 → Int32 → Int32 → Int32 → Option (Hp)} {F : Nat} (mk_18 : ∀ (h : Hp) (x0 : Nat) (x1 : Nat) (x2 : Int32) (x3 : Int32) (x4 : Int32) (x5 : Int32) (x6 : Int32) (x7 : Int32) (x8 : Int32), k_18 h x0 x1 x2 x3 x4 x5 x6 x7 x8 = some o → Le h o) {h : Hp} {x0 : Nat} {x1 : Nat} {x2 : Int32} {x3 : Int32} {x4 : Int32} {x5 : Int32} {x6 : Int32} {x7 : Int32} {x8 : Int32} {x9 : Int32} {x10 : Int32} {x11 : Int32} {t0 : Int32} (hE : sX15_leadBy_156 F k_18 h x0 x1 x2 x3 x4 x5 x6 x7 x8 x9 x10 x11 t0 = some o) : Le h o := by
  rcases br_e hE with ⟨_, hE⟩ | ⟨_, hE⟩
  · rcases br_e hE with ⟨_, hE⟩ | ⟨_, hE⟩
    · exact moX15_leadBy_195 mk_18 hE
    · exact moX15_leadBy_168 mk_18 hE
  · exact moX15_leadBy_168 mk_18 hE
set_option maxRecDepth 20000 in
theorem moX15_leadBy_140 {o : Hp} {k_18 : Hp → Nat → Nat → Int32 → Int32 → Int32 → Int32 → Int32 → Int32 → Int32 → Option (Hp)} {F : Nat} (mk_18 : ∀ (h : Hp) (x0 : Nat) (x1 : Nat) (x2 : Int32) (x3 : Int32) (x4 : Int32) (x5 : Int32) (x6 : Int32) (x7 : Int32) (x8 : Int32), k_18 h x0 x1 x2 x3 x4 x5 x6 x7 x8 = some o → Le h o) {h : Hp} {x0 : Nat} {x1 : Nat} {x2 : Int32} {x3 : Int32} {x4 : Int32} {x5 : Int32} {x6 : Int32} {x7 : Int32} {x8 : Int32} {x9 : Int32} {x10 : Int32} {x11 : Int32} (hE : sX15_leadBy_140 F k_18 h x0 x1 x2 x3 x4 x5 x6 x7 x8 x9 x10 x11 = some o) : Le h o := by
  exact moX15_leadBy_156 mk_18 hE
set_option maxRecDepth 20000 in
theorem moX15_leadBy_113 {o : Hp} {k_18 : Hp → Nat → Nat → Int32 → Int32 → Int32 → Int32 → Int32 → Int32 → Int32 → Option (Hp)} {F : Nat} (mk_18 : ∀ (h : Hp) (x0 : Nat) (x1 : Nat) (x2 : Int32) (x3 : Int32) (x4 : Int32) (x5 : Int32) (x6 : Int32) (x7 : Int32) (x8 : Int32), k_18 h x0 x1 x2 x3 x4 x5 x6 x7 x8 = some o → Le h o) {h : Hp} {x0 : Nat} {x1 : Nat} {x2 : Int32} {x3 : Int32} {x4 : Int32} {x5 : Int32} {x6 : Int32} {x7 : Int32} {x8 : Int32} {x9 : Int32} {x10 : Int32} {t0 : Int32} (hE : sX15_leadBy_113 F k_18 h x0 x1 x2 x3 x4 x5 x6 x7 x8 x9 x10 t0 = some o) : Le h o := by
  rcases br_e hE with ⟨_, hE⟩ | ⟨_, hE⟩
  · rcases br_e hE with ⟨_, hE⟩ | ⟨_, hE⟩
    · exact moX15_leadBy_156 mk_18 hE
    · exact moX15_leadBy_156 mk_18 hE
  · obtain ⟨o_3, eo_3, hE⟩ := cl_e hE
    refine (moX15_sideOf eo_3).tr ?_
    rcases br_e hE with ⟨_, hE⟩ | ⟨_, hE⟩
    · exact moX15_leadBy_140 mk_18 hE
    · rcases br_e hE with ⟨_, hE⟩ | ⟨_, hE⟩
      · exact moX15_leadBy_156 mk_18 hE
      · exact moX15_leadBy_140 mk_18 hE
set_option maxRecDepth 20000 in
theorem moX15_leadBy_112 {o : Hp} {k_18 : Hp → Nat → Nat → Int32 → Int32 → Int32 → Int32 → Int32 → Int32 → Int32 → Option (Hp)} {F : Nat} (mk_18 : ∀ (h : Hp) (x0 : Nat) (x1 : Nat) (x2 : Int32) (x3 : Int32) (x4 : Int32) (x5 : Int32) (x6 : Int32) (x7 : Int32) (x8 : Int32), k_18 h x0 x1 x2 x3 x4 x5 x6 x7 x8 = some o → Le h o) {h : Hp} {x0 : Nat} {x1 : Nat} {x2 : Int32} {x3 : Int32} {x4 : Int32} {x5 : Int32} {x6 : Int32} {x7 : Int32} {x8 : Int32} {x9 : Int32} {x10 : Int32} (hE : sX15_leadBy_112 F k_18 h x0 x1 x2 x3 x4 x5 x6 x7 x8 x9 x10 = some o) : Le h o := by
  exact moX15_leadBy_113 mk_18 hE
set_option maxRecDepth 20000 in
theorem moX15_leadBy_18 {o : Hp} {F : Nat} : ∀ (f : Nat) {h : Hp} {x0 : Nat} {x1 : Nat} {x2 : Int32} {x3 : Int32} {x4 : Int32} {x5 : Int32} {x6 : Int32} {x7 : Int32} {x8 : Int32}, sX15_leadBy_18 F f h x0 x1 x2 x3 x4 x5 x6 x7 x8 = some o → Le h o := by
  intro f
  induction f with
  | zero =>
    intro h x0 x1 x2 x3 x4 x5 x6 x7 x8 hE
    rw [sX15_leadBy_18] at hE
    cases hE
  | succ f ih =>
    intro h x0 x1 x2 x3 x4 x5 x6 x7 x8 hE
    rw [sX15_leadBy_18] at hE
    have mk_18 : ∀ (h : Hp) (x0 : Nat) (x1 : Nat) (x2 : Int32) (x3 : Int32) (x4 : Int32) (x5 : Int32) (x6 : Int32) (x7 : Int32) (x8 : Int32), sX15_leadBy_18 F f h x0 x1 x2 x3 x4 x5 x6 x7 x8 = some o → Le h o := fun h x0 x1 x2 x3 x4 x5 x6 x7 x8 hE => ih hE
    obtain ⟨r_1, er_1, hE⟩ := cl_e hE
    obtain ⟨r_2, er_2, hE⟩ := cl_e hE
    obtain ⟨g_3, hE⟩ := gd_e hE
    rcases br_e hE with ⟨_, hE⟩ | ⟨_, hE⟩
    · exact moX15_leadBy_216 hE
    · rcases br_e hE with ⟨_, hE⟩ | ⟨_, hE⟩
      · exact moX15_leadBy_216 hE
      · obtain ⟨o_6, eo_6, hE⟩ := cl_e hE
        refine (moX15_onward eo_6).tr ?_
        rcases br_e hE with ⟨_, hE⟩ | ⟨_, hE⟩
        · exact le_some1 hE
        · obtain ⟨r_8, er_8, hE⟩ := cl_e hE
          obtain ⟨g_9, hE⟩ := gd_e hE
          obtain ⟨v_10, ev_10, hE⟩ := nm_e2 hE
          obtain ⟨o_11, eo_11, hE⟩ := cl_e hE
          refine (moX15_isFree eo_11).tr ?_
          rcases br_e hE with ⟨_, hE⟩ | ⟨_, hE⟩
          · exact moX15_leadBy_195 mk_18 hE
          · obtain ⟨r_13, er_13, hE⟩ := cl_e hE
            obtain ⟨g_14, hE⟩ := gd_e hE
            rcases br_e hE with ⟨_, hE⟩ | ⟨_, hE⟩
            · rcases br_e hE with ⟨_, hE⟩ | ⟨_, hE⟩
              · exact moX15_leadBy_112 mk_18 hE
              · rcases br_e hE with ⟨_, hE⟩ | ⟨_, hE⟩
                · exact moX15_leadBy_112 mk_18 hE
                · obtain ⟨o_18, eo_18, hE⟩ := cl_e hE
                  refine (moX15_isGoneOver eo_18).tr ?_
                  rcases br_e hE with ⟨_, hE⟩ | ⟨_, hE⟩
                  · exact moX15_leadBy_112 mk_18 hE
                  · exact moX15_leadBy_113 mk_18 hE
            · exact moX15_leadBy_195 mk_18 hE
set_option maxRecDepth 20000 in
theorem moX15_leadBy {o : Hp} {F : Nat} {h : Hp} {x0 : Nat} {x1 : Nat} {x2 : Int32} {x3 : Int32} {x4 : Int32} {x5 : Int32} (hE : sX15_leadBy F h x0 x1 x2 x3 x4 x5 = some o) : Le h o := by
  obtain ⟨r_1, er_1, hE⟩ := cl_e hE
  obtain ⟨r_2, er_2, hE⟩ := cl_e hE
  obtain ⟨g_3, hE⟩ := gd_e hE
  obtain ⟨v_4, ev_4, hE⟩ := nm_e2 hE
  exact moX15_leadBy_18 _ hE
set_option maxRecDepth 20000 in
theorem bX15_leadBy_216 {p : Program} {l : Launch} {e : Env} {s : State} {m : MethodId} {args : Array Value} {below : List Frame} {meth : Method} {c : Code} {X : Ec} {h0 : Hp} {o : Hp} {F : Nat} (C : Cx X p s m args meth c RX15 cX15_leadBy 13 none "leadBy") {h : Hp} {H : Heap} {locs : List Loc} (hkm : Km h0 h) (hW : Wx X h H) (hZ : va_S (aA (eB X)) s.heap H locs) (ls : Array Slot) (hl : lv_has ls 13 []) (hE : sX15_leadBy_216 F h  = some o) : W p l e (rm 1 24) s m args below meth c H locs 0 0 (MQ below (QV X h0 o) args s 0 0 (aA (eB X))) (F0 m 216 ls []) := by
  exact x_vret C rfl hW hZ hkm hE dX15_leadBy_216
set_option maxRecDepth 20000 in
theorem bX15_leadBy_207 {p : Program} {l : Launch} {e : Env} {s : State} {m : MethodId} {args : Array Value} {below : List Frame} {meth : Method} {c : Code} {X : Ec} {h0 : Hp} {o : Hp} {k_18 : Hp → Nat → Nat → Int32 → Int32 → Int32 → Int32 → Int32 → Int32 → Int32 → Option (Hp)} {F : Nat} (C : Cx X p s m args meth c RX15 cX15_leadBy 13 none "leadBy") (hk_18 : ∀ (h : Hp) (x0 : Nat) (x1 : Nat) (x2 : Int32) (x3 : Int32) (x4 : Int32) (x5 : Int32) (x6 : Int32) (x7 : Int32) (x8 : Int32) (H : Heap) (locs : List Loc), hK h x0 = 15 → hK h x1 = 12 → Km h0 h → Wx X h H → va_S (aA (eB X)) s.heap H locs → ∀ (ls : Array Slot), lv_has ls 13 [(0, .ref x0), (1, .ref x1), (2, .int x2), (3, .int x3), (4, .int x4), (5, .int x5), (6, .int x6), (7, .int x7), (8, .int x8)] → k_18 h x0 x1 x2 x3 x4 x5 x6 x7 x8 = some o → W p l e (rm 1 24) s m args below meth c H locs 0 0 (MQ below (QV X h0 o) args s 0 0 (aA (eB X))) (F0 m 18 ls [])) {h : Hp} {x0 : Nat} {x1 : Nat} {x2 : Int32} {x3 : Int32} {x4 : Int32} {x5 : Int32} {x6 : Int32} {x8 : Int32} {t0 : Int32} {t1 : Int32} {H : Heap} {locs : List Loc} (k_x0 : hK h x0 = 15) (k_x1 : hK h x1 = 12) (hkm : Km h0 h) (hW : Wx X h H) (hZ : va_S (aA (eB X)) s.heap H locs) (ls : Array Slot) (hl : lv_has ls 13 [(0, .ref x0), (1, .ref x1), (2, .int x2), (3, .int x3), (4, .int x4), (5, .int x5), (6, .int x6), (8, .int x8)]) (hE : sX15_leadBy_207 F k_18 h x0 x1 x2 x3 x4 x5 x6 x8 t0 t1 = some o) : W p l e (rm 1 24) s m args below meth c H locs 0 0 (MQ below (QV X h0 o) args s 0 0 (aA (eB X))) (F0 m 207 ls [.int t0, .int t1]) := by
  refine lv_iadd C.1 C.2.1 dX15_leadBy_207 ?_
  obtain ⟨v_1, ev_1, hE⟩ := nm_e2 hE
  refine x_nmI ev_1 ?_
  refine lv_istore (lv' := [(7, .int v_1), (0, .ref x0), (1, .ref x1), (2, .int x2), (3, .int x3), (4, .int x4), (5, .int x5), (6, .int x6), (8, .int x8)]) C.1 C.2.1 dX15_leadBy_208 hl (by decide) rfl (fun ls hl => ?_)
  obtain ⟨v_2, ev_2, hE⟩ := nm_e2 hE
  refine lv_iinc (v := v_2) (lv' := [(8, .int v_2), (7, .int v_1), (0, .ref x0), (1, .ref x1), (2, .int x2), (3, .int x3), (4, .int x4), (5, .int x5), (6, .int x6)]) C.1 C.2.1 dX15_leadBy_210 hl (k := 8) rfl (by rw [ev_2]; rfl) (by decide) rfl (fun ls hl => ?_)
  refine lv_goto (tgt := 18) C.1 C.2.1 dX15_leadBy_213 (by decide) ?_
  exact hk_18 _ _ _ _ _ _ _ _ _ _ _ _ k_x0 k_x1 hkm hW hZ _ (lv_sub hl [2, 3, 4, 5, 6, 7, 8, 1, 0] rfl) hE
set_option maxRecDepth 20000 in
theorem bX15_leadBy_195 {p : Program} {l : Launch} {e : Env} {s : State} {m : MethodId} {args : Array Value} {below : List Frame} {meth : Method} {c : Code} {X : Ec} {h0 : Hp} {o : Hp} {k_18 : Hp → Nat → Nat → Int32 → Int32 → Int32 → Int32 → Int32 → Int32 → Int32 → Option (Hp)} {F : Nat} (C : Cx X p s m args meth c RX15 cX15_leadBy 13 none "leadBy") (hk_18 : ∀ (h : Hp) (x0 : Nat) (x1 : Nat) (x2 : Int32) (x3 : Int32) (x4 : Int32) (x5 : Int32) (x6 : Int32) (x7 : Int32) (x8 : Int32) (H : Heap) (locs : List Loc), hK h x0 = 15 → hK h x1 = 12 → Km h0 h → Wx X h H → va_S (aA (eB X)) s.heap H locs → ∀ (ls : Array Slot), lv_has ls 13 [(0, .ref x0), (1, .ref x1), (2, .int x2), (3, .int x3), (4, .int x4), (5, .int x5), (6, .int x6), (7, .int x7), (8, .int x8)] → k_18 h x0 x1 x2 x3 x4 x5 x6 x7 x8 = some o → W p l e (rm 1 24) s m args below meth c H locs 0 0 (MQ below (QV X h0 o) args s 0 0 (aA (eB X))) (F0 m 18 ls [])) {h : Hp} {x0 : Nat} {x1 : Nat} {x2 : Int32} {x3 : Int32} {x4 : Int32} {x5 : Int32} {x6 : Int32} {x7 : Int32} {x8 : Int32} {x10 : Int32} {H : Heap} {locs : List Loc} (k_x0 : hK h x0 = 15) (k_x1 : hK h x1 = 12) (hkm : Km h0 h) (hW : Wx X h H) (hZ : va_S (aA (eB X)) s.heap H locs) (ls : Array Slot) (hl : lv_has ls 13 [(0, .ref x0), (1, .ref x1), (2, .int x2), (3, .int x3), (4, .int x4), (5, .int x5), (6, .int x6), (7, .int x7), (8, .int x8), (10, .int x10)]) (hE : sX15_leadBy_195 F k_18 h x0 x1 x2 x3 x4 x5 x6 x7 x8 x10 = some o) : W p l e (rm 1 24) s m args below meth c H locs 0 0 (MQ below (QV X h0 o) args s 0 0 (aA (eB X))) (F0 m 195 ls []) := by
  refine lv_iload C.1 C.2.1 dX15_leadBy_195 (lv_at hl 7 rfl) ?_
  refine lv_iload C.1 C.2.1 dX15_leadBy_197 (lv_at hl 9 rfl) ?_
  refine lv_if_le (tgt := 206) C.1 C.2.1 dX15_leadBy_199 (by decide) (fun c_1 => ?_) (fun c_1 => ?_)
  · have hE := br_p hE c_1
    refine lv_iconst (v := (0 : Int32)) C.1 C.2.1 dX15_leadBy_206 (by decide) ?_
    exact bX15_leadBy_207 C hk_18 k_x0 k_x1 hkm hW hZ _ (lv_sub hl [0, 1, 2, 3, 4, 5, 6, 8] rfl) hE
  · have hE := br_n hE c_1
    refine lv_iconst (v := (1 : Int32)) C.1 C.2.1 dX15_leadBy_202 (by decide) ?_
    refine lv_goto (tgt := 207) C.1 C.2.1 dX15_leadBy_203 (by decide) ?_
    exact bX15_leadBy_207 C hk_18 k_x0 k_x1 hkm hW hZ _ (lv_sub hl [0, 1, 2, 3, 4, 5, 6, 8] rfl) hE
set_option maxRecDepth 20000 in
theorem bX15_leadBy_168 {p : Program} {l : Launch} {e : Env} {s : State} {m : MethodId} {args : Array Value} {below : List Frame} {meth : Method} {c : Code} {X : Ec} {h0 : Hp} {o : Hp} {k_18 : Hp → Nat → Nat → Int32 → Int32 → Int32 → Int32 → Int32 → Int32 → Int32 → Option (Hp)} {F : Nat} (C : Cx X p s m args meth c RX15 cX15_leadBy 13 none "leadBy") (hk_18 : ∀ (h : Hp) (x0 : Nat) (x1 : Nat) (x2 : Int32) (x3 : Int32) (x4 : Int32) (x5 : Int32) (x6 : Int32) (x7 : Int32) (x8 : Int32) (H : Heap) (locs : List Loc), hK h x0 = 15 → hK h x1 = 12 → Km h0 h → Wx X h H → va_S (aA (eB X)) s.heap H locs → ∀ (ls : Array Slot), lv_has ls 13 [(0, .ref x0), (1, .ref x1), (2, .int x2), (3, .int x3), (4, .int x4), (5, .int x5), (6, .int x6), (7, .int x7), (8, .int x8)] → k_18 h x0 x1 x2 x3 x4 x5 x6 x7 x8 = some o → W p l e (rm 1 24) s m args below meth c H locs 0 0 (MQ below (QV X h0 o) args s 0 0 (aA (eB X))) (F0 m 18 ls [])) {h : Hp} {x0 : Nat} {x1 : Nat} {x2 : Int32} {x3 : Int32} {x4 : Int32} {x5 : Int32} {x6 : Int32} {x7 : Int32} {x8 : Int32} {x9 : Int32} {x10 : Int32} {x11 : Int32} {H : Heap} {locs : List Loc} (k_x0 : hK h x0 = 15) (k_x1 : hK h x1 = 12) (hkm : Km h0 h) (hW : Wx X h H) (hZ : va_S (aA (eB X)) s.heap H locs) (ls : Array Slot) (hl : lv_has ls 13 [(0, .ref x0), (1, .ref x1), (2, .int x2), (3, .int x3), (4, .int x4), (5, .int x5), (6, .int x6), (7, .int x7), (8, .int x8), (9, .int x9), (10, .int x10), (11, .int x11)]) (hE : sX15_leadBy_168 F k_18 h x0 x1 x2 x3 x4 x5 x6 x7 x8 x9 x10 x11 = some o) : W p l e (rm 1 24) s m args below meth c H locs 0 0 (MQ below (QV X h0 o) args s 0 0 (aA (eB X))) (F0 m 168 ls []) := by
  refine lv_aload_n C.1 C.2.1 dX15_leadBy_168 rfl (lv_at hl 0 rfl) ?_
  obtain ⟨r_1, er_1, hE⟩ := cl_e hE
  refine gf_X15_272 C hW k_x0 er_1 dX15_leadBy_169 (fun k_r_1 => ?_)
  refine lv_iload C.1 C.2.1 dX15_leadBy_172 (lv_at hl 9 rfl) ?_
  refine lv_iload C.1 C.2.1 dX15_leadBy_174 (lv_at hl 4 rfl) ?_
  obtain ⟨g_2, hE⟩ := gd_e hE
  obtain ⟨h_3, eh_3, hE⟩ := nm_e2 hE
  refine y_iast C hW hZ k_r_1 g_2 eh_3 dX15_leadBy_176 (fun _ _ hW km hZ => ?_)
  replace hkm := hkm.tr km
  replace k_x0 := km.at k_x0 (by decide)
  replace k_x1 := km.at k_x1 (by decide)
  refine lv_aload_n C.1 C.2.1 dX15_leadBy_177 rfl (lv_at hl 0 rfl) ?_
  obtain ⟨r_4, er_4, hE⟩ := cl_e hE
  refine gf_X15_275 C hW k_x0 er_4 dX15_leadBy_178 (fun k_r_4 => ?_)
  refine lv_iload C.1 C.2.1 dX15_leadBy_181 (lv_at hl 9 rfl) ?_
  refine lv_iload C.1 C.2.1 dX15_leadBy_183 (lv_at hl 8 rfl) ?_
  obtain ⟨g_5, hE⟩ := gd_e hE
  obtain ⟨h_6, eh_6, hE⟩ := nm_e2 hE
  refine y_iast C hW hZ k_r_4 g_5 eh_6 dX15_leadBy_185 (fun _ _ hW km hZ => ?_)
  replace hkm := hkm.tr km
  replace k_x0 := km.at k_x0 (by decide)
  replace k_x1 := km.at k_x1 (by decide)
  refine lv_aload_n C.1 C.2.1 dX15_leadBy_186 rfl (lv_at hl 0 rfl) ?_
  obtain ⟨r_7, er_7, hE⟩ := cl_e hE
  refine gf_X15_278 C hW k_x0 er_7 dX15_leadBy_187 (fun k_r_7 => ?_)
  refine lv_iload C.1 C.2.1 dX15_leadBy_190 (lv_at hl 9 rfl) ?_
  refine lv_iload C.1 C.2.1 dX15_leadBy_192 (lv_at hl 11 rfl) ?_
  obtain ⟨g_8, hE⟩ := gd_e hE
  obtain ⟨h_9, eh_9, hE⟩ := nm_e2 hE
  refine y_zast C hW hZ k_r_7 g_8 eh_9 dX15_leadBy_194 (fun _ _ hW km hZ => ?_)
  replace hkm := hkm.tr km
  replace k_x0 := km.at k_x0 (by decide)
  replace k_x1 := km.at k_x1 (by decide)
  exact bX15_leadBy_195 C hk_18 k_x0 k_x1 hkm hW hZ _ (lv_sub hl [0, 1, 2, 3, 4, 5, 6, 7, 8, 10] rfl) hE
set_option maxRecDepth 20000 in
theorem bX15_leadBy_156 {p : Program} {l : Launch} {e : Env} {s : State} {m : MethodId} {args : Array Value} {below : List Frame} {meth : Method} {c : Code} {X : Ec} {h0 : Hp} {o : Hp} {k_18 : Hp → Nat → Nat → Int32 → Int32 → Int32 → Int32 → Int32 → Int32 → Int32 → Option (Hp)} {F : Nat} (C : Cx X p s m args meth c RX15 cX15_leadBy 13 none "leadBy") (hk_18 : ∀ (h : Hp) (x0 : Nat) (x1 : Nat) (x2 : Int32) (x3 : Int32) (x4 : Int32) (x5 : Int32) (x6 : Int32) (x7 : Int32) (x8 : Int32) (H : Heap) (locs : List Loc), hK h x0 = 15 → hK h x1 = 12 → Km h0 h → Wx X h H → va_S (aA (eB X)) s.heap H locs → ∀ (ls : Array Slot), lv_has ls 13 [(0, .ref x0), (1, .ref x1), (2, .int x2), (3, .int x3), (4, .int x4), (5, .int x5), (6, .int x6), (7, .int x7), (8, .int x8)] → k_18 h x0 x1 x2 x3 x4 x5 x6 x7 x8 = some o → W p l e (rm 1 24) s m args below meth c H locs 0 0 (MQ below (QV X h0 o) args s 0 0 (aA (eB X))) (F0 m 18 ls [])) {h : Hp} {x0 : Nat} {x1 : Nat} {x2 : Int32} {x3 : Int32} {x4 : Int32} {x5 : Int32} {x6 : Int32} {x7 : Int32} {x8 : Int32} {x9 : Int32} {x10 : Int32} {x11 : Int32} {t0 : Int32} {H : Heap} {locs : List Loc} (k_x0 : hK h x0 = 15) (k_x1 : hK h x1 = 12) (hkm : Km h0 h) (hW : Wx X h H) (hZ : va_S (aA (eB X)) s.heap H locs) (ls : Array Slot) (hl : lv_has ls 13 [(0, .ref x0), (1, .ref x1), (2, .int x2), (3, .int x3), (4, .int x4), (5, .int x5), (6, .int x6), (7, .int x7), (8, .int x8), (9, .int x9), (10, .int x10), (11, .int x11)]) (hE : sX15_leadBy_156 F k_18 h x0 x1 x2 x3 x4 x5 x6 x7 x8 x9 x10 x11 t0 = some o) : W p l e (rm 1 24) s m args below meth c H locs 0 0 (MQ below (QV X h0 o) args s 0 0 (aA (eB X))) (F0 m 156 ls [.int t0]) := by
  refine lv_istore (lv' := [(12, .int t0), (0, .ref x0), (1, .ref x1), (2, .int x2), (3, .int x3), (4, .int x4), (5, .int x5), (6, .int x6), (7, .int x7), (8, .int x8), (9, .int x9), (10, .int x10), (11, .int x11)]) C.1 C.2.1 dX15_leadBy_156 hl (by decide) rfl (fun ls hl => ?_)
  refine lv_iload C.1 C.2.1 dX15_leadBy_158 (lv_at hl 12 rfl) ?_
  refine lv_if_ne (tgt := 168) C.1 C.2.1 dX15_leadBy_160 (by decide) (fun c_1 => ?_) (fun c_1 => ?_)
  · have hE := br_n hE c_1
    exact bX15_leadBy_168 C hk_18 k_x0 k_x1 hkm hW hZ _ (lv_sub hl [1, 2, 3, 4, 5, 6, 7, 8, 9, 10, 11, 12] rfl) hE
  · have hE := br_p hE c_1
    refine lv_iload C.1 C.2.1 dX15_leadBy_163 (lv_at hl 0 rfl) ?_
    refine lv_if_eq (tgt := 195) C.1 C.2.1 dX15_leadBy_165 (by decide) (fun c_2 => ?_) (fun c_2 => ?_)
    · have hE := br_p hE c_2
      exact bX15_leadBy_195 C hk_18 k_x0 k_x1 hkm hW hZ _ (lv_sub hl [1, 2, 3, 4, 5, 6, 7, 8, 9, 11] rfl) hE
    · have hE := br_n hE c_2
      exact bX15_leadBy_168 C hk_18 k_x0 k_x1 hkm hW hZ _ (lv_sub hl [1, 2, 3, 4, 5, 6, 7, 8, 9, 10, 11, 12] rfl) hE
set_option maxRecDepth 20000 in
theorem bX15_leadBy_140 {p : Program} {l : Launch} {e : Env} {s : State} {m : MethodId} {args : Array Value} {below : List Frame} {meth : Method} {c : Code} {X : Ec} {h0 : Hp} {o : Hp} {k_18 : Hp → Nat → Nat → Int32 → Int32 → Int32 → Int32 → Int32 → Int32 → Int32 → Option (Hp)} {F : Nat} (C : Cx X p s m args meth c RX15 cX15_leadBy 13 none "leadBy") (hk_18 : ∀ (h : Hp) (x0 : Nat) (x1 : Nat) (x2 : Int32) (x3 : Int32) (x4 : Int32) (x5 : Int32) (x6 : Int32) (x7 : Int32) (x8 : Int32) (H : Heap) (locs : List Loc), hK h x0 = 15 → hK h x1 = 12 → Km h0 h → Wx X h H → va_S (aA (eB X)) s.heap H locs → ∀ (ls : Array Slot), lv_has ls 13 [(0, .ref x0), (1, .ref x1), (2, .int x2), (3, .int x3), (4, .int x4), (5, .int x5), (6, .int x6), (7, .int x7), (8, .int x8)] → k_18 h x0 x1 x2 x3 x4 x5 x6 x7 x8 = some o → W p l e (rm 1 24) s m args below meth c H locs 0 0 (MQ below (QV X h0 o) args s 0 0 (aA (eB X))) (F0 m 18 ls [])) {h : Hp} {x0 : Nat} {x1 : Nat} {x2 : Int32} {x3 : Int32} {x4 : Int32} {x5 : Int32} {x6 : Int32} {x7 : Int32} {x8 : Int32} {x9 : Int32} {x10 : Int32} {x11 : Int32} {H : Heap} {locs : List Loc} (k_x0 : hK h x0 = 15) (k_x1 : hK h x1 = 12) (hkm : Km h0 h) (hW : Wx X h H) (hZ : va_S (aA (eB X)) s.heap H locs) (ls : Array Slot) (hl : lv_has ls 13 [(0, .ref x0), (1, .ref x1), (2, .int x2), (3, .int x3), (4, .int x4), (5, .int x5), (6, .int x6), (7, .int x7), (8, .int x8), (9, .int x9), (10, .int x10), (11, .int x11)]) (hE : sX15_leadBy_140 F k_18 h x0 x1 x2 x3 x4 x5 x6 x7 x8 x9 x10 x11 = some o) : W p l e (rm 1 24) s m args below meth c H locs 0 0 (MQ below (QV X h0 o) args s 0 0 (aA (eB X))) (F0 m 140 ls []) := by
  refine lv_iconst (v := (0 : Int32)) C.1 C.2.1 dX15_leadBy_140 (by decide) ?_
  refine lv_goto (tgt := 156) C.1 C.2.1 dX15_leadBy_141 (by decide) ?_
  exact bX15_leadBy_156 C hk_18 k_x0 k_x1 hkm hW hZ _ (lv_sub hl [0, 1, 2, 3, 4, 5, 6, 7, 8, 9, 10, 11] rfl) hE
set_option maxRecDepth 20000 in
theorem bX15_leadBy_113 {p : Program} {l : Launch} {e : Env} {s : State} {m : MethodId} {args : Array Value} {below : List Frame} {meth : Method} {c : Code} {X : Ec} {h0 : Hp} {o : Hp} {k_18 : Hp → Nat → Nat → Int32 → Int32 → Int32 → Int32 → Int32 → Int32 → Int32 → Option (Hp)} {F : Nat} (C : Cx X p s m args meth c RX15 cX15_leadBy 13 none "leadBy") (hk_18 : ∀ (h : Hp) (x0 : Nat) (x1 : Nat) (x2 : Int32) (x3 : Int32) (x4 : Int32) (x5 : Int32) (x6 : Int32) (x7 : Int32) (x8 : Int32) (H : Heap) (locs : List Loc), hK h x0 = 15 → hK h x1 = 12 → Km h0 h → Wx X h H → va_S (aA (eB X)) s.heap H locs → ∀ (ls : Array Slot), lv_has ls 13 [(0, .ref x0), (1, .ref x1), (2, .int x2), (3, .int x3), (4, .int x4), (5, .int x5), (6, .int x6), (7, .int x7), (8, .int x8)] → k_18 h x0 x1 x2 x3 x4 x5 x6 x7 x8 = some o → W p l e (rm 1 24) s m args below meth c H locs 0 0 (MQ below (QV X h0 o) args s 0 0 (aA (eB X))) (F0 m 18 ls [])) {h : Hp} {x0 : Nat} {x1 : Nat} {x2 : Int32} {x3 : Int32} {x4 : Int32} {x5 : Int32} {x6 : Int32} {x7 : Int32} {x8 : Int32} {x9 : Int32} {x10 : Int32} {t0 : Int32} {H : Heap} {locs : List Loc} (k_x0 : hK h x0 = 15) (k_x1 : hK h x1 = 12) (hkm : Km h0 h) (hW : Wx X h H) (hZ : va_S (aA (eB X)) s.heap H locs) (ls : Array Slot) (hl : lv_has ls 13 [(0, .ref x0), (1, .ref x1), (2, .int x2), (3, .int x3), (4, .int x4), (5, .int x5), (6, .int x6), (7, .int x7), (8, .int x8), (9, .int x9), (10, .int x10)]) (hE : sX15_leadBy_113 F k_18 h x0 x1 x2 x3 x4 x5 x6 x7 x8 x9 x10 t0 = some o) : W p l e (rm 1 24) s m args below meth c H locs 0 0 (MQ below (QV X h0 o) args s 0 0 (aA (eB X))) (F0 m 113 ls [.int t0]) := by
  refine lv_istore (lv' := [(11, .int t0), (0, .ref x0), (1, .ref x1), (2, .int x2), (3, .int x3), (4, .int x4), (5, .int x5), (6, .int x6), (7, .int x7), (8, .int x8), (9, .int x9), (10, .int x10)]) C.1 C.2.1 dX15_leadBy_113 hl (by decide) rfl (fun ls hl => ?_)
  refine lv_iload C.1 C.2.1 dX15_leadBy_115 (lv_at hl 11 rfl) ?_
  refine lv_if_le (tgt := 144) C.1 C.2.1 dX15_leadBy_117 (by decide) (fun c_1 => ?_) (fun c_1 => ?_)
  · have hE := br_p hE c_1
    refine lv_iload C.1 C.2.1 dX15_leadBy_144 (lv_at hl 7 rfl) ?_
    refine lv_iconst (v := (2 : Int32)) C.1 C.2.1 dX15_leadBy_146 (by decide) ?_
    refine lv_iand C.1 C.2.1 dX15_leadBy_147 ?_
    refine lv_if_ne (tgt := 155) C.1 C.2.1 dX15_leadBy_148 (by decide) (fun c_2 => ?_) (fun c_2 => ?_)
    · have hE := br_n hE c_2
      refine lv_iconst (v := (0 : Int32)) C.1 C.2.1 dX15_leadBy_155 (by decide) ?_
      exact bX15_leadBy_156 C hk_18 k_x0 k_x1 hkm hW hZ _ (lv_sub hl [1, 2, 3, 4, 5, 6, 7, 8, 9, 10, 11, 0] rfl) hE
    · have hE := br_p hE c_2
      refine lv_iconst (v := (1 : Int32)) C.1 C.2.1 dX15_leadBy_151 (by decide) ?_
      refine lv_goto (tgt := 156) C.1 C.2.1 dX15_leadBy_152 (by decide) ?_
      exact bX15_leadBy_156 C hk_18 k_x0 k_x1 hkm hW hZ _ (lv_sub hl [1, 2, 3, 4, 5, 6, 7, 8, 9, 10, 11, 0] rfl) hE
  · have hE := br_n hE c_1
    refine lv_iload C.1 C.2.1 dX15_leadBy_120 (lv_at hl 11 rfl) ?_
    obtain ⟨o_3, eo_3, hE⟩ := cl_e hE
    refine x_kI (o := o_3) (z_runS (As := [.int x10]) (rest := []) C (ct_X15_sideOf l X eo_3) cw_X15_489 hW hZ rfl hl.1 (Nat.le_of_ble_eq_true rfl) rfl dX15_leadBy_122 ⟨Nat.le_of_ble_eq_true rfl, Nat.le_of_ble_eq_true rfl⟩ ⟨Nat.le_refl _, Nat.le_refl _⟩) hZ (fun _ _ hW km hZ => ?_)
    replace hkm := hkm.tr km
    replace k_x0 := km.at k_x0 (by decide)
    replace k_x1 := km.at k_x1 (by decide)
    refine lv_iload_n C.1 C.2.1 dX15_leadBy_125 rfl (lv_at hl 4 rfl) ?_
    refine lv_icmp_eq (tgt := 140) C.1 C.2.1 dX15_leadBy_126 (by decide) (fun c_4 => ?_) (fun c_4 => ?_)
    · have hE := br_p hE c_4
      exact bX15_leadBy_140 C hk_18 k_x0 k_x1 hkm hW hZ _ (lv_sub hl [1, 2, 3, 4, 5, 6, 7, 8, 9, 10, 11, 0] rfl) hE
    · have hE := br_n hE c_4
      refine lv_iload C.1 C.2.1 dX15_leadBy_129 (lv_at hl 7 rfl) ?_
      refine lv_iconst (v := (1 : Int32)) C.1 C.2.1 dX15_leadBy_131 (by decide) ?_
      refine lv_iand C.1 C.2.1 dX15_leadBy_132 ?_
      refine lv_if_ne (tgt := 140) C.1 C.2.1 dX15_leadBy_133 (by decide) (fun c_5 => ?_) (fun c_5 => ?_)
      · have hE := br_n hE c_5
        exact bX15_leadBy_140 C hk_18 k_x0 k_x1 hkm hW hZ _ (lv_sub hl [1, 2, 3, 4, 5, 6, 7, 8, 9, 10, 11, 0] rfl) hE
      · have hE := br_p hE c_5
        refine lv_iconst (v := (1 : Int32)) C.1 C.2.1 dX15_leadBy_136 (by decide) ?_
        refine lv_goto (tgt := 156) C.1 C.2.1 dX15_leadBy_137 (by decide) ?_
        exact bX15_leadBy_156 C hk_18 k_x0 k_x1 hkm hW hZ _ (lv_sub hl [1, 2, 3, 4, 5, 6, 7, 8, 9, 10, 11, 0] rfl) hE
set_option maxRecDepth 20000 in
theorem bX15_leadBy_112 {p : Program} {l : Launch} {e : Env} {s : State} {m : MethodId} {args : Array Value} {below : List Frame} {meth : Method} {c : Code} {X : Ec} {h0 : Hp} {o : Hp} {k_18 : Hp → Nat → Nat → Int32 → Int32 → Int32 → Int32 → Int32 → Int32 → Int32 → Option (Hp)} {F : Nat} (C : Cx X p s m args meth c RX15 cX15_leadBy 13 none "leadBy") (hk_18 : ∀ (h : Hp) (x0 : Nat) (x1 : Nat) (x2 : Int32) (x3 : Int32) (x4 : Int32) (x5 : Int32) (x6 : Int32) (x7 : Int32) (x8 : Int32) (H : Heap) (locs : List Loc), hK h x0 = 15 → hK h x1 = 12 → Km h0 h → Wx X h H → va_S (aA (eB X)) s.heap H locs → ∀ (ls : Array Slot), lv_has ls 13 [(0, .ref x0), (1, .ref x1), (2, .int x2), (3, .int x3), (4, .int x4), (5, .int x5), (6, .int x6), (7, .int x7), (8, .int x8)] → k_18 h x0 x1 x2 x3 x4 x5 x6 x7 x8 = some o → W p l e (rm 1 24) s m args below meth c H locs 0 0 (MQ below (QV X h0 o) args s 0 0 (aA (eB X))) (F0 m 18 ls [])) {h : Hp} {x0 : Nat} {x1 : Nat} {x2 : Int32} {x3 : Int32} {x4 : Int32} {x5 : Int32} {x6 : Int32} {x7 : Int32} {x8 : Int32} {x9 : Int32} {x10 : Int32} {H : Heap} {locs : List Loc} (k_x0 : hK h x0 = 15) (k_x1 : hK h x1 = 12) (hkm : Km h0 h) (hW : Wx X h H) (hZ : va_S (aA (eB X)) s.heap H locs) (ls : Array Slot) (hl : lv_has ls 13 [(0, .ref x0), (1, .ref x1), (2, .int x2), (3, .int x3), (4, .int x4), (5, .int x5), (6, .int x6), (7, .int x7), (8, .int x8), (9, .int x9), (10, .int x10)]) (hE : sX15_leadBy_112 F k_18 h x0 x1 x2 x3 x4 x5 x6 x7 x8 x9 x10 = some o) : W p l e (rm 1 24) s m args below meth c H locs 0 0 (MQ below (QV X h0 o) args s 0 0 (aA (eB X))) (F0 m 112 ls []) := by
  refine lv_iconst (v := (0 : Int32)) C.1 C.2.1 dX15_leadBy_112 (by decide) ?_
  exact bX15_leadBy_113 C hk_18 k_x0 k_x1 hkm hW hZ _ (lv_sub hl [0, 1, 2, 3, 4, 5, 6, 7, 8, 9, 10] rfl) hE
set_option maxRecDepth 20000 in
theorem bX15_leadBy_18 {p : Program} {l : Launch} {e : Env} {s : State} {m : MethodId} {args : Array Value} {below : List Frame} {meth : Method} {c : Code} {X : Ec} {h0 : Hp} {o : Hp} {F : Nat} (C : Cx X p s m args meth c RX15 cX15_leadBy 13 none "leadBy") : ∀ (f : Nat) {h : Hp} {x0 : Nat} {x1 : Nat} {x2 : Int32} {x3 : Int32} {x4 : Int32} {x5 : Int32} {x6 : Int32} {x7 : Int32} {x8 : Int32} {H : Heap} {locs : List Loc} (k_x0 : hK h x0 = 15) (k_x1 : hK h x1 = 12), Km h0 h → Wx X h H → va_S (aA (eB X)) s.heap H locs → ∀ (ls : Array Slot), lv_has ls 13 [(0, .ref x0), (1, .ref x1), (2, .int x2), (3, .int x3), (4, .int x4), (5, .int x5), (6, .int x6), (7, .int x7), (8, .int x8)] → sX15_leadBy_18 F f h x0 x1 x2 x3 x4 x5 x6 x7 x8 = some o → W p l e (rm 1 24) s m args below meth c H locs 0 0 (MQ below (QV X h0 o) args s 0 0 (aA (eB X))) (F0 m 18 ls []) := by
  intro f
  induction f with
  | zero =>
    intro h x0 x1 x2 x3 x4 x5 x6 x7 x8 H locs k_x0 k_x1 hkm hW hZ ls hl hE
    rw [sX15_leadBy_18] at hE
    cases hE
  | succ f ih =>
    intro h x0 x1 x2 x3 x4 x5 x6 x7 x8 H locs k_x0 k_x1 hkm hW hZ ls hl hE
    rw [sX15_leadBy_18] at hE
    have hk_18 : ∀ (h : Hp) (x0 : Nat) (x1 : Nat) (x2 : Int32) (x3 : Int32) (x4 : Int32) (x5 : Int32) (x6 : Int32) (x7 : Int32) (x8 : Int32) (H : Heap) (locs : List Loc), hK h x0 = 15 → hK h x1 = 12 → Km h0 h → Wx X h H → va_S (aA (eB X)) s.heap H locs → ∀ (ls : Array Slot), lv_has ls 13 [(0, .ref x0), (1, .ref x1), (2, .int x2), (3, .int x3), (4, .int x4), (5, .int x5), (6, .int x6), (7, .int x7), (8, .int x8)] → sX15_leadBy_18 F f h x0 x1 x2 x3 x4 x5 x6 x7 x8 = some o → W p l e (rm 1 24) s m args below meth c H locs 0 0 (MQ below (QV X h0 o) args s 0 0 (aA (eB X))) (F0 m 18 ls []) := fun h x0 x1 x2 x3 x4 x5 x6 x7 x8 H locs k_x0 k_x1 a b c ls hl hE => ih k_x0 k_x1 a b c ls hl hE
    refine lv_iload C.1 C.2.1 dX15_leadBy_18 (lv_at hl 8 rfl) ?_
    refine lv_aload_n C.1 C.2.1 dX15_leadBy_20 rfl (lv_at hl 0 rfl) ?_
    obtain ⟨r_1, er_1, hE⟩ := cl_e hE
    refine gf_X15_252 C hW k_x0 er_1 dX15_leadBy_21 (fun k_r_1 => ?_)
    obtain ⟨r_2, er_2, hE⟩ := cl_e hE
    refine gf_X15_207 C hW k_r_1 er_2 dX15_leadBy_24 (fun k_r_2 => ?_)
    refine lv_iload C.1 C.2.1 dX15_leadBy_27 (lv_at hl 4 rfl) ?_
    obtain ⟨g_3, hE⟩ := gd_e hE
    refine y_iald C hW k_r_2 g_3 dX15_leadBy_29 ?_
    refine lv_icmp_gt (tgt := 216) C.1 C.2.1 dX15_leadBy_30 (by decide) (fun c_4 => ?_) (fun c_4 => ?_)
    · have hE := br_p hE c_4
      exact bX15_leadBy_216 C hkm hW hZ _ (lv_sub hl [] rfl) hE
    · have hE := br_n hE c_4
      refine lv_iload C.1 C.2.1 dX15_leadBy_33 (lv_at hl 7 rfl) ?_
      refine lv_iconst (v := (2 : Int32)) C.1 C.2.1 dX15_leadBy_35 (by decide) ?_
      refine lv_icmp_ge (tgt := 216) C.1 C.2.1 dX15_leadBy_36 (by decide) (fun c_5 => ?_) (fun c_5 => ?_)
      · have hE := br_p hE c_5
        exact bX15_leadBy_216 C hkm hW hZ _ (lv_sub hl [] rfl) hE
      · have hE := br_n hE c_5
        refine lv_aload_n C.1 C.2.1 dX15_leadBy_39 rfl (lv_at hl 0 rfl) ?_
        refine lv_iload_n C.1 C.2.1 dX15_leadBy_40 rfl (lv_at hl 2 rfl) ?_
        refine lv_iload C.1 C.2.1 dX15_leadBy_41 (lv_at hl 8 rfl) ?_
        obtain ⟨o_6, eo_6, hE⟩ := cl_e hE
        refine x_kI (o := o_6) (z_runV (As := [.int x2, .int x8]) (rest := []) C (ct_X15_onward l X k_x0 eo_6) cw_X15_524 hW hZ k_x0 (by decide) rfl rfl rfl hl.1 (Nat.le_of_ble_eq_true rfl) rfl dX15_leadBy_43 ⟨Nat.le_of_ble_eq_true rfl, Nat.le_of_ble_eq_true rfl⟩ ⟨Nat.le_refl _, Nat.le_refl _⟩) hZ (fun _ _ hW km hZ => ?_)
        replace hkm := hkm.tr km
        replace k_x0 := km.at k_x0 (by decide)
        replace k_x1 := km.at k_x1 (by decide)
        refine lv_istore (lv' := [(9, .int o_6.1), (0, .ref x0), (1, .ref x1), (2, .int x2), (3, .int x3), (4, .int x4), (5, .int x5), (6, .int x6), (7, .int x7), (8, .int x8)]) C.1 C.2.1 dX15_leadBy_46 hl (by decide) rfl (fun ls hl => ?_)
        refine lv_iload C.1 C.2.1 dX15_leadBy_48 (lv_at hl 0 rfl) ?_
        refine lv_iconst (v := (-1 : Int32)) C.1 C.2.1 dX15_leadBy_50 (by decide) ?_
        refine lv_icmp_ne (tgt := 55) C.1 C.2.1 dX15_leadBy_51 (by decide) (fun c_7 => ?_) (fun c_7 => ?_)
        · have hE := br_n hE c_7
          refine lv_aload_n C.1 C.2.1 dX15_leadBy_55 rfl (lv_at hl 2 rfl) ?_
          obtain ⟨r_8, er_8, hE⟩ := cl_e hE
          refine gf_X15_396 C hW k_x1 er_8 dX15_leadBy_56 (fun k_r_8 => ?_)
          refine lv_iload C.1 C.2.1 dX15_leadBy_59 (lv_at hl 0 rfl) ?_
          obtain ⟨g_9, hE⟩ := gd_e hE
          refine y_iald C hW k_r_8 g_9 dX15_leadBy_61 ?_
          obtain ⟨v_10, ev_10, hE⟩ := nm_e2 hE
          refine x_nmI ev_10 ?_
          refine lv_istore (lv' := [(10, .int v_10), (9, .int o_6.1), (0, .ref x0), (1, .ref x1), (2, .int x2), (3, .int x3), (4, .int x4), (5, .int x5), (6, .int x6), (7, .int x7), (8, .int x8)]) C.1 C.2.1 dX15_leadBy_62 hl (by decide) rfl (fun ls hl => ?_)
          refine lv_iload C.1 C.2.1 dX15_leadBy_64 (lv_at hl 8 rfl) ?_
          refine lv_iload C.1 C.2.1 dX15_leadBy_66 (lv_at hl 9 rfl) ?_
          obtain ⟨o_11, eo_11, hE⟩ := cl_e hE
          refine x_kI (o := o_11) (z_runS (As := [.int x6, .int x7]) (rest := []) C (ct_X15_isFree l X eo_11) cw_X15_565 hW hZ rfl hl.1 (Nat.le_of_ble_eq_true rfl) rfl dX15_leadBy_68 ⟨Nat.le_of_ble_eq_true rfl, Nat.le_of_ble_eq_true rfl⟩ ⟨Nat.le_refl _, Nat.le_refl _⟩) hZ (fun _ _ hW km hZ => ?_)
          replace hkm := hkm.tr km
          replace k_x0 := km.at k_x0 (by decide)
          replace k_x1 := km.at k_x1 (by decide)
          refine lv_if_eq (tgt := 195) C.1 C.2.1 dX15_leadBy_71 (by decide) (fun c_12 => ?_) (fun c_12 => ?_)
          · have hE := br_p hE c_12
            exact bX15_leadBy_195 C hk_18 k_x0 k_x1 hkm hW hZ _ (lv_sub hl [2, 3, 4, 5, 6, 7, 8, 9, 10, 0] rfl) hE
          · have hE := br_n hE c_12
            refine lv_aload_n C.1 C.2.1 dX15_leadBy_74 rfl (lv_at hl 2 rfl) ?_
            obtain ⟨r_13, er_13, hE⟩ := cl_e hE
            refine gf_X15_272 C hW k_x0 er_13 dX15_leadBy_75 (fun k_r_13 => ?_)
            refine lv_iload C.1 C.2.1 dX15_leadBy_78 (lv_at hl 1 rfl) ?_
            obtain ⟨g_14, hE⟩ := gd_e hE
            refine y_iald C hW k_r_13 g_14 dX15_leadBy_80 ?_
            refine lv_iconst (v := (-1 : Int32)) C.1 C.2.1 dX15_leadBy_81 (by decide) ?_
            refine lv_icmp_ne (tgt := 195) C.1 C.2.1 dX15_leadBy_82 (by decide) (fun c_15 => ?_) (fun c_15 => ?_)
            · have hE := br_n hE c_15
              exact bX15_leadBy_195 C hk_18 k_x0 k_x1 hkm hW hZ _ (lv_sub hl [2, 3, 4, 5, 6, 7, 8, 9, 10, 0] rfl) hE
            · have hE := br_p hE c_15
              refine lv_iload C.1 C.2.1 dX15_leadBy_85 (lv_at hl 7 rfl) ?_
              refine lv_if_eq (tgt := 112) C.1 C.2.1 dX15_leadBy_87 (by decide) (fun c_16 => ?_) (fun c_16 => ?_)
              · have hE := br_p hE c_16
                exact bX15_leadBy_112 C hk_18 k_x0 k_x1 hkm hW hZ _ (lv_sub hl [2, 3, 4, 5, 6, 7, 8, 9, 10, 1, 0] rfl) hE
              · have hE := br_n hE c_16
                refine lv_iload C.1 C.2.1 dX15_leadBy_90 (lv_at hl 8 rfl) ?_
                refine lv_bipush (v := (32 : Int32)) C.1 C.2.1 dX15_leadBy_92 (by decide) ?_
                refine lv_iand C.1 C.2.1 dX15_leadBy_94 ?_
                refine lv_if_eq (tgt := 112) C.1 C.2.1 dX15_leadBy_95 (by decide) (fun c_17 => ?_) (fun c_17 => ?_)
                · have hE := br_p hE c_17
                  exact bX15_leadBy_112 C hk_18 k_x0 k_x1 hkm hW hZ _ (lv_sub hl [2, 3, 4, 5, 6, 7, 8, 9, 10, 1, 0] rfl) hE
                · have hE := br_n hE c_17
                  refine lv_aload_n C.1 C.2.1 dX15_leadBy_98 rfl (lv_at hl 2 rfl) ?_
                  refine lv_aload_n C.1 C.2.1 dX15_leadBy_99 rfl (lv_at hl 3 rfl) ?_
                  refine lv_iload C.1 C.2.1 dX15_leadBy_100 (lv_at hl 1 rfl) ?_
                  obtain ⟨o_18, eo_18, hE⟩ := cl_e hE
                  refine x_kI (o := o_18) (z_runV (As := [.ref x1, .int o_6.1]) (rest := []) C (ct_X15_isGoneOver l X F k_x0 k_x1 eo_18) cw_X15_572 hW hZ k_x0 (by decide) rfl rfl rfl hl.1 (Nat.le_of_ble_eq_true rfl) rfl dX15_leadBy_102 ⟨Nat.le_of_ble_eq_true rfl, Nat.le_of_ble_eq_true rfl⟩ ⟨Nat.le_refl _, Nat.le_refl _⟩) hZ (fun _ _ hW km hZ => ?_)
                  replace hkm := hkm.tr km
                  replace k_x0 := km.at k_x0 (by decide)
                  replace k_x1 := km.at k_x1 (by decide)
                  refine lv_if_eq (tgt := 112) C.1 C.2.1 dX15_leadBy_105 (by decide) (fun c_19 => ?_) (fun c_19 => ?_)
                  · have hE := br_p hE c_19
                    exact bX15_leadBy_112 C hk_18 k_x0 k_x1 hkm hW hZ _ (lv_sub hl [2, 3, 4, 5, 6, 7, 8, 9, 10, 1, 0] rfl) hE
                  · have hE := br_n hE c_19
                    refine lv_iconst (v := (1 : Int32)) C.1 C.2.1 dX15_leadBy_108 (by decide) ?_
                    refine lv_goto (tgt := 113) C.1 C.2.1 dX15_leadBy_109 (by decide) ?_
                    exact bX15_leadBy_113 C hk_18 k_x0 k_x1 hkm hW hZ _ (lv_sub hl [2, 3, 4, 5, 6, 7, 8, 9, 10, 1, 0] rfl) hE
        · have hE := br_p hE c_7
          exact x_vret C rfl hW hZ hkm hE dX15_leadBy_54
set_option maxRecDepth 20000 in
theorem ct_X15_leadBy (l : Launch) (X : Ec) (F : Nat) {h : Hp} {x0 : Nat} {x1 : Nat} {x2 : Int32} {x3 : Int32} {x4 : Int32} {x5 : Int32} {o : Hp} (k_x0 : hK h x0 = 15) (k_x1 : hK h x1 = 12) (hE : sX15_leadBy F h x0 x1 x2 x3 x4 x5 = some o) : MetV l yX15_leadBy cX15_leadBy 13 none 1 24 X [.ref x0, .ref x1, .int x2, .int x3, .int x4, .int x5] h o := by
  refine x_met (by decide) (Nat.le_of_ble_eq_true rfl) ?_
  intro p e s m below meth c ls C hl hW hZ
  have hl : lv_has ls 13 [(0, .ref x0), (1, .ref x1), (2, .int x2), (3, .int x3), (4, .int x4), (5, .int x5)] := hl
  have hkm : Km h h := Km.rf h
  refine lv_aload_n C.1 C.2.1 dX15_leadBy_0 rfl (lv_at hl 0 rfl) ?_
  obtain ⟨r_1, er_1, hE⟩ := cl_e hE
  refine gf_X15_252 C hW k_x0 er_1 dX15_leadBy_1 (fun k_r_1 => ?_)
  obtain ⟨r_2, er_2, hE⟩ := cl_e hE
  refine gf_X15_198 C hW k_r_1 er_2 dX15_leadBy_4 (fun k_r_2 => ?_)
  refine lv_iload C.1 C.2.1 dX15_leadBy_7 (lv_at hl 4 rfl) ?_
  obtain ⟨g_3, hE⟩ := gd_e hE
  refine y_iald C hW k_r_2 g_3 dX15_leadBy_9 ?_
  obtain ⟨v_4, ev_4, hE⟩ := nm_e2 hE
  refine x_nmI ev_4 ?_
  refine lv_istore (lv' := [(6, .int v_4), (0, .ref x0), (1, .ref x1), (2, .int x2), (3, .int x3), (4, .int x4), (5, .int x5)]) C.1 C.2.1 dX15_leadBy_10 hl (by decide) rfl (fun ls hl => ?_)
  refine lv_iconst (v := (0 : Int32)) C.1 C.2.1 dX15_leadBy_12 (by decide) ?_
  refine lv_istore (lv' := [(7, .int (0 : Int32)), (6, .int v_4), (0, .ref x0), (1, .ref x1), (2, .int x2), (3, .int x3), (4, .int x4), (5, .int x5)]) C.1 C.2.1 dX15_leadBy_13 hl (by decide) rfl (fun ls hl => ?_)
  refine lv_iconst (v := (1 : Int32)) C.1 C.2.1 dX15_leadBy_15 (by decide) ?_
  refine lv_istore (lv' := [(8, .int (1 : Int32)), (7, .int (0 : Int32)), (6, .int v_4), (0, .ref x0), (1, .ref x1), (2, .int x2), (3, .int x3), (4, .int x4), (5, .int x5)]) C.1 C.2.1 dX15_leadBy_16 hl (by decide) rfl (fun ls hl => ?_)
  exact bX15_leadBy_18 C F k_x0 k_x1 hkm hW hZ _ (lv_sub hl [3, 4, 5, 6, 7, 8, 2, 1, 0] rfl) hE
set_option maxRecDepth 100000 in
theorem ms_175 : Cond.selects RX15 yX15_leadBy yX15_leadBy ∈ W0 := w0_in (List.mem_append_left _ (List.mem_of_getElem? (i := 175) rfl)) rfl
set_option maxRecDepth 100000 in
theorem m_2536 : Cond.methodLink RX15 568 yX15_leadBy ∈ W0 := w0_in (List.mem_append_right _ (List.mem_of_getElem? (i := 2536) rfl)) rfl
set_option maxRecDepth 100000 in
theorem m_2538 : Cond.instanceMethod yX15_leadBy ∈ W0 := w0_in (List.mem_append_right _ (List.mem_of_getElem? (i := 2538) rfl)) rfl
set_option maxRecDepth 100000 in
theorem m_2539 : Cond.code yX15_leadBy cX15_leadBy 13 none ∈ W0 := w0_in (List.mem_append_right _ (List.mem_of_getElem? (i := 2539) rfl)) rfl
theorem cw_X15_568 : cwd RX15 568 yX15_leadBy cX15_leadBy 13 none false 5 := ⟨m_2539, m_2536, m_19, ⟨m_2538, ms_175⟩, by decide, by decide, by decide +kernel⟩
theorem dX15_lead_0 : decode cX15_lead 0 = .ok (.aload_n 1, 1) := by decide +kernel
theorem dX15_lead_1 : decode cX15_lead 1 = .ok (.getfield 396, 3) := by decide +kernel
theorem dX15_lead_4 : decode cX15_lead 4 = .ok (.iload_n 2, 1) := by decide +kernel
theorem dX15_lead_5 : decode cX15_lead 5 = .ok (.iaload, 1) := by decide +kernel
theorem dX15_lead_6 : decode cX15_lead 6 = .ok (.istore 4, 2) := by decide +kernel
theorem dX15_lead_8 : decode cX15_lead 8 = .ok (.iload 4, 2) := by decide +kernel
theorem dX15_lead_10 : decode cX15_lead 10 = .ok (.invokestatic 489, 3) := by decide +kernel
theorem dX15_lead_13 : decode cX15_lead 13 = .ok (.istore 5, 2) := by decide +kernel
theorem dX15_lead_15 : decode cX15_lead 15 = .ok (.iconst 0, 1) := by decide +kernel
theorem dX15_lead_16 : decode cX15_lead 16 = .ok (.istore 6, 2) := by decide +kernel
theorem dX15_lead_18 : decode cX15_lead 18 = .ok (.iload 6, 2) := by decide +kernel
theorem dX15_lead_20 : decode cX15_lead 20 = .ok (.aload_n 0, 1) := by decide +kernel
theorem dX15_lead_21 : decode cX15_lead 21 = .ok (.getfield 384, 3) := by decide +kernel
theorem dX15_lead_24 : decode cX15_lead 24 = .ok (.if_icmp .ge 17, 3) := by decide +kernel
theorem dX15_lead_27 : decode cX15_lead 27 = .ok (.aload_n 0, 1) := by decide +kernel
theorem dX15_lead_28 : decode cX15_lead 28 = .ok (.getfield 272, 3) := by decide +kernel
theorem dX15_lead_31 : decode cX15_lead 31 = .ok (.iload 6, 2) := by decide +kernel
theorem dX15_lead_33 : decode cX15_lead 33 = .ok (.iconst (-1), 1) := by decide +kernel
theorem dX15_lead_34 : decode cX15_lead 34 = .ok (.iastore, 1) := by decide +kernel
theorem dX15_lead_35 : decode cX15_lead 35 = .ok (.iinc 6 1, 3) := by decide +kernel
theorem dX15_lead_38 : decode cX15_lead 38 = .ok (.goto (-20), 3) := by decide +kernel
theorem dX15_lead_41 : decode cX15_lead 41 = .ok (.iconst 0, 1) := by decide +kernel
theorem dX15_lead_42 : decode cX15_lead 42 = .ok (.istore 6, 2) := by decide +kernel
theorem dX15_lead_44 : decode cX15_lead 44 = .ok (.iload 6, 2) := by decide +kernel
theorem dX15_lead_46 : decode cX15_lead 46 = .ok (.aload_n 0, 1) := by decide +kernel
theorem dX15_lead_47 : decode cX15_lead 47 = .ok (.getfield 252, 3) := by decide +kernel
theorem dX15_lead_50 : decode cX15_lead 50 = .ok (.getfield 176, 3) := by decide +kernel
theorem dX15_lead_53 : decode cX15_lead 53 = .ok (.iload 4, 2) := by decide +kernel
theorem dX15_lead_55 : decode cX15_lead 55 = .ok (.invokestatic 492, 3) := by decide +kernel
theorem dX15_lead_58 : decode cX15_lead 58 = .ok (.iaload, 1) := by decide +kernel
theorem dX15_lead_59 : decode cX15_lead 59 = .ok (.if_icmp .ge 74, 3) := by decide +kernel
theorem dX15_lead_62 : decode cX15_lead 62 = .ok (.bipush 8, 2) := by decide +kernel
theorem dX15_lead_64 : decode cX15_lead 64 = .ok (.iload 4, 2) := by decide +kernel
theorem dX15_lead_66 : decode cX15_lead 66 = .ok (.invokestatic 492, 3) := by decide +kernel
theorem dX15_lead_69 : decode cX15_lead 69 = .ok (.imul, 1) := by decide +kernel
theorem dX15_lead_70 : decode cX15_lead 70 = .ok (.iload 6, 2) := by decide +kernel
theorem dX15_lead_72 : decode cX15_lead 72 = .ok (.iadd, 1) := by decide +kernel
theorem dX15_lead_73 : decode cX15_lead 73 = .ok (.istore 7, 2) := by decide +kernel
theorem dX15_lead_75 : decode cX15_lead 75 = .ok (.iconst 0, 1) := by decide +kernel
theorem dX15_lead_76 : decode cX15_lead 76 = .ok (.istore 8, 2) := by decide +kernel
theorem dX15_lead_78 : decode cX15_lead 78 = .ok (.iload 8, 2) := by decide +kernel
theorem dX15_lead_80 : decode cX15_lead 80 = .ok (.bipush 8, 2) := by decide +kernel
theorem dX15_lead_82 : decode cX15_lead 82 = .ok (.if_icmp .ge 45, 3) := by decide +kernel
theorem dX15_lead_85 : decode cX15_lead 85 = .ok (.aload_n 0, 1) := by decide +kernel
theorem dX15_lead_86 : decode cX15_lead 86 = .ok (.iload 7, 2) := by decide +kernel
theorem dX15_lead_88 : decode cX15_lead 88 = .ok (.iload_n 2, 1) := by decide +kernel
theorem dX15_lead_89 : decode cX15_lead 89 = .ok (.iload 5, 2) := by decide +kernel
theorem dX15_lead_91 : decode cX15_lead 91 = .ok (.invokevirtual 559, 3) := by decide +kernel
theorem dX15_lead_94 : decode cX15_lead 94 = .ok (.ifCond .eq 33, 3) := by decide +kernel
theorem dX15_lead_97 : decode cX15_lead 97 = .ok (.aload_n 0, 1) := by decide +kernel
theorem dX15_lead_98 : decode cX15_lead 98 = .ok (.iload 7, 2) := by decide +kernel
theorem dX15_lead_100 : decode cX15_lead 100 = .ok (.iload 8, 2) := by decide +kernel
theorem dX15_lead_102 : decode cX15_lead 102 = .ok (.iload 5, 2) := by decide +kernel
theorem dX15_lead_104 : decode cX15_lead 104 = .ok (.invokevirtual 516, 3) := by decide +kernel
theorem dX15_lead_107 : decode cX15_lead 107 = .ok (.ifCond .eq 14, 3) := by decide +kernel
theorem dX15_lead_110 : decode cX15_lead 110 = .ok (.aload_n 0, 1) := by decide +kernel
theorem dX15_lead_111 : decode cX15_lead 111 = .ok (.aload_n 1, 1) := by decide +kernel
theorem dX15_lead_112 : decode cX15_lead 112 = .ok (.iload_n 2, 1) := by decide +kernel
theorem dX15_lead_113 : decode cX15_lead 113 = .ok (.iload 5, 2) := by decide +kernel
theorem dX15_lead_115 : decode cX15_lead 115 = .ok (.iload 7, 2) := by decide +kernel
theorem dX15_lead_117 : decode cX15_lead 117 = .ok (.iload_n 3, 1) := by decide +kernel
theorem dX15_lead_118 : decode cX15_lead 118 = .ok (.invokevirtual 568, 3) := by decide +kernel
theorem dX15_lead_121 : decode cX15_lead 121 = .ok (.iinc 8 1, 3) := by decide +kernel
theorem dX15_lead_124 : decode cX15_lead 124 = .ok (.goto (-46), 3) := by decide +kernel
theorem dX15_lead_127 : decode cX15_lead 127 = .ok (.iinc 6 1, 3) := by decide +kernel
theorem dX15_lead_130 : decode cX15_lead 130 = .ok (.goto (-86), 3) := by decide +kernel
theorem dX15_lead_133 : decode cX15_lead 133 = .ok (.return_, 1) := by decide +kernel
def sX15_lead_127 (F : Nat) (k_44 : Hp → Nat → Nat → Int32 → Int32 → Int32 → Int32 → Int32 → Option (Hp)) (h : Hp) (x0 : Nat) (x1 : Nat) (x2 : Int32) (x3 : Int32) (x4 : Int32) (x5 : Int32) (x6 : Int32) : Option (Hp) := nm (x6 + (1 : Int32)) fun v_1 => k_44 h x0 x1 x2 x3 x4 x5 v_1
def sX15_lead_121 (F : Nat) (k_44 : Hp → Nat → Nat → Int32 → Int32 → Int32 → Int32 → Int32 → Option (Hp)) (k_78 : Hp → Nat → Nat → Int32 → Int32 → Int32 → Int32 → Int32 → Int32 → Int32 → Option (Hp)) (h : Hp) (x0 : Nat) (x1 : Nat) (x2 : Int32) (x3 : Int32) (x4 : Int32) (x5 : Int32) (x6 : Int32) (x7 : Int32) (x8 : Int32) : Option (Hp) := nm (x8 + (1 : Int32)) fun v_1 => k_78 h x0 x1 x2 x3 x4 x5 x6 x7 v_1
def sX15_lead_78 (F : Nat) (k_44 : Hp → Nat → Nat → Int32 → Int32 → Int32 → Int32 → Int32 → Option (Hp)) : Nat → Hp → Nat → Nat → Int32 → Int32 → Int32 → Int32 → Int32 → Int32 → Int32 → Option (Hp)
  | 0, _, _, _, _, _, _, _, _, _, _ => none
  | f + 1, h, x0, x1, x2, x3, x4, x5, x6, x7, x8 => br ((8 : Int32) ≤ x8) (sX15_lead_127 F k_44 h x0 x1 x2 x3 x4 x5 x6) (cl (sX15_isFrom h x0 x7 x2 x5) fun o_2 => br (o_2.1 = 0) (sX15_lead_127 F k_44 o_2.2 x0 x1 x2 x3 x4 x5 x6) (cl (sX15_hasVector o_2.2 x0 x7 x8 x5) fun o_4 => br (o_4.1 = 0) (sX15_lead_121 F k_44 (sX15_lead_78 F k_44 f) o_4.2 x0 x1 x2 x3 x4 x5 x6 x7 x8) (cl (sX15_leadBy F o_4.2 x0 x1 x2 x5 x7 x3) fun o_6 => sX15_lead_121 F k_44 (sX15_lead_78 F k_44 f) o_6 x0 x1 x2 x3 x4 x5 x6 x7 x8)))
def sX15_lead_44 (F : Nat) : Nat → Hp → Nat → Nat → Int32 → Int32 → Int32 → Int32 → Int32 → Option (Hp)
  | 0, _, _, _, _, _, _, _, _ => none
  | f + 1, h, x0, x1, x2, x3, x4, x5, x6 => cl (hR h x0 4) fun r_1 => cl (hR h r_1 4) fun r_2 => cl (sX15_manOf h x4) fun o_3 => gd (inB o_3.1 (hN o_3.2 r_2)) <| br ((hI o_3.2 r_2 o_3.1.toNatClampNeg) ≤ x6) (some o_3.2) (cl (sX15_manOf o_3.2 x4) fun o_6 => nm (((8 : Int32) * o_6.1) + x6) fun v_7 => sX15_lead_78 F (sX15_lead_44 F f) F o_6.2 x0 x1 x2 x3 x4 x5 x6 v_7 (0 : Int32))
def sX15_lead_18 (F : Nat) : Nat → Hp → Nat → Nat → Int32 → Int32 → Int32 → Int32 → Int32 → Option (Hp)
  | 0, _, _, _, _, _, _, _, _ => none
  | f + 1, h, x0, x1, x2, x3, x4, x5, x6 => br ((hI h x0 13) ≤ x6) (sX15_lead_44 F F h x0 x1 x2 x3 x4 x5 (0 : Int32)) (cl (hR h x0 25) fun r_2 => gd (inB x6 (hN h r_2)) <| nm (wI h r_2 x6.toNatClampNeg (-1 : Int32)) fun h_4 => nm (x6 + (1 : Int32)) fun v_5 => sX15_lead_18 F f h_4 x0 x1 x2 x3 x4 x5 v_5)
def sX15_lead (F : Nat) (h : Hp) (x0 : Nat) (x1 : Nat) (x2 : Int32) (x3 : Int32) : Option (Hp) := cl (hR h x1 0) fun r_1 => gd (inB x2 (hN h r_1)) <| nm (hI h r_1 x2.toNatClampNeg) fun v_3 => cl (sX15_sideOf h v_3) fun o_4 => sX15_lead_18 F F o_4.2 x0 x1 x2 x3 v_3 o_4.1 (0 : Int32)
set_option maxRecDepth 20000 in
theorem moX15_lead_127 {o : Hp} {k_44 : Hp → Nat → Nat → Int32 → Int32 → Int32 → Int32 → Int32 → Option (Hp)} {F : Nat} (mk_44 : ∀ (h : Hp) (x0 : Nat) (x1 : Nat) (x2 : Int32) (x3 : Int32) (x4 : Int32) (x5 : Int32) (x6 : Int32), k_44 h x0 x1 x2 x3 x4 x5 x6 = some o → Le h o) {h : Hp} {x0 : Nat} {x1 : Nat} {x2 : Int32} {x3 : Int32} {x4 : Int32} {x5 : Int32} {x6 : Int32} (hE : sX15_lead_127 F k_44 h x0 x1 x2 x3 x4 x5 x6 = some o) : Le h o := by
  obtain ⟨v_1, ev_1, hE⟩ := nm_e2 hE
  exact mk_44 _ _ _ _ _ _ _ _ hE
set_option maxRecDepth 20000 in
theorem moX15_lead_121 {o : Hp} {k_44 : Hp → Nat → Nat → Int32 → Int32 → Int32 → Int32 → Int32 → Option (Hp)} {k_78 : Hp → Nat → Nat → Int32 → Int32 → Int32 → Int32 → Int32 → Int32 → Int32 → Option (Hp)} {F : Nat} (mk_44 : ∀ (h : Hp) (x0 : Nat) (x1 : Nat) (x2 : Int32) (x3 : Int32) (x4 : Int32) (x5 : Int32) (x6 : Int32), k_44 h x0 x1 x2 x3 x4 x5 x6 = some o → Le h o) (mk_78 : ∀ (h : Hp) (x0 : Nat) (x1 : Nat) (x2 : Int32) (x3 : Int32) (x4 : Int32) (x5 : Int32) (x6 : Int32) (x7 : Int32) (x8 : Int32), k_78 h x0 x1 x2 x3 x4 x5 x6 x7 x8 = some o → Le h o) {h : Hp} {x0 : Nat} {x1 : Nat} {x2 : Int32} {x3 : Int32} {x4 : Int32} {x5 : Int32} {x6 : Int32} {x7 : Int32} {x8 : Int32} (hE : sX15_lead_121 F k_44 k_78 h x0 x1 x2 x3 x4 x5 x6 x7 x8 = some o) : Le h o := by
  obtain ⟨v_1, ev_1, hE⟩ := nm_e2 hE
  exact mk_78 _ _ _ _ _ _ _ _ _ _ hE
set_option maxRecDepth 20000 in
theorem moX15_lead_78 {o : Hp} {k_44 : Hp → Nat → Nat → Int32 → Int32 → Int32 → Int32 → Int32 → Option (Hp)} {F : Nat} (mk_44 : ∀ (h : Hp) (x0 : Nat) (x1 : Nat) (x2 : Int32) (x3 : Int32) (x4 : Int32) (x5 : Int32) (x6 : Int32), k_44 h x0 x1 x2 x3 x4 x5 x6 = some o → Le h o) : ∀ (f : Nat) {h : Hp} {x0 : Nat} {x1 : Nat} {x2 : Int32} {x3 : Int32} {x4 : Int32} {x5 : Int32} {x6 : Int32} {x7 : Int32} {x8 : Int32}, sX15_lead_78 F k_44 f h x0 x1 x2 x3 x4 x5 x6 x7 x8 = some o → Le h o := by
  intro f
  induction f with
  | zero =>
    intro h x0 x1 x2 x3 x4 x5 x6 x7 x8 hE
    rw [sX15_lead_78] at hE
    cases hE
  | succ f ih =>
    intro h x0 x1 x2 x3 x4 x5 x6 x7 x8 hE
    rw [sX15_lead_78] at hE
    have mk_78 : ∀ (h : Hp) (x0 : Nat) (x1 : Nat) (x2 : Int32) (x3 : Int32) (x4 : Int32) (x5 : Int32) (x6 : Int32) (x7 : Int32) (x8 : Int32), sX15_lead_78 F k_44 f h x0 x1 x2 x3 x4 x5 x6 x7 x8 = some o → Le h o := fun h x0 x1 x2 x3 x4 x5 x6 x7 x8 hE => ih hE
    rcases br_e hE with ⟨_, hE⟩ | ⟨_, hE⟩
    · exact moX15_lead_127 mk_44 hE
    · obtain ⟨o_2, eo_2, hE⟩ := cl_e hE
      refine (moX15_isFrom eo_2).tr ?_
      rcases br_e hE with ⟨_, hE⟩ | ⟨_, hE⟩
      · exact moX15_lead_127 mk_44 hE
      · obtain ⟨o_4, eo_4, hE⟩ := cl_e hE
        refine (moX15_hasVector eo_4).tr ?_
        rcases br_e hE with ⟨_, hE⟩ | ⟨_, hE⟩
        · exact moX15_lead_121 mk_44 mk_78 hE
        · obtain ⟨o_6, eo_6, hE⟩ := cl_e hE
          refine (moX15_leadBy eo_6).tr ?_
          exact moX15_lead_121 mk_44 mk_78 hE
set_option maxRecDepth 20000 in
theorem moX15_lead_44 {o : Hp} {F : Nat} : ∀ (f : Nat) {h : Hp} {x0 : Nat} {x1 : Nat} {x2 : Int32} {x3 : Int32} {x4 : Int32} {x5 : Int32} {x6 : Int32}, sX15_lead_44 F f h x0 x1 x2 x3 x4 x5 x6 = some o → Le h o := by
  intro f
  induction f with
  | zero =>
    intro h x0 x1 x2 x3 x4 x5 x6 hE
    rw [sX15_lead_44] at hE
    cases hE
  | succ f ih =>
    intro h x0 x1 x2 x3 x4 x5 x6 hE
    rw [sX15_lead_44] at hE
    have mk_44 : ∀ (h : Hp) (x0 : Nat) (x1 : Nat) (x2 : Int32) (x3 : Int32) (x4 : Int32) (x5 : Int32) (x6 : Int32), sX15_lead_44 F f h x0 x1 x2 x3 x4 x5 x6 = some o → Le h o := fun h x0 x1 x2 x3 x4 x5 x6 hE => ih hE
    obtain ⟨r_1, er_1, hE⟩ := cl_e hE
    obtain ⟨r_2, er_2, hE⟩ := cl_e hE
    obtain ⟨o_3, eo_3, hE⟩ := cl_e hE
    refine (moX15_manOf eo_3).tr ?_
    obtain ⟨g_4, hE⟩ := gd_e hE
    rcases br_e hE with ⟨_, hE⟩ | ⟨_, hE⟩
    · exact le_some1 hE
    · obtain ⟨o_6, eo_6, hE⟩ := cl_e hE
      refine (moX15_manOf eo_6).tr ?_
      obtain ⟨v_7, ev_7, hE⟩ := nm_e2 hE
      exact moX15_lead_78 mk_44 _ hE
set_option maxRecDepth 20000 in
theorem moX15_lead_18 {o : Hp} {F : Nat} : ∀ (f : Nat) {h : Hp} {x0 : Nat} {x1 : Nat} {x2 : Int32} {x3 : Int32} {x4 : Int32} {x5 : Int32} {x6 : Int32}, sX15_lead_18 F f h x0 x1 x2 x3 x4 x5 x6 = some o → Le h o := by
  intro f
  induction f with
  | zero =>
    intro h x0 x1 x2 x3 x4 x5 x6 hE
    rw [sX15_lead_18] at hE
    cases hE
  | succ f ih =>
    intro h x0 x1 x2 x3 x4 x5 x6 hE
    rw [sX15_lead_18] at hE
    have mk_18 : ∀ (h : Hp) (x0 : Nat) (x1 : Nat) (x2 : Int32) (x3 : Int32) (x4 : Int32) (x5 : Int32) (x6 : Int32), sX15_lead_18 F f h x0 x1 x2 x3 x4 x5 x6 = some o → Le h o := fun h x0 x1 x2 x3 x4 x5 x6 hE => ih hE
    rcases br_e hE with ⟨_, hE⟩ | ⟨_, hE⟩
    · exact moX15_lead_44 _ hE
    · obtain ⟨r_2, er_2, hE⟩ := cl_e hE
      obtain ⟨g_3, hE⟩ := gd_e hE
      obtain ⟨h_4, eh_4, hE⟩ := nm_e2 hE
      refine (le_I eh_4).tr ?_
      obtain ⟨v_5, ev_5, hE⟩ := nm_e2 hE
      exact mk_18 _ _ _ _ _ _ _ _ hE
set_option maxRecDepth 20000 in
theorem moX15_lead {o : Hp} {F : Nat} {h : Hp} {x0 : Nat} {x1 : Nat} {x2 : Int32} {x3 : Int32} (hE : sX15_lead F h x0 x1 x2 x3 = some o) : Le h o := by
  obtain ⟨r_1, er_1, hE⟩ := cl_e hE
  obtain ⟨g_2, hE⟩ := gd_e hE
  obtain ⟨v_3, ev_3, hE⟩ := nm_e2 hE
  obtain ⟨o_4, eo_4, hE⟩ := cl_e hE
  refine (moX15_sideOf eo_4).tr ?_
  exact moX15_lead_18 _ hE
set_option maxRecDepth 20000 in
theorem bX15_lead_127 {p : Program} {l : Launch} {e : Env} {s : State} {m : MethodId} {args : Array Value} {below : List Frame} {meth : Method} {c : Code} {X : Ec} {h0 : Hp} {o : Hp} {k_44 : Hp → Nat → Nat → Int32 → Int32 → Int32 → Int32 → Int32 → Option (Hp)} {F : Nat} (C : Cx X p s m args meth c RX15 cX15_lead 9 none "lead") (hk_44 : ∀ (h : Hp) (x0 : Nat) (x1 : Nat) (x2 : Int32) (x3 : Int32) (x4 : Int32) (x5 : Int32) (x6 : Int32) (H : Heap) (locs : List Loc), hK h x0 = 15 → hK h x1 = 12 → Km h0 h → Wx X h H → va_S (aA (eB X)) s.heap H locs → ∀ (ls : Array Slot), lv_has ls 9 [(0, .ref x0), (1, .ref x1), (2, .int x2), (3, .int x3), (4, .int x4), (5, .int x5), (6, .int x6)] → k_44 h x0 x1 x2 x3 x4 x5 x6 = some o → W p l e (rm 2 56) s m args below meth c H locs 0 0 (MQ below (QV X h0 o) args s 0 0 (aA (eB X))) (F0 m 44 ls [])) {h : Hp} {x0 : Nat} {x1 : Nat} {x2 : Int32} {x3 : Int32} {x4 : Int32} {x5 : Int32} {x6 : Int32} {H : Heap} {locs : List Loc} (k_x0 : hK h x0 = 15) (k_x1 : hK h x1 = 12) (hkm : Km h0 h) (hW : Wx X h H) (hZ : va_S (aA (eB X)) s.heap H locs) (ls : Array Slot) (hl : lv_has ls 9 [(0, .ref x0), (1, .ref x1), (2, .int x2), (3, .int x3), (4, .int x4), (5, .int x5), (6, .int x6)]) (hE : sX15_lead_127 F k_44 h x0 x1 x2 x3 x4 x5 x6 = some o) : W p l e (rm 2 56) s m args below meth c H locs 0 0 (MQ below (QV X h0 o) args s 0 0 (aA (eB X))) (F0 m 127 ls []) := by
  obtain ⟨v_1, ev_1, hE⟩ := nm_e2 hE
  refine lv_iinc (v := v_1) (lv' := [(6, .int v_1), (0, .ref x0), (1, .ref x1), (2, .int x2), (3, .int x3), (4, .int x4), (5, .int x5)]) C.1 C.2.1 dX15_lead_127 hl (k := 6) rfl (by rw [ev_1]; rfl) (by decide) rfl (fun ls hl => ?_)
  refine lv_goto (tgt := 44) C.1 C.2.1 dX15_lead_130 (by decide) ?_
  exact hk_44 _ _ _ _ _ _ _ _ _ _ k_x0 k_x1 hkm hW hZ _ (lv_sub hl [1, 2, 3, 4, 5, 6, 0] rfl) hE
set_option maxRecDepth 20000 in
theorem bX15_lead_121 {p : Program} {l : Launch} {e : Env} {s : State} {m : MethodId} {args : Array Value} {below : List Frame} {meth : Method} {c : Code} {X : Ec} {h0 : Hp} {o : Hp} {k_44 : Hp → Nat → Nat → Int32 → Int32 → Int32 → Int32 → Int32 → Option (Hp)} {k_78 : Hp → Nat → Nat → Int32 → Int32 → Int32 → Int32 → Int32 → Int32 → Int32 → Option (Hp)} {F : Nat} (C : Cx X p s m args meth c RX15 cX15_lead 9 none "lead") (hk_44 : ∀ (h : Hp) (x0 : Nat) (x1 : Nat) (x2 : Int32) (x3 : Int32) (x4 : Int32) (x5 : Int32) (x6 : Int32) (H : Heap) (locs : List Loc), hK h x0 = 15 → hK h x1 = 12 → Km h0 h → Wx X h H → va_S (aA (eB X)) s.heap H locs → ∀ (ls : Array Slot), lv_has ls 9 [(0, .ref x0), (1, .ref x1), (2, .int x2), (3, .int x3), (4, .int x4), (5, .int x5), (6, .int x6)] → k_44 h x0 x1 x2 x3 x4 x5 x6 = some o → W p l e (rm 2 56) s m args below meth c H locs 0 0 (MQ below (QV X h0 o) args s 0 0 (aA (eB X))) (F0 m 44 ls [])) (hk_78 : ∀ (h : Hp) (x0 : Nat) (x1 : Nat) (x2 : Int32) (x3 : Int32) (x4 : Int32) (x5 : Int32) (x6 : Int32) (x7 : Int32) (x8 : Int32) (H : Heap) (locs : List Loc), hK h x0 = 15 → hK h x1 = 12 → Km h0 h → Wx X h H → va_S (aA (eB X)) s.heap H locs → ∀ (ls : Array Slot), lv_has ls 9 [(0, .ref x0), (1, .ref x1), (2, .int x2), (3, .int x3), (4, .int x4), (5, .int x5), (6, .int x6), (7, .int x7), (8, .int x8)] → k_78 h x0 x1 x2 x3 x4 x5 x6 x7 x8 = some o → W p l e (rm 2 56) s m args below meth c H locs 0 0 (MQ below (QV X h0 o) args s 0 0 (aA (eB X))) (F0 m 78 ls [])) {h : Hp} {x0 : Nat} {x1 : Nat} {x2 : Int32} {x3 : Int32} {x4 : Int32} {x5 : Int32} {x6 : Int32} {x7 : Int32} {x8 : Int32} {H : Heap} {locs : List Loc} (k_x0 : hK h x0 = 15) (k_x1 : hK h x1 = 12) (hkm : Km h0 h) (hW : Wx X h H) (hZ : va_S (aA (eB X)) s.heap H locs) (ls : Array Slot) (hl : lv_has ls 9 [(0, .ref x0), (1, .ref x1), (2, .int x2), (3, .int x3), (4, .int x4), (5, .int x5), (6, .int x6), (7, .int x7), (8, .int x8)]) (hE : sX15_lead_121 F k_44 k_78 h x0 x1 x2 x3 x4 x5 x6 x7 x8 = some o) : W p l e (rm 2 56) s m args below meth c H locs 0 0 (MQ below (QV X h0 o) args s 0 0 (aA (eB X))) (F0 m 121 ls []) := by
  obtain ⟨v_1, ev_1, hE⟩ := nm_e2 hE
  refine lv_iinc (v := v_1) (lv' := [(8, .int v_1), (0, .ref x0), (1, .ref x1), (2, .int x2), (3, .int x3), (4, .int x4), (5, .int x5), (6, .int x6), (7, .int x7)]) C.1 C.2.1 dX15_lead_121 hl (k := 8) rfl (by rw [ev_1]; rfl) (by decide) rfl (fun ls hl => ?_)
  refine lv_goto (tgt := 78) C.1 C.2.1 dX15_lead_124 (by decide) ?_
  exact hk_78 _ _ _ _ _ _ _ _ _ _ _ _ k_x0 k_x1 hkm hW hZ _ (lv_sub hl [1, 2, 3, 4, 5, 6, 7, 8, 0] rfl) hE
set_option maxRecDepth 20000 in
theorem bX15_lead_78 {p : Program} {l : Launch} {e : Env} {s : State} {m : MethodId} {args : Array Value} {below : List Frame} {meth : Method} {c : Code} {X : Ec} {h0 : Hp} {o : Hp} {k_44 : Hp → Nat → Nat → Int32 → Int32 → Int32 → Int32 → Int32 → Option (Hp)} {F : Nat} (C : Cx X p s m args meth c RX15 cX15_lead 9 none "lead") (hk_44 : ∀ (h : Hp) (x0 : Nat) (x1 : Nat) (x2 : Int32) (x3 : Int32) (x4 : Int32) (x5 : Int32) (x6 : Int32) (H : Heap) (locs : List Loc), hK h x0 = 15 → hK h x1 = 12 → Km h0 h → Wx X h H → va_S (aA (eB X)) s.heap H locs → ∀ (ls : Array Slot), lv_has ls 9 [(0, .ref x0), (1, .ref x1), (2, .int x2), (3, .int x3), (4, .int x4), (5, .int x5), (6, .int x6)] → k_44 h x0 x1 x2 x3 x4 x5 x6 = some o → W p l e (rm 2 56) s m args below meth c H locs 0 0 (MQ below (QV X h0 o) args s 0 0 (aA (eB X))) (F0 m 44 ls [])) : ∀ (f : Nat) {h : Hp} {x0 : Nat} {x1 : Nat} {x2 : Int32} {x3 : Int32} {x4 : Int32} {x5 : Int32} {x6 : Int32} {x7 : Int32} {x8 : Int32} {H : Heap} {locs : List Loc} (k_x0 : hK h x0 = 15) (k_x1 : hK h x1 = 12), Km h0 h → Wx X h H → va_S (aA (eB X)) s.heap H locs → ∀ (ls : Array Slot), lv_has ls 9 [(0, .ref x0), (1, .ref x1), (2, .int x2), (3, .int x3), (4, .int x4), (5, .int x5), (6, .int x6), (7, .int x7), (8, .int x8)] → sX15_lead_78 F k_44 f h x0 x1 x2 x3 x4 x5 x6 x7 x8 = some o → W p l e (rm 2 56) s m args below meth c H locs 0 0 (MQ below (QV X h0 o) args s 0 0 (aA (eB X))) (F0 m 78 ls []) := by
  intro f
  induction f with
  | zero =>
    intro h x0 x1 x2 x3 x4 x5 x6 x7 x8 H locs k_x0 k_x1 hkm hW hZ ls hl hE
    rw [sX15_lead_78] at hE
    cases hE
  | succ f ih =>
    intro h x0 x1 x2 x3 x4 x5 x6 x7 x8 H locs k_x0 k_x1 hkm hW hZ ls hl hE
    rw [sX15_lead_78] at hE
    have hk_78 : ∀ (h : Hp) (x0 : Nat) (x1 : Nat) (x2 : Int32) (x3 : Int32) (x4 : Int32) (x5 : Int32) (x6 : Int32) (x7 : Int32) (x8 : Int32) (H : Heap) (locs : List Loc), hK h x0 = 15 → hK h x1 = 12 → Km h0 h → Wx X h H → va_S (aA (eB X)) s.heap H locs → ∀ (ls : Array Slot), lv_has ls 9 [(0, .ref x0), (1, .ref x1), (2, .int x2), (3, .int x3), (4, .int x4), (5, .int x5), (6, .int x6), (7, .int x7), (8, .int x8)] → sX15_lead_78 F k_44 f h x0 x1 x2 x3 x4 x5 x6 x7 x8 = some o → W p l e (rm 2 56) s m args below meth c H locs 0 0 (MQ below (QV X h0 o) args s 0 0 (aA (eB X))) (F0 m 78 ls []) := fun h x0 x1 x2 x3 x4 x5 x6 x7 x8 H locs k_x0 k_x1 a b c ls hl hE => ih k_x0 k_x1 a b c ls hl hE
    refine lv_iload C.1 C.2.1 dX15_lead_78 (lv_at hl 8 rfl) ?_
    refine lv_bipush (v := (8 : Int32)) C.1 C.2.1 dX15_lead_80 (by decide) ?_
    refine lv_icmp_ge (tgt := 127) C.1 C.2.1 dX15_lead_82 (by decide) (fun c_1 => ?_) (fun c_1 => ?_)
    · have hE := br_p hE c_1
      exact bX15_lead_127 C hk_44 k_x0 k_x1 hkm hW hZ _ (lv_sub hl [0, 1, 2, 3, 4, 5, 6] rfl) hE
    · have hE := br_n hE c_1
      refine lv_aload_n C.1 C.2.1 dX15_lead_85 rfl (lv_at hl 0 rfl) ?_
      refine lv_iload C.1 C.2.1 dX15_lead_86 (lv_at hl 7 rfl) ?_
      refine lv_iload_n C.1 C.2.1 dX15_lead_88 rfl (lv_at hl 2 rfl) ?_
      refine lv_iload C.1 C.2.1 dX15_lead_89 (lv_at hl 5 rfl) ?_
      obtain ⟨o_2, eo_2, hE⟩ := cl_e hE
      refine x_kI (o := o_2) (z_runV (As := [.int x7, .int x2, .int x5]) (rest := []) C (ct_X15_isFrom l X k_x0 eo_2) cw_X15_559 hW hZ k_x0 (by decide) rfl rfl rfl hl.1 (Nat.le_of_ble_eq_true rfl) rfl dX15_lead_91 ⟨Nat.le_of_ble_eq_true rfl, Nat.le_of_ble_eq_true rfl⟩ ⟨Nat.le_refl _, Nat.le_refl _⟩) hZ (fun _ _ hW km hZ => ?_)
      replace hkm := hkm.tr km
      replace k_x0 := km.at k_x0 (by decide)
      replace k_x1 := km.at k_x1 (by decide)
      refine lv_if_eq (tgt := 127) C.1 C.2.1 dX15_lead_94 (by decide) (fun c_3 => ?_) (fun c_3 => ?_)
      · have hE := br_p hE c_3
        exact bX15_lead_127 C hk_44 k_x0 k_x1 hkm hW hZ _ (lv_sub hl [0, 1, 2, 3, 4, 5, 6] rfl) hE
      · have hE := br_n hE c_3
        refine lv_aload_n C.1 C.2.1 dX15_lead_97 rfl (lv_at hl 0 rfl) ?_
        refine lv_iload C.1 C.2.1 dX15_lead_98 (lv_at hl 7 rfl) ?_
        refine lv_iload C.1 C.2.1 dX15_lead_100 (lv_at hl 8 rfl) ?_
        refine lv_iload C.1 C.2.1 dX15_lead_102 (lv_at hl 5 rfl) ?_
        obtain ⟨o_4, eo_4, hE⟩ := cl_e hE
        refine x_kI (o := o_4) (z_runV (As := [.int x7, .int x8, .int x5]) (rest := []) C (ct_X15_hasVector l X k_x0 eo_4) cw_X15_516 hW hZ k_x0 (by decide) rfl rfl rfl hl.1 (Nat.le_of_ble_eq_true rfl) rfl dX15_lead_104 ⟨Nat.le_of_ble_eq_true rfl, Nat.le_of_ble_eq_true rfl⟩ ⟨Nat.le_refl _, Nat.le_refl _⟩) hZ (fun _ _ hW km hZ => ?_)
        replace hkm := hkm.tr km
        replace k_x0 := km.at k_x0 (by decide)
        replace k_x1 := km.at k_x1 (by decide)
        refine lv_if_eq (tgt := 121) C.1 C.2.1 dX15_lead_107 (by decide) (fun c_5 => ?_) (fun c_5 => ?_)
        · have hE := br_p hE c_5
          exact bX15_lead_121 C hk_44 hk_78 k_x0 k_x1 hkm hW hZ _ (lv_sub hl [0, 1, 2, 3, 4, 5, 6, 7, 8] rfl) hE
        · have hE := br_n hE c_5
          refine lv_aload_n C.1 C.2.1 dX15_lead_110 rfl (lv_at hl 0 rfl) ?_
          refine lv_aload_n C.1 C.2.1 dX15_lead_111 rfl (lv_at hl 1 rfl) ?_
          refine lv_iload_n C.1 C.2.1 dX15_lead_112 rfl (lv_at hl 2 rfl) ?_
          refine lv_iload C.1 C.2.1 dX15_lead_113 (lv_at hl 5 rfl) ?_
          refine lv_iload C.1 C.2.1 dX15_lead_115 (lv_at hl 7 rfl) ?_
          refine lv_iload_n C.1 C.2.1 dX15_lead_117 rfl (lv_at hl 3 rfl) ?_
          obtain ⟨o_6, eo_6, hE⟩ := cl_e hE
          refine x_kV (o := o_6) (z_runV (As := [.ref x1, .int x2, .int x5, .int x7, .int x3]) (rest := []) C (ct_X15_leadBy l X F k_x0 k_x1 eo_6) cw_X15_568 hW hZ k_x0 (by decide) rfl rfl rfl hl.1 (Nat.le_of_ble_eq_true rfl) rfl dX15_lead_118 ⟨Nat.le_of_ble_eq_true rfl, Nat.le_of_ble_eq_true rfl⟩ ⟨Nat.le_refl _, Nat.le_refl _⟩) hZ (fun _ _ hW km hZ => ?_)
          replace hkm := hkm.tr km
          replace k_x0 := km.at k_x0 (by decide)
          replace k_x1 := km.at k_x1 (by decide)
          exact bX15_lead_121 C hk_44 hk_78 k_x0 k_x1 hkm hW hZ _ (lv_sub hl [0, 1, 2, 3, 4, 5, 6, 7, 8] rfl) hE
set_option maxRecDepth 20000 in
theorem bX15_lead_44 {p : Program} {l : Launch} {e : Env} {s : State} {m : MethodId} {args : Array Value} {below : List Frame} {meth : Method} {c : Code} {X : Ec} {h0 : Hp} {o : Hp} {F : Nat} (C : Cx X p s m args meth c RX15 cX15_lead 9 none "lead") : ∀ (f : Nat) {h : Hp} {x0 : Nat} {x1 : Nat} {x2 : Int32} {x3 : Int32} {x4 : Int32} {x5 : Int32} {x6 : Int32} {H : Heap} {locs : List Loc} (k_x0 : hK h x0 = 15) (k_x1 : hK h x1 = 12), Km h0 h → Wx X h H → va_S (aA (eB X)) s.heap H locs → ∀ (ls : Array Slot), lv_has ls 9 [(0, .ref x0), (1, .ref x1), (2, .int x2), (3, .int x3), (4, .int x4), (5, .int x5), (6, .int x6)] → sX15_lead_44 F f h x0 x1 x2 x3 x4 x5 x6 = some o → W p l e (rm 2 56) s m args below meth c H locs 0 0 (MQ below (QV X h0 o) args s 0 0 (aA (eB X))) (F0 m 44 ls []) := by
  intro f
  induction f with
  | zero =>
    intro h x0 x1 x2 x3 x4 x5 x6 H locs k_x0 k_x1 hkm hW hZ ls hl hE
    rw [sX15_lead_44] at hE
    cases hE
  | succ f ih =>
    intro h x0 x1 x2 x3 x4 x5 x6 H locs k_x0 k_x1 hkm hW hZ ls hl hE
    rw [sX15_lead_44] at hE
    have hk_44 : ∀ (h : Hp) (x0 : Nat) (x1 : Nat) (x2 : Int32) (x3 : Int32) (x4 : Int32) (x5 : Int32) (x6 : Int32) (H : Heap) (locs : List Loc), hK h x0 = 15 → hK h x1 = 12 → Km h0 h → Wx X h H → va_S (aA (eB X)) s.heap H locs → ∀ (ls : Array Slot), lv_has ls 9 [(0, .ref x0), (1, .ref x1), (2, .int x2), (3, .int x3), (4, .int x4), (5, .int x5), (6, .int x6)] → sX15_lead_44 F f h x0 x1 x2 x3 x4 x5 x6 = some o → W p l e (rm 2 56) s m args below meth c H locs 0 0 (MQ below (QV X h0 o) args s 0 0 (aA (eB X))) (F0 m 44 ls []) := fun h x0 x1 x2 x3 x4 x5 x6 H locs k_x0 k_x1 a b c ls hl hE => ih k_x0 k_x1 a b c ls hl hE
    refine lv_iload C.1 C.2.1 dX15_lead_44 (lv_at hl 6 rfl) ?_
    refine lv_aload_n C.1 C.2.1 dX15_lead_46 rfl (lv_at hl 0 rfl) ?_
    obtain ⟨r_1, er_1, hE⟩ := cl_e hE
    refine gf_X15_252 C hW k_x0 er_1 dX15_lead_47 (fun k_r_1 => ?_)
    obtain ⟨r_2, er_2, hE⟩ := cl_e hE
    refine gf_X15_176 C hW k_r_1 er_2 dX15_lead_50 (fun k_r_2 => ?_)
    refine lv_iload C.1 C.2.1 dX15_lead_53 (lv_at hl 4 rfl) ?_
    obtain ⟨o_3, eo_3, hE⟩ := cl_e hE
    refine x_kI (o := o_3) (z_runS (As := [.int x4]) (rest := [.ref r_2, .int x6]) C (ct_X15_manOf l X eo_3) cw_X15_492 hW hZ rfl hl.1 (Nat.le_of_ble_eq_true rfl) rfl dX15_lead_55 ⟨Nat.le_of_ble_eq_true rfl, Nat.le_of_ble_eq_true rfl⟩ ⟨Nat.le_refl _, Nat.le_refl _⟩) hZ (fun _ _ hW km hZ => ?_)
    replace hkm := hkm.tr km
    replace k_x0 := km.at k_x0 (by decide)
    replace k_x1 := km.at k_x1 (by decide)
    replace k_r_2 := km.at k_r_2 (by decide)
    obtain ⟨g_4, hE⟩ := gd_e hE
    refine y_iald C hW k_r_2 g_4 dX15_lead_58 ?_
    refine lv_icmp_ge (tgt := 133) C.1 C.2.1 dX15_lead_59 (by decide) (fun c_5 => ?_) (fun c_5 => ?_)
    · have hE := br_p hE c_5
      exact x_vret C rfl hW hZ hkm hE dX15_lead_133
    · have hE := br_n hE c_5
      refine lv_bipush (v := (8 : Int32)) C.1 C.2.1 dX15_lead_62 (by decide) ?_
      refine lv_iload C.1 C.2.1 dX15_lead_64 (lv_at hl 4 rfl) ?_
      obtain ⟨o_6, eo_6, hE⟩ := cl_e hE
      refine x_kI (o := o_6) (z_runS (As := [.int x4]) (rest := [.int (8 : Int32)]) C (ct_X15_manOf l X eo_6) cw_X15_492 hW hZ rfl hl.1 (Nat.le_of_ble_eq_true rfl) rfl dX15_lead_66 ⟨Nat.le_of_ble_eq_true rfl, Nat.le_of_ble_eq_true rfl⟩ ⟨Nat.le_refl _, Nat.le_refl _⟩) hZ (fun _ _ hW km hZ => ?_)
      replace hkm := hkm.tr km
      replace k_x0 := km.at k_x0 (by decide)
      replace k_x1 := km.at k_x1 (by decide)
      refine lv_imul C.1 C.2.1 dX15_lead_69 ?_
      refine lv_iload C.1 C.2.1 dX15_lead_70 (lv_at hl 6 rfl) ?_
      refine lv_iadd C.1 C.2.1 dX15_lead_72 ?_
      obtain ⟨v_7, ev_7, hE⟩ := nm_e2 hE
      refine x_nmI ev_7 ?_
      refine lv_istore (lv' := [(7, .int v_7), (0, .ref x0), (1, .ref x1), (2, .int x2), (3, .int x3), (4, .int x4), (5, .int x5), (6, .int x6)]) C.1 C.2.1 dX15_lead_73 hl (by decide) rfl (fun ls hl => ?_)
      refine lv_iconst (v := (0 : Int32)) C.1 C.2.1 dX15_lead_75 (by decide) ?_
      refine lv_istore (lv' := [(8, .int (0 : Int32)), (7, .int v_7), (0, .ref x0), (1, .ref x1), (2, .int x2), (3, .int x3), (4, .int x4), (5, .int x5), (6, .int x6)]) C.1 C.2.1 dX15_lead_76 hl (by decide) rfl (fun ls hl => ?_)
      exact bX15_lead_78 C hk_44 F k_x0 k_x1 hkm hW hZ _ (lv_sub hl [2, 3, 4, 5, 6, 7, 8, 1, 0] rfl) hE
set_option maxRecDepth 20000 in
theorem bX15_lead_18 {p : Program} {l : Launch} {e : Env} {s : State} {m : MethodId} {args : Array Value} {below : List Frame} {meth : Method} {c : Code} {X : Ec} {h0 : Hp} {o : Hp} {F : Nat} (C : Cx X p s m args meth c RX15 cX15_lead 9 none "lead") : ∀ (f : Nat) {h : Hp} {x0 : Nat} {x1 : Nat} {x2 : Int32} {x3 : Int32} {x4 : Int32} {x5 : Int32} {x6 : Int32} {H : Heap} {locs : List Loc} (k_x0 : hK h x0 = 15) (k_x1 : hK h x1 = 12), Km h0 h → Wx X h H → va_S (aA (eB X)) s.heap H locs → ∀ (ls : Array Slot), lv_has ls 9 [(0, .ref x0), (1, .ref x1), (2, .int x2), (3, .int x3), (4, .int x4), (5, .int x5), (6, .int x6)] → sX15_lead_18 F f h x0 x1 x2 x3 x4 x5 x6 = some o → W p l e (rm 2 56) s m args below meth c H locs 0 0 (MQ below (QV X h0 o) args s 0 0 (aA (eB X))) (F0 m 18 ls []) := by
  intro f
  induction f with
  | zero =>
    intro h x0 x1 x2 x3 x4 x5 x6 H locs k_x0 k_x1 hkm hW hZ ls hl hE
    rw [sX15_lead_18] at hE
    cases hE
  | succ f ih =>
    intro h x0 x1 x2 x3 x4 x5 x6 H locs k_x0 k_x1 hkm hW hZ ls hl hE
    rw [sX15_lead_18] at hE
    have hk_18 : ∀ (h : Hp) (x0 : Nat) (x1 : Nat) (x2 : Int32) (x3 : Int32) (x4 : Int32) (x5 : Int32) (x6 : Int32) (H : Heap) (locs : List Loc), hK h x0 = 15 → hK h x1 = 12 → Km h0 h → Wx X h H → va_S (aA (eB X)) s.heap H locs → ∀ (ls : Array Slot), lv_has ls 9 [(0, .ref x0), (1, .ref x1), (2, .int x2), (3, .int x3), (4, .int x4), (5, .int x5), (6, .int x6)] → sX15_lead_18 F f h x0 x1 x2 x3 x4 x5 x6 = some o → W p l e (rm 2 56) s m args below meth c H locs 0 0 (MQ below (QV X h0 o) args s 0 0 (aA (eB X))) (F0 m 18 ls []) := fun h x0 x1 x2 x3 x4 x5 x6 H locs k_x0 k_x1 a b c ls hl hE => ih k_x0 k_x1 a b c ls hl hE
    refine lv_iload C.1 C.2.1 dX15_lead_18 (lv_at hl 6 rfl) ?_
    refine lv_aload_n C.1 C.2.1 dX15_lead_20 rfl (lv_at hl 0 rfl) ?_
    refine gf_X15_384 C hW k_x0 dX15_lead_21 ?_
    refine lv_icmp_ge (tgt := 41) C.1 C.2.1 dX15_lead_24 (by decide) (fun c_1 => ?_) (fun c_1 => ?_)
    · have hE := br_p hE c_1
      refine lv_iconst (v := (0 : Int32)) C.1 C.2.1 dX15_lead_41 (by decide) ?_
      refine lv_istore (lv' := [(6, .int (0 : Int32)), (0, .ref x0), (1, .ref x1), (2, .int x2), (3, .int x3), (4, .int x4), (5, .int x5)]) C.1 C.2.1 dX15_lead_42 hl (by decide) rfl (fun ls hl => ?_)
      exact bX15_lead_44 C F k_x0 k_x1 hkm hW hZ _ (lv_sub hl [1, 2, 3, 4, 5, 6, 0] rfl) hE
    · have hE := br_n hE c_1
      refine lv_aload_n C.1 C.2.1 dX15_lead_27 rfl (lv_at hl 0 rfl) ?_
      obtain ⟨r_2, er_2, hE⟩ := cl_e hE
      refine gf_X15_272 C hW k_x0 er_2 dX15_lead_28 (fun k_r_2 => ?_)
      refine lv_iload C.1 C.2.1 dX15_lead_31 (lv_at hl 6 rfl) ?_
      refine lv_iconst (v := (-1 : Int32)) C.1 C.2.1 dX15_lead_33 (by decide) ?_
      obtain ⟨g_3, hE⟩ := gd_e hE
      obtain ⟨h_4, eh_4, hE⟩ := nm_e2 hE
      refine y_iast C hW hZ k_r_2 g_3 eh_4 dX15_lead_34 (fun _ _ hW km hZ => ?_)
      replace hkm := hkm.tr km
      replace k_x0 := km.at k_x0 (by decide)
      replace k_x1 := km.at k_x1 (by decide)
      obtain ⟨v_5, ev_5, hE⟩ := nm_e2 hE
      refine lv_iinc (v := v_5) (lv' := [(6, .int v_5), (0, .ref x0), (1, .ref x1), (2, .int x2), (3, .int x3), (4, .int x4), (5, .int x5)]) C.1 C.2.1 dX15_lead_35 hl (k := 6) rfl (by rw [ev_5]; rfl) (by decide) rfl (fun ls hl => ?_)
      refine lv_goto (tgt := 18) C.1 C.2.1 dX15_lead_38 (by decide) ?_
      exact hk_18 _ _ _ _ _ _ _ _ _ _ k_x0 k_x1 hkm hW hZ _ (lv_sub hl [1, 2, 3, 4, 5, 6, 0] rfl) hE
set_option maxRecDepth 20000 in
theorem ct_X15_lead (l : Launch) (X : Ec) (F : Nat) {h : Hp} {x0 : Nat} {x1 : Nat} {x2 : Int32} {x3 : Int32} {o : Hp} (k_x0 : hK h x0 = 15) (k_x1 : hK h x1 = 12) (hE : sX15_lead F h x0 x1 x2 x3 = some o) : MetV l yX15_lead cX15_lead 9 none 2 56 X [.ref x0, .ref x1, .int x2, .int x3] h o := by
  refine x_met (by decide) (Nat.le_of_ble_eq_true rfl) ?_
  intro p e s m below meth c ls C hl hW hZ
  have hl : lv_has ls 9 [(0, .ref x0), (1, .ref x1), (2, .int x2), (3, .int x3)] := hl
  have hkm : Km h h := Km.rf h
  refine lv_aload_n C.1 C.2.1 dX15_lead_0 rfl (lv_at hl 1 rfl) ?_
  obtain ⟨r_1, er_1, hE⟩ := cl_e hE
  refine gf_X15_396 C hW k_x1 er_1 dX15_lead_1 (fun k_r_1 => ?_)
  refine lv_iload_n C.1 C.2.1 dX15_lead_4 rfl (lv_at hl 2 rfl) ?_
  obtain ⟨g_2, hE⟩ := gd_e hE
  refine y_iald C hW k_r_1 g_2 dX15_lead_5 ?_
  obtain ⟨v_3, ev_3, hE⟩ := nm_e2 hE
  refine x_nmI ev_3 ?_
  refine lv_istore (lv' := [(4, .int v_3), (0, .ref x0), (1, .ref x1), (2, .int x2), (3, .int x3)]) C.1 C.2.1 dX15_lead_6 hl (by decide) rfl (fun ls hl => ?_)
  refine lv_iload C.1 C.2.1 dX15_lead_8 (lv_at hl 0 rfl) ?_
  obtain ⟨o_4, eo_4, hE⟩ := cl_e hE
  refine x_kI (o := o_4) (z_runS (As := [.int v_3]) (rest := []) C (ct_X15_sideOf l X eo_4) cw_X15_489 hW hZ rfl hl.1 (Nat.le_of_ble_eq_true rfl) rfl dX15_lead_10 ⟨Nat.le_of_ble_eq_true rfl, Nat.le_of_ble_eq_true rfl⟩ ⟨Nat.le_refl _, Nat.le_refl _⟩) hZ (fun _ _ hW km hZ => ?_)
  replace hkm := hkm.tr km
  replace k_x0 := km.at k_x0 (by decide)
  replace k_x1 := km.at k_x1 (by decide)
  refine lv_istore (lv' := [(5, .int o_4.1), (4, .int v_3), (0, .ref x0), (1, .ref x1), (2, .int x2), (3, .int x3)]) C.1 C.2.1 dX15_lead_13 hl (by decide) rfl (fun ls hl => ?_)
  refine lv_iconst (v := (0 : Int32)) C.1 C.2.1 dX15_lead_15 (by decide) ?_
  refine lv_istore (lv' := [(6, .int (0 : Int32)), (5, .int o_4.1), (4, .int v_3), (0, .ref x0), (1, .ref x1), (2, .int x2), (3, .int x3)]) C.1 C.2.1 dX15_lead_16 hl (by decide) rfl (fun ls hl => ?_)
  exact bX15_lead_18 C F k_x0 k_x1 hkm hW hZ _ (lv_sub hl [3, 4, 5, 6, 2, 1, 0] rfl) hE
set_option maxRecDepth 100000 in
theorem m_2548 : Cond.methodLink RX15 590 yX13_add ∈ W0 := w0_in (List.mem_append_right _ (List.mem_of_getElem? (i := 2548) rfl)) rfl
set_option maxRecDepth 100000 in
theorem m_2549 : Cond.instanceMethod yX13_add ∈ W0 := w0_in (List.mem_append_right _ (List.mem_of_getElem? (i := 2549) rfl)) rfl
set_option maxRecDepth 100000 in
theorem m_2550 : Cond.selects RX13 yX13_add yX13_add ∈ W0 := w0_in (List.mem_append_right _ (List.mem_of_getElem? (i := 2550) rfl)) rfl
set_option maxRecDepth 100000 in
theorem m_2551 : Cond.code yX13_add cX13_add 8 none ∈ W0 := w0_in (List.mem_append_right _ (List.mem_of_getElem? (i := 2551) rfl)) rfl
theorem cw_X15_590 : cwd RX15 590 yX13_add cX13_add 8 none false 7 := ⟨m_2551, m_2548, m_22, ⟨m_2549, m_2550⟩, by decide, by decide, by decide +kernel⟩
theorem dX15_trySteps_0 : decode cX15_trySteps 0 = .ok (.aload_n 0, 1) := by decide +kernel
theorem dX15_trySteps_1 : decode cX15_trySteps 1 = .ok (.getfield 278, 3) := by decide +kernel
theorem dX15_trySteps_4 : decode cX15_trySteps 4 = .ok (.iload_n 3, 1) := by decide +kernel
theorem dX15_trySteps_5 : decode cX15_trySteps 5 = .ok (.baload, 1) := by decide +kernel
theorem dX15_trySteps_6 : decode cX15_trySteps 6 = .ok (.ifCond .eq 20, 3) := by decide +kernel
theorem dX15_trySteps_9 : decode cX15_trySteps 9 = .ok (.aload_n 1, 1) := by decide +kernel
theorem dX15_trySteps_10 : decode cX15_trySteps 10 = .ok (.getfield 396, 3) := by decide +kernel
theorem dX15_trySteps_13 : decode cX15_trySteps 13 = .ok (.aload_n 1, 1) := by decide +kernel
theorem dX15_trySteps_14 : decode cX15_trySteps 14 = .ok (.getfield 439, 3) := by decide +kernel
theorem dX15_trySteps_17 : decode cX15_trySteps 17 = .ok (.iconst 0, 1) := by decide +kernel
theorem dX15_trySteps_18 : decode cX15_trySteps 18 = .ok (.iaload, 1) := by decide +kernel
theorem dX15_trySteps_19 : decode cX15_trySteps 19 = .ok (.iaload, 1) := by decide +kernel
theorem dX15_trySteps_20 : decode cX15_trySteps 20 = .ok (.invokestatic 492, 3) := by decide +kernel
theorem dX15_trySteps_23 : decode cX15_trySteps 23 = .ok (.goto 25, 3) := by decide +kernel
theorem dX15_trySteps_26 : decode cX15_trySteps 26 = .ok (.aload_n 1, 1) := by decide +kernel
theorem dX15_trySteps_27 : decode cX15_trySteps 27 = .ok (.getfield 396, 3) := by decide +kernel
theorem dX15_trySteps_30 : decode cX15_trySteps 30 = .ok (.iload_n 3, 1) := by decide +kernel
theorem dX15_trySteps_31 : decode cX15_trySteps 31 = .ok (.iaload, 1) := by decide +kernel
theorem dX15_trySteps_32 : decode cX15_trySteps 32 = .ok (.ifCond .le 15, 3) := by decide +kernel
theorem dX15_trySteps_35 : decode cX15_trySteps 35 = .ok (.aload_n 1, 1) := by decide +kernel
theorem dX15_trySteps_36 : decode cX15_trySteps 36 = .ok (.getfield 396, 3) := by decide +kernel
theorem dX15_trySteps_39 : decode cX15_trySteps 39 = .ok (.iload_n 3, 1) := by decide +kernel
theorem dX15_trySteps_40 : decode cX15_trySteps 40 = .ok (.iaload, 1) := by decide +kernel
theorem dX15_trySteps_41 : decode cX15_trySteps 41 = .ok (.invokestatic 492, 3) := by decide +kernel
theorem dX15_trySteps_44 : decode cX15_trySteps 44 = .ok (.goto 4, 3) := by decide +kernel
theorem dX15_trySteps_47 : decode cX15_trySteps 47 = .ok (.iconst (-1), 1) := by decide +kernel
theorem dX15_trySteps_48 : decode cX15_trySteps 48 = .ok (.istore 6, 2) := by decide +kernel
theorem dX15_trySteps_50 : decode cX15_trySteps 50 = .ok (.aload_n 0, 1) := by decide +kernel
theorem dX15_trySteps_51 : decode cX15_trySteps 51 = .ok (.getfield 252, 3) := by decide +kernel
theorem dX15_trySteps_54 : decode cX15_trySteps 54 = .ok (.getfield 198, 3) := by decide +kernel
theorem dX15_trySteps_57 : decode cX15_trySteps 57 = .ok (.aload_n 0, 1) := by decide +kernel
theorem dX15_trySteps_58 : decode cX15_trySteps 58 = .ok (.getfield 272, 3) := by decide +kernel
theorem dX15_trySteps_61 : decode cX15_trySteps 61 = .ok (.iload_n 3, 1) := by decide +kernel
theorem dX15_trySteps_62 : decode cX15_trySteps 62 = .ok (.iaload, 1) := by decide +kernel
theorem dX15_trySteps_63 : decode cX15_trySteps 63 = .ok (.iaload, 1) := by decide +kernel
theorem dX15_trySteps_64 : decode cX15_trySteps 64 = .ok (.bipush 16, 2) := by decide +kernel
theorem dX15_trySteps_66 : decode cX15_trySteps 66 = .ok (.iand, 1) := by decide +kernel
theorem dX15_trySteps_67 : decode cX15_trySteps 67 = .ok (.ifCond .eq 22, 3) := by decide +kernel
theorem dX15_trySteps_70 : decode cX15_trySteps 70 = .ok (.aload_n 0, 1) := by decide +kernel
theorem dX15_trySteps_71 : decode cX15_trySteps 71 = .ok (.getfield 275, 3) := by decide +kernel
theorem dX15_trySteps_74 : decode cX15_trySteps 74 = .ok (.iload_n 3, 1) := by decide +kernel
theorem dX15_trySteps_75 : decode cX15_trySteps 75 = .ok (.iaload, 1) := by decide +kernel
theorem dX15_trySteps_76 : decode cX15_trySteps 76 = .ok (.iconst 1, 1) := by decide +kernel
theorem dX15_trySteps_77 : decode cX15_trySteps 77 = .ok (.if_icmp .le 12, 3) := by decide +kernel
theorem dX15_trySteps_80 : decode cX15_trySteps 80 = .ok (.aload_n 0, 1) := by decide +kernel
theorem dX15_trySteps_81 : decode cX15_trySteps 81 = .ok (.getfield 275, 3) := by decide +kernel
theorem dX15_trySteps_84 : decode cX15_trySteps 84 = .ok (.iload_n 3, 1) := by decide +kernel
theorem dX15_trySteps_85 : decode cX15_trySteps 85 = .ok (.iaload, 1) := by decide +kernel
theorem dX15_trySteps_86 : decode cX15_trySteps 86 = .ok (.goto 4, 3) := by decide +kernel
theorem dX15_trySteps_89 : decode cX15_trySteps 89 = .ok (.iconst 0, 1) := by decide +kernel
theorem dX15_trySteps_90 : decode cX15_trySteps 90 = .ok (.istore 7, 2) := by decide +kernel
theorem dX15_trySteps_92 : decode cX15_trySteps 92 = .ok (.aload_n 0, 1) := by decide +kernel
theorem dX15_trySteps_93 : decode cX15_trySteps 93 = .ok (.getfield 278, 3) := by decide +kernel
theorem dX15_trySteps_96 : decode cX15_trySteps 96 = .ok (.iload_n 3, 1) := by decide +kernel
theorem dX15_trySteps_97 : decode cX15_trySteps 97 = .ok (.baload, 1) := by decide +kernel
theorem dX15_trySteps_98 : decode cX15_trySteps 98 = .ok (.ifCond .eq 7, 3) := by decide +kernel
theorem dX15_trySteps_101 : decode cX15_trySteps 101 = .ok (.iconst 1, 1) := by decide +kernel
theorem dX15_trySteps_102 : decode cX15_trySteps 102 = .ok (.goto 4, 3) := by decide +kernel
theorem dX15_trySteps_105 : decode cX15_trySteps 105 = .ok (.iconst 0, 1) := by decide +kernel
theorem dX15_trySteps_106 : decode cX15_trySteps 106 = .ok (.istore 8, 2) := by decide +kernel
theorem dX15_trySteps_108 : decode cX15_trySteps 108 = .ok (.aload_n 0, 1) := by decide +kernel
theorem dX15_trySteps_109 : decode cX15_trySteps 109 = .ok (.iload 4, 2) := by decide +kernel
theorem dX15_trySteps_111 : decode cX15_trySteps 111 = .ok (.invokevirtual 495, 3) := by decide +kernel
theorem dX15_trySteps_114 : decode cX15_trySteps 114 = .ok (.ifCond .eq 93, 3) := by decide +kernel
theorem dX15_trySteps_117 : decode cX15_trySteps 117 = .ok (.aload_n 0, 1) := by decide +kernel
theorem dX15_trySteps_118 : decode cX15_trySteps 118 = .ok (.iload_n 3, 1) := by decide +kernel
theorem dX15_trySteps_119 : decode cX15_trySteps 119 = .ok (.aload_n 1, 1) := by decide +kernel
theorem dX15_trySteps_120 : decode cX15_trySteps 120 = .ok (.getfield 452, 3) := by decide +kernel
theorem dX15_trySteps_123 : decode cX15_trySteps 123 = .ok (.invokevirtual 498, 3) := by decide +kernel
theorem dX15_trySteps_126 : decode cX15_trySteps 126 = .ok (.aload_n 0, 1) := by decide +kernel
theorem dX15_trySteps_127 : decode cX15_trySteps 127 = .ok (.getfield 383, 3) := by decide +kernel
theorem dX15_trySteps_130 : decode cX15_trySteps 130 = .ok (.if_icmp .ne 77, 3) := by decide +kernel
theorem dX15_trySteps_133 : decode cX15_trySteps 133 = .ok (.aload_n 0, 1) := by decide +kernel
theorem dX15_trySteps_134 : decode cX15_trySteps 134 = .ok (.getfield 252, 3) := by decide +kernel
theorem dX15_trySteps_137 : decode cX15_trySteps 137 = .ok (.getfield 142, 3) := by decide +kernel
theorem dX15_trySteps_140 : decode cX15_trySteps 140 = .ok (.ifCond .eq 9, 3) := by decide +kernel
theorem dX15_trySteps_143 : decode cX15_trySteps 143 = .ok (.iload 6, 2) := by decide +kernel
theorem dX15_trySteps_145 : decode cX15_trySteps 145 = .ok (.iconst (-1), 1) := by decide +kernel
theorem dX15_trySteps_146 : decode cX15_trySteps 146 = .ok (.if_icmp .ne 61, 3) := by decide +kernel
theorem dX15_trySteps_149 : decode cX15_trySteps 149 = .ok (.iconst 0, 1) := by decide +kernel
theorem dX15_trySteps_150 : decode cX15_trySteps 150 = .ok (.istore 9, 2) := by decide +kernel
theorem dX15_trySteps_152 : decode cX15_trySteps 152 = .ok (.iload 9, 2) := by decide +kernel
theorem dX15_trySteps_154 : decode cX15_trySteps 154 = .ok (.aload_n 0, 1) := by decide +kernel
theorem dX15_trySteps_155 : decode cX15_trySteps 155 = .ok (.getfield 252, 3) := by decide +kernel
theorem dX15_trySteps_158 : decode cX15_trySteps 158 = .ok (.getfield 215, 3) := by decide +kernel
theorem dX15_trySteps_161 : decode cX15_trySteps 161 = .ok (.iload 4, 2) := by decide +kernel
theorem dX15_trySteps_163 : decode cX15_trySteps 163 = .ok (.iaload, 1) := by decide +kernel
theorem dX15_trySteps_164 : decode cX15_trySteps 164 = .ok (.if_icmp .ge 40, 3) := by decide +kernel
theorem dX15_trySteps_167 : decode cX15_trySteps 167 = .ok (.aload 5, 2) := by decide +kernel
theorem dX15_trySteps_169 : decode cX15_trySteps 169 = .ok (.iload_n 2, 1) := by decide +kernel
theorem dX15_trySteps_170 : decode cX15_trySteps 170 = .ok (.iload_n 3, 1) := by decide +kernel
theorem dX15_trySteps_171 : decode cX15_trySteps 171 = .ok (.iload 4, 2) := by decide +kernel
theorem dX15_trySteps_173 : decode cX15_trySteps 173 = .ok (.aload_n 0, 1) := by decide +kernel
theorem dX15_trySteps_174 : decode cX15_trySteps 174 = .ok (.getfield 252, 3) := by decide +kernel
theorem dX15_trySteps_177 : decode cX15_trySteps 177 = .ok (.getfield 223, 3) := by decide +kernel
theorem dX15_trySteps_180 : decode cX15_trySteps 180 = .ok (.bipush 6, 2) := by decide +kernel
theorem dX15_trySteps_182 : decode cX15_trySteps 182 = .ok (.iload 4, 2) := by decide +kernel
theorem dX15_trySteps_184 : decode cX15_trySteps 184 = .ok (.imul, 1) := by decide +kernel
theorem dX15_trySteps_185 : decode cX15_trySteps 185 = .ok (.iload 9, 2) := by decide +kernel
theorem dX15_trySteps_187 : decode cX15_trySteps 187 = .ok (.iadd, 1) := by decide +kernel
theorem dX15_trySteps_188 : decode cX15_trySteps 188 = .ok (.iaload, 1) := by decide +kernel
theorem dX15_trySteps_189 : decode cX15_trySteps 189 = .ok (.iload 6, 2) := by decide +kernel
theorem dX15_trySteps_191 : decode cX15_trySteps 191 = .ok (.iload 8, 2) := by decide +kernel
theorem dX15_trySteps_193 : decode cX15_trySteps 193 = .ok (.iload 7, 2) := by decide +kernel
theorem dX15_trySteps_195 : decode cX15_trySteps 195 = .ok (.invokevirtual 590, 3) := by decide +kernel
theorem dX15_trySteps_198 : decode cX15_trySteps 198 = .ok (.iinc 9 1, 3) := by decide +kernel
theorem dX15_trySteps_201 : decode cX15_trySteps 201 = .ok (.goto (-49), 3) := by decide +kernel
theorem dX15_trySteps_204 : decode cX15_trySteps 204 = .ok (.goto 19, 3) := by decide +kernel
theorem dX15_trySteps_207 : decode cX15_trySteps 207 = .ok (.aload 5, 2) := by decide +kernel
theorem dX15_trySteps_209 : decode cX15_trySteps 209 = .ok (.iload_n 2, 1) := by decide +kernel
theorem dX15_trySteps_210 : decode cX15_trySteps 210 = .ok (.iload_n 3, 1) := by decide +kernel
theorem dX15_trySteps_211 : decode cX15_trySteps 211 = .ok (.iload 4, 2) := by decide +kernel
theorem dX15_trySteps_213 : decode cX15_trySteps 213 = .ok (.iconst (-1), 1) := by decide +kernel
theorem dX15_trySteps_214 : decode cX15_trySteps 214 = .ok (.iload 6, 2) := by decide +kernel
theorem dX15_trySteps_216 : decode cX15_trySteps 216 = .ok (.iload 8, 2) := by decide +kernel
theorem dX15_trySteps_218 : decode cX15_trySteps 218 = .ok (.iload 7, 2) := by decide +kernel
theorem dX15_trySteps_220 : decode cX15_trySteps 220 = .ok (.invokevirtual 590, 3) := by decide +kernel
theorem dX15_trySteps_223 : decode cX15_trySteps 223 = .ok (.return_, 1) := by decide +kernel
def sX15_trySteps_223 (F : Nat) (h : Hp) : Option (Hp) := some h
def sX15_trySteps_207 (F : Nat) (h : Hp) (x2 : Int32) (x3 : Int32) (x4 : Int32) (x5 : Nat) (x6 : Int32) (x7 : Int32) (x8 : Int32) : Option (Hp) := cl (sX13_add h x5 x2 x3 x4 (-1 : Int32) x6 x8 x7) fun o_1 => sX15_trySteps_223 F o_1 
def sX15_trySteps_152 (F : Nat) : Nat → Hp → Nat → Int32 → Int32 → Int32 → Nat → Int32 → Int32 → Int32 → Int32 → Option (Hp)
  | 0, _, _, _, _, _, _, _, _, _, _ => none
  | f + 1, h, x0, x2, x3, x4, x5, x6, x7, x8, x9 => cl (hR h x0 4) fun r_1 => cl (hR h r_1 14) fun r_2 => gd (inB x4 (hN h r_2)) <| br ((hI h r_2 x4.toNatClampNeg) ≤ x9) (sX15_trySteps_223 F h ) (cl (hR h x0 4) fun r_5 => cl (hR h r_5 13) fun r_6 => gd (inB (((6 : Int32) * x4) + x9) (hN h r_6)) <| cl (sX13_add h x5 x2 x3 x4 (hI h r_6 (((6 : Int32) * x4) + x9).toNatClampNeg) x6 x8 x7) fun o_8 => nm (x9 + (1 : Int32)) fun v_9 => sX15_trySteps_152 F f o_8 x0 x2 x3 x4 x5 x6 x7 x8 v_9)
def sX15_trySteps_149 (F : Nat) (h : Hp) (x0 : Nat) (x2 : Int32) (x3 : Int32) (x4 : Int32) (x5 : Nat) (x6 : Int32) (x7 : Int32) (x8 : Int32) : Option (Hp) := sX15_trySteps_152 F F h x0 x2 x3 x4 x5 x6 x7 x8 (0 : Int32)
def sX15_trySteps_106 (F : Nat) (h : Hp) (x0 : Nat) (x1 : Nat) (x2 : Int32) (x3 : Int32) (x4 : Int32) (x5 : Nat) (x6 : Int32) (x7 : Int32) (t0 : Int32) : Option (Hp) := cl (sX15_becomesOthers h x0 x4) fun o_1 => br (o_1.1 = 0) (sX15_trySteps_207 F o_1.2 x2 x3 x4 x5 x6 x7 t0) (cl (sX15_rankFor o_1.2 x0 x3 (hI o_1.2 x1 1)) fun o_3 => br (o_3.1 = (hI o_3.2 x0 12)) (cl (hR o_3.2 x0 4) fun r_5 => br ((hI o_3.2 r_5 18) = 0) (sX15_trySteps_149 F o_3.2 x0 x2 x3 x4 x5 x6 x7 t0) (br (x6 = (-1 : Int32)) (sX15_trySteps_149 F o_3.2 x0 x2 x3 x4 x5 x6 x7 t0) (sX15_trySteps_207 F o_3.2 x2 x3 x4 x5 x6 x7 t0))) (sX15_trySteps_207 F o_3.2 x2 x3 x4 x5 x6 x7 t0))
def sX15_trySteps_90 (F : Nat) (h : Hp) (x0 : Nat) (x1 : Nat) (x2 : Int32) (x3 : Int32) (x4 : Int32) (x5 : Nat) (x6 : Int32) (t0 : Int32) : Option (Hp) := cl (hR h x0 27) fun r_1 => gd (inB x3 (hN h r_1)) <| br ((hI h r_1 x3.toNatClampNeg) = 0) (sX15_trySteps_106 F h x0 x1 x2 x3 x4 x5 x6 t0 (0 : Int32)) (sX15_trySteps_106 F h x0 x1 x2 x3 x4 x5 x6 t0 (1 : Int32))
def sX15_trySteps_89 (F : Nat) (h : Hp) (x0 : Nat) (x1 : Nat) (x2 : Int32) (x3 : Int32) (x4 : Int32) (x5 : Nat) (x6 : Int32) : Option (Hp) := sX15_trySteps_90 F h x0 x1 x2 x3 x4 x5 x6 (0 : Int32)
def sX15_trySteps_48 (F : Nat) (h : Hp) (x0 : Nat) (x1 : Nat) (x2 : Int32) (x3 : Int32) (x4 : Int32) (x5 : Nat) (t0 : Int32) : Option (Hp) := cl (hR h x0 4) fun r_1 => cl (hR h r_1 5) fun r_2 => cl (hR h x0 25) fun r_3 => gd (inB x3 (hN h r_3)) <| gd (inB (hI h r_3 x3.toNatClampNeg) (hN h r_2)) <| br (((hI h r_2 (hI h r_3 x3.toNatClampNeg).toNatClampNeg) &&& (16 : Int32)) = 0) (sX15_trySteps_89 F h x0 x1 x2 x3 x4 x5 t0) (cl (hR h x0 26) fun r_7 => gd (inB x3 (hN h r_7)) <| br ((hI h r_7 x3.toNatClampNeg) ≤ (1 : Int32)) (sX15_trySteps_89 F h x0 x1 x2 x3 x4 x5 t0) (cl (hR h x0 26) fun r_10 => gd (inB x3 (hN h r_10)) <| sX15_trySteps_90 F h x0 x1 x2 x3 x4 x5 t0 (hI h r_10 x3.toNatClampNeg)))
def sX15_trySteps (F : Nat) (h : Hp) (x0 : Nat) (x1 : Nat) (x2 : Int32) (x3 : Int32) (x4 : Int32) (x5 : Nat) : Option (Hp) := cl (hR h x0 27) fun r_1 => gd (inB x3 (hN h r_1)) <| br ((hI h r_1 x3.toNatClampNeg) = 0) (cl (hR h x1 0) fun r_4 => gd (inB x3 (hN h r_4)) <| br ((hI h r_4 x3.toNatClampNeg) ≤ 0) (sX15_trySteps_48 F h x0 x1 x2 x3 x4 x5 (-1 : Int32)) (cl (hR h x1 0) fun r_7 => gd (inB x3 (hN h r_7)) <| cl (sX15_manOf h (hI h r_7 x3.toNatClampNeg)) fun o_9 => sX15_trySteps_48 F o_9.2 x0 x1 x2 x3 x4 x5 o_9.1)) (cl (hR h x1 0) fun r_10 => cl (hR h x1 4) fun r_11 => gd (inB (0 : Int32) (hN h r_11)) <| gd (inB (hI h r_11 (0 : Int32).toNatClampNeg) (hN h r_10)) <| cl (sX15_manOf h (hI h r_10 (hI h r_11 (0 : Int32).toNatClampNeg).toNatClampNeg)) fun o_14 => sX15_trySteps_48 F o_14.2 x0 x1 x2 x3 x4 x5 o_14.1)
set_option maxRecDepth 20000 in
theorem moX15_trySteps_223 {o : Hp} {F : Nat} {h : Hp} (hE : sX15_trySteps_223 F h  = some o) : Le h o := by
  exact le_some1 hE
set_option maxRecDepth 20000 in
theorem moX15_trySteps_207 {o : Hp} {F : Nat} {h : Hp} {x2 : Int32} {x3 : Int32} {x4 : Int32} {x5 : Nat} {x6 : Int32} {x7 : Int32} {x8 : Int32} (hE : sX15_trySteps_207 F h x2 x3 x4 x5 x6 x7 x8 = some o) : Le h o := by
  obtain ⟨o_1, eo_1, hE⟩ := cl_e hE
  refine (moX13_add eo_1).tr ?_
  exact moX15_trySteps_223 hE
set_option maxRecDepth 20000 in
theorem moX15_trySteps_152 {o : Hp} {F : Nat} : ∀ (f : Nat) {h : Hp} {x0 : Nat} {x2 : Int32} {x3 : Int32} {x4 : Int32} {x5 : Nat} {x6 : Int32} {x7 : Int32} {x8 : Int32} {x9 : Int32}, sX15_trySteps_152 F f h x0 x2 x3 x4 x5 x6 x7 x8 x9 = some o → Le h o := by
  intro f
  induction f with
  | zero =>
    intro h x0 x2 x3 x4 x5 x6 x7 x8 x9 hE
    rw [sX15_trySteps_152] at hE
    cases hE
  | succ f ih =>
    intro h x0 x2 x3 x4 x5 x6 x7 x8 x9 hE
    rw [sX15_trySteps_152] at hE
    have mk_152 : ∀ (h : Hp) (x0 : Nat) (x2 : Int32) (x3 : Int32) (x4 : Int32) (x5 : Nat) (x6 : Int32) (x7 : Int32) (x8 : Int32) (x9 : Int32), sX15_trySteps_152 F f h x0 x2 x3 x4 x5 x6 x7 x8 x9 = some o → Le h o := fun h x0 x2 x3 x4 x5 x6 x7 x8 x9 hE => ih hE
    obtain ⟨r_1, er_1, hE⟩ := cl_e hE
    obtain ⟨r_2, er_2, hE⟩ := cl_e hE
    obtain ⟨g_3, hE⟩ := gd_e hE
    rcases br_e hE with ⟨_, hE⟩ | ⟨_, hE⟩
    · exact moX15_trySteps_223 hE
    · obtain ⟨r_5, er_5, hE⟩ := cl_e hE
      obtain ⟨r_6, er_6, hE⟩ := cl_e hE
      obtain ⟨g_7, hE⟩ := gd_e hE
      obtain ⟨o_8, eo_8, hE⟩ := cl_e hE
      refine (moX13_add eo_8).tr ?_
      obtain ⟨v_9, ev_9, hE⟩ := nm_e2 hE
      exact mk_152 _ _ _ _ _ _ _ _ _ _ hE
set_option maxRecDepth 20000 in
theorem moX15_trySteps_149 {o : Hp} {F : Nat} {h : Hp} {x0 : Nat} {x2 : Int32} {x3 : Int32} {x4 : Int32} {x5 : Nat} {x6 : Int32} {x7 : Int32} {x8 : Int32} (hE : sX15_trySteps_149 F h x0 x2 x3 x4 x5 x6 x7 x8 = some o) : Le h o := by
  exact moX15_trySteps_152 _ hE
set_option maxRecDepth 20000 in
theorem moX15_trySteps_106 {o : Hp} {F : Nat} {h : Hp} {x0 : Nat} {x1 : Nat} {x2 : Int32} {x3 : Int32} {x4 : Int32} {x5 : Nat} {x6 : Int32} {x7 : Int32} {t0 : Int32} (hE : sX15_trySteps_106 F h x0 x1 x2 x3 x4 x5 x6 x7 t0 = some o) : Le h o := by
  obtain ⟨o_1, eo_1, hE⟩ := cl_e hE
  refine (moX15_becomesOthers eo_1).tr ?_
  rcases br_e hE with ⟨_, hE⟩ | ⟨_, hE⟩
  · exact moX15_trySteps_207 hE
  · obtain ⟨o_3, eo_3, hE⟩ := cl_e hE
    refine (moX15_rankFor eo_3).tr ?_
    rcases br_e hE with ⟨_, hE⟩ | ⟨_, hE⟩
    · obtain ⟨r_5, er_5, hE⟩ := cl_e hE
      rcases br_e hE with ⟨_, hE⟩ | ⟨_, hE⟩
      · exact moX15_trySteps_149 hE
      · rcases br_e hE with ⟨_, hE⟩ | ⟨_, hE⟩
        · exact moX15_trySteps_149 hE
        · exact moX15_trySteps_207 hE
    · exact moX15_trySteps_207 hE
set_option maxRecDepth 20000 in
theorem moX15_trySteps_90 {o : Hp} {F : Nat} {h : Hp} {x0 : Nat} {x1 : Nat} {x2 : Int32} {x3 : Int32} {x4 : Int32} {x5 : Nat} {x6 : Int32} {t0 : Int32} (hE : sX15_trySteps_90 F h x0 x1 x2 x3 x4 x5 x6 t0 = some o) : Le h o := by
  obtain ⟨r_1, er_1, hE⟩ := cl_e hE
  obtain ⟨g_2, hE⟩ := gd_e hE
  rcases br_e hE with ⟨_, hE⟩ | ⟨_, hE⟩
  · exact moX15_trySteps_106 hE
  · exact moX15_trySteps_106 hE
set_option maxRecDepth 20000 in
theorem moX15_trySteps_89 {o : Hp} {F : Nat} {h : Hp} {x0 : Nat} {x1 : Nat} {x2 : Int32} {x3 : Int32} {x4 : Int32} {x5 : Nat} {x6 : Int32} (hE : sX15_trySteps_89 F h x0 x1 x2 x3 x4 x5 x6 = some o) : Le h o := by
  exact moX15_trySteps_90 hE
set_option maxRecDepth 20000 in
theorem moX15_trySteps_48 {o : Hp} {F : Nat} {h : Hp} {x0 : Nat} {x1 : Nat} {x2 : Int32} {x3 : Int32} {x4 : Int32} {x5 : Nat} {t0 : Int32} (hE : sX15_trySteps_48 F h x0 x1 x2 x3 x4 x5 t0 = some o) : Le h o := by
  obtain ⟨r_1, er_1, hE⟩ := cl_e hE
  obtain ⟨r_2, er_2, hE⟩ := cl_e hE
  obtain ⟨r_3, er_3, hE⟩ := cl_e hE
  obtain ⟨g_4, hE⟩ := gd_e hE
  obtain ⟨g_5, hE⟩ := gd_e hE
  rcases br_e hE with ⟨_, hE⟩ | ⟨_, hE⟩
  · exact moX15_trySteps_89 hE
  · obtain ⟨r_7, er_7, hE⟩ := cl_e hE
    obtain ⟨g_8, hE⟩ := gd_e hE
    rcases br_e hE with ⟨_, hE⟩ | ⟨_, hE⟩
    · exact moX15_trySteps_89 hE
    · obtain ⟨r_10, er_10, hE⟩ := cl_e hE
      obtain ⟨g_11, hE⟩ := gd_e hE
      exact moX15_trySteps_90 hE
set_option maxRecDepth 20000 in
theorem moX15_trySteps {o : Hp} {F : Nat} {h : Hp} {x0 : Nat} {x1 : Nat} {x2 : Int32} {x3 : Int32} {x4 : Int32} {x5 : Nat} (hE : sX15_trySteps F h x0 x1 x2 x3 x4 x5 = some o) : Le h o := by
  obtain ⟨r_1, er_1, hE⟩ := cl_e hE
  obtain ⟨g_2, hE⟩ := gd_e hE
  rcases br_e hE with ⟨_, hE⟩ | ⟨_, hE⟩
  · obtain ⟨r_4, er_4, hE⟩ := cl_e hE
    obtain ⟨g_5, hE⟩ := gd_e hE
    rcases br_e hE with ⟨_, hE⟩ | ⟨_, hE⟩
    · exact moX15_trySteps_48 hE
    · obtain ⟨r_7, er_7, hE⟩ := cl_e hE
      obtain ⟨g_8, hE⟩ := gd_e hE
      obtain ⟨o_9, eo_9, hE⟩ := cl_e hE
      refine (moX15_manOf eo_9).tr ?_
      exact moX15_trySteps_48 hE
  · obtain ⟨r_10, er_10, hE⟩ := cl_e hE
    obtain ⟨r_11, er_11, hE⟩ := cl_e hE
    obtain ⟨g_12, hE⟩ := gd_e hE
    obtain ⟨g_13, hE⟩ := gd_e hE
    obtain ⟨o_14, eo_14, hE⟩ := cl_e hE
    refine (moX15_manOf eo_14).tr ?_
    exact moX15_trySteps_48 hE
set_option maxRecDepth 20000 in
theorem bX15_trySteps_223 {p : Program} {l : Launch} {e : Env} {s : State} {m : MethodId} {args : Array Value} {below : List Frame} {meth : Method} {c : Code} {X : Ec} {h0 : Hp} {o : Hp} {F : Nat} (C : Cx X p s m args meth c RX15 cX15_trySteps 10 none "trySteps") {h : Hp} {H : Heap} {locs : List Loc} (hkm : Km h0 h) (hW : Wx X h H) (hZ : va_S (aA (eB X)) s.heap H locs) (ls : Array Slot) (hl : lv_has ls 10 []) (hE : sX15_trySteps_223 F h  = some o) : W p l e (rm 1 27) s m args below meth c H locs 0 0 (MQ below (QV X h0 o) args s 0 0 (aA (eB X))) (F0 m 223 ls []) := by
  exact x_vret C rfl hW hZ hkm hE dX15_trySteps_223
set_option maxRecDepth 20000 in
theorem bX15_trySteps_207 {p : Program} {l : Launch} {e : Env} {s : State} {m : MethodId} {args : Array Value} {below : List Frame} {meth : Method} {c : Code} {X : Ec} {h0 : Hp} {o : Hp} {F : Nat} (C : Cx X p s m args meth c RX15 cX15_trySteps 10 none "trySteps") {h : Hp} {x2 : Int32} {x3 : Int32} {x4 : Int32} {x5 : Nat} {x6 : Int32} {x7 : Int32} {x8 : Int32} {H : Heap} {locs : List Loc} (k_x5 : hK h x5 = 13) (hkm : Km h0 h) (hW : Wx X h H) (hZ : va_S (aA (eB X)) s.heap H locs) (ls : Array Slot) (hl : lv_has ls 10 [(2, .int x2), (3, .int x3), (4, .int x4), (5, .ref x5), (6, .int x6), (7, .int x7), (8, .int x8)]) (hE : sX15_trySteps_207 F h x2 x3 x4 x5 x6 x7 x8 = some o) : W p l e (rm 1 27) s m args below meth c H locs 0 0 (MQ below (QV X h0 o) args s 0 0 (aA (eB X))) (F0 m 207 ls []) := by
  refine lv_aload C.1 C.2.1 dX15_trySteps_207 (lv_at hl 3 rfl) ?_
  refine lv_iload_n C.1 C.2.1 dX15_trySteps_209 rfl (lv_at hl 0 rfl) ?_
  refine lv_iload_n C.1 C.2.1 dX15_trySteps_210 rfl (lv_at hl 1 rfl) ?_
  refine lv_iload C.1 C.2.1 dX15_trySteps_211 (lv_at hl 2 rfl) ?_
  refine lv_iconst (v := (-1 : Int32)) C.1 C.2.1 dX15_trySteps_213 (by decide) ?_
  refine lv_iload C.1 C.2.1 dX15_trySteps_214 (lv_at hl 4 rfl) ?_
  refine lv_iload C.1 C.2.1 dX15_trySteps_216 (lv_at hl 6 rfl) ?_
  refine lv_iload C.1 C.2.1 dX15_trySteps_218 (lv_at hl 5 rfl) ?_
  obtain ⟨o_1, eo_1, hE⟩ := cl_e hE
  refine x_kV (o := o_1) (z_runV (As := [.int x2, .int x3, .int x4, .int (-1 : Int32), .int x6, .int x8, .int x7]) (rest := []) C (ct_X13_add l X k_x5 eo_1) cw_X15_590 hW hZ k_x5 (by decide) rfl rfl rfl hl.1 (Nat.le_of_ble_eq_true rfl) rfl dX15_trySteps_220 ⟨Nat.le_of_ble_eq_true rfl, Nat.le_of_ble_eq_true rfl⟩ ⟨Nat.le_refl _, Nat.le_refl _⟩) hZ (fun _ _ hW km hZ => ?_)
  replace hkm := hkm.tr km
  replace k_x5 := km.at k_x5 (by decide)
  exact bX15_trySteps_223 C hkm hW hZ _ (lv_sub hl [] rfl) hE
set_option maxRecDepth 20000 in
theorem bX15_trySteps_152 {p : Program} {l : Launch} {e : Env} {s : State} {m : MethodId} {args : Array Value} {below : List Frame} {meth : Method} {c : Code} {X : Ec} {h0 : Hp} {o : Hp} {F : Nat} (C : Cx X p s m args meth c RX15 cX15_trySteps 10 none "trySteps") : ∀ (f : Nat) {h : Hp} {x0 : Nat} {x2 : Int32} {x3 : Int32} {x4 : Int32} {x5 : Nat} {x6 : Int32} {x7 : Int32} {x8 : Int32} {x9 : Int32} {H : Heap} {locs : List Loc} (k_x0 : hK h x0 = 15) (k_x5 : hK h x5 = 13), Km h0 h → Wx X h H → va_S (aA (eB X)) s.heap H locs → ∀ (ls : Array Slot), lv_has ls 10 [(0, .ref x0), (2, .int x2), (3, .int x3), (4, .int x4), (5, .ref x5), (6, .int x6), (7, .int x7), (8, .int x8), (9, .int x9)] → sX15_trySteps_152 F f h x0 x2 x3 x4 x5 x6 x7 x8 x9 = some o → W p l e (rm 1 27) s m args below meth c H locs 0 0 (MQ below (QV X h0 o) args s 0 0 (aA (eB X))) (F0 m 152 ls []) := by
  intro f
  induction f with
  | zero =>
    intro h x0 x2 x3 x4 x5 x6 x7 x8 x9 H locs k_x0 k_x5 hkm hW hZ ls hl hE
    rw [sX15_trySteps_152] at hE
    cases hE
  | succ f ih =>
    intro h x0 x2 x3 x4 x5 x6 x7 x8 x9 H locs k_x0 k_x5 hkm hW hZ ls hl hE
    rw [sX15_trySteps_152] at hE
    have hk_152 : ∀ (h : Hp) (x0 : Nat) (x2 : Int32) (x3 : Int32) (x4 : Int32) (x5 : Nat) (x6 : Int32) (x7 : Int32) (x8 : Int32) (x9 : Int32) (H : Heap) (locs : List Loc), hK h x0 = 15 → hK h x5 = 13 → Km h0 h → Wx X h H → va_S (aA (eB X)) s.heap H locs → ∀ (ls : Array Slot), lv_has ls 10 [(0, .ref x0), (2, .int x2), (3, .int x3), (4, .int x4), (5, .ref x5), (6, .int x6), (7, .int x7), (8, .int x8), (9, .int x9)] → sX15_trySteps_152 F f h x0 x2 x3 x4 x5 x6 x7 x8 x9 = some o → W p l e (rm 1 27) s m args below meth c H locs 0 0 (MQ below (QV X h0 o) args s 0 0 (aA (eB X))) (F0 m 152 ls []) := fun h x0 x2 x3 x4 x5 x6 x7 x8 x9 H locs k_x0 k_x5 a b c ls hl hE => ih k_x0 k_x5 a b c ls hl hE
    refine lv_iload C.1 C.2.1 dX15_trySteps_152 (lv_at hl 8 rfl) ?_
    refine lv_aload_n C.1 C.2.1 dX15_trySteps_154 rfl (lv_at hl 0 rfl) ?_
    obtain ⟨r_1, er_1, hE⟩ := cl_e hE
    refine gf_X15_252 C hW k_x0 er_1 dX15_trySteps_155 (fun k_r_1 => ?_)
    obtain ⟨r_2, er_2, hE⟩ := cl_e hE
    refine gf_X15_215 C hW k_r_1 er_2 dX15_trySteps_158 (fun k_r_2 => ?_)
    refine lv_iload C.1 C.2.1 dX15_trySteps_161 (lv_at hl 3 rfl) ?_
    obtain ⟨g_3, hE⟩ := gd_e hE
    refine y_iald C hW k_r_2 g_3 dX15_trySteps_163 ?_
    refine lv_icmp_ge (tgt := 204) C.1 C.2.1 dX15_trySteps_164 (by decide) (fun c_4 => ?_) (fun c_4 => ?_)
    · have hE := br_p hE c_4
      refine lv_goto (tgt := 223) C.1 C.2.1 dX15_trySteps_204 (by decide) ?_
      exact bX15_trySteps_223 C hkm hW hZ _ (lv_sub hl [] rfl) hE
    · have hE := br_n hE c_4
      refine lv_aload C.1 C.2.1 dX15_trySteps_167 (lv_at hl 4 rfl) ?_
      refine lv_iload_n C.1 C.2.1 dX15_trySteps_169 rfl (lv_at hl 1 rfl) ?_
      refine lv_iload_n C.1 C.2.1 dX15_trySteps_170 rfl (lv_at hl 2 rfl) ?_
      refine lv_iload C.1 C.2.1 dX15_trySteps_171 (lv_at hl 3 rfl) ?_
      refine lv_aload_n C.1 C.2.1 dX15_trySteps_173 rfl (lv_at hl 0 rfl) ?_
      obtain ⟨r_5, er_5, hE⟩ := cl_e hE
      refine gf_X15_252 C hW k_x0 er_5 dX15_trySteps_174 (fun k_r_5 => ?_)
      obtain ⟨r_6, er_6, hE⟩ := cl_e hE
      refine gf_X15_223 C hW k_r_5 er_6 dX15_trySteps_177 (fun k_r_6 => ?_)
      refine lv_bipush (v := (6 : Int32)) C.1 C.2.1 dX15_trySteps_180 (by decide) ?_
      refine lv_iload C.1 C.2.1 dX15_trySteps_182 (lv_at hl 3 rfl) ?_
      refine lv_imul C.1 C.2.1 dX15_trySteps_184 ?_
      refine lv_iload C.1 C.2.1 dX15_trySteps_185 (lv_at hl 8 rfl) ?_
      refine lv_iadd C.1 C.2.1 dX15_trySteps_187 ?_
      obtain ⟨g_7, hE⟩ := gd_e hE
      refine y_iald C hW k_r_6 g_7 dX15_trySteps_188 ?_
      refine lv_iload C.1 C.2.1 dX15_trySteps_189 (lv_at hl 5 rfl) ?_
      refine lv_iload C.1 C.2.1 dX15_trySteps_191 (lv_at hl 7 rfl) ?_
      refine lv_iload C.1 C.2.1 dX15_trySteps_193 (lv_at hl 6 rfl) ?_
      obtain ⟨o_8, eo_8, hE⟩ := cl_e hE
      refine x_kV (o := o_8) (z_runV (As := [.int x2, .int x3, .int x4, .int (hI h r_6 (((6 : Int32) * x4) + x9).toNatClampNeg), .int x6, .int x8, .int x7]) (rest := []) C (ct_X13_add l X k_x5 eo_8) cw_X15_590 hW hZ k_x5 (by decide) rfl rfl rfl hl.1 (Nat.le_of_ble_eq_true rfl) rfl dX15_trySteps_195 ⟨Nat.le_of_ble_eq_true rfl, Nat.le_of_ble_eq_true rfl⟩ ⟨Nat.le_refl _, Nat.le_refl _⟩) hZ (fun _ _ hW km hZ => ?_)
      replace hkm := hkm.tr km
      replace k_x0 := km.at k_x0 (by decide)
      replace k_x5 := km.at k_x5 (by decide)
      obtain ⟨v_9, ev_9, hE⟩ := nm_e2 hE
      refine lv_iinc (v := v_9) (lv' := [(9, .int v_9), (0, .ref x0), (2, .int x2), (3, .int x3), (4, .int x4), (5, .ref x5), (6, .int x6), (7, .int x7), (8, .int x8)]) C.1 C.2.1 dX15_trySteps_198 hl (k := 8) rfl (by rw [ev_9]; rfl) (by decide) rfl (fun ls hl => ?_)
      refine lv_goto (tgt := 152) C.1 C.2.1 dX15_trySteps_201 (by decide) ?_
      exact hk_152 _ _ _ _ _ _ _ _ _ _ _ _ k_x0 k_x5 hkm hW hZ _ (lv_sub hl [1, 2, 3, 4, 5, 6, 7, 8, 0] rfl) hE
set_option maxRecDepth 20000 in
theorem bX15_trySteps_149 {p : Program} {l : Launch} {e : Env} {s : State} {m : MethodId} {args : Array Value} {below : List Frame} {meth : Method} {c : Code} {X : Ec} {h0 : Hp} {o : Hp} {F : Nat} (C : Cx X p s m args meth c RX15 cX15_trySteps 10 none "trySteps") {h : Hp} {x0 : Nat} {x2 : Int32} {x3 : Int32} {x4 : Int32} {x5 : Nat} {x6 : Int32} {x7 : Int32} {x8 : Int32} {H : Heap} {locs : List Loc} (k_x0 : hK h x0 = 15) (k_x5 : hK h x5 = 13) (hkm : Km h0 h) (hW : Wx X h H) (hZ : va_S (aA (eB X)) s.heap H locs) (ls : Array Slot) (hl : lv_has ls 10 [(0, .ref x0), (2, .int x2), (3, .int x3), (4, .int x4), (5, .ref x5), (6, .int x6), (7, .int x7), (8, .int x8)]) (hE : sX15_trySteps_149 F h x0 x2 x3 x4 x5 x6 x7 x8 = some o) : W p l e (rm 1 27) s m args below meth c H locs 0 0 (MQ below (QV X h0 o) args s 0 0 (aA (eB X))) (F0 m 149 ls []) := by
  refine lv_iconst (v := (0 : Int32)) C.1 C.2.1 dX15_trySteps_149 (by decide) ?_
  refine lv_istore (lv' := [(9, .int (0 : Int32)), (0, .ref x0), (2, .int x2), (3, .int x3), (4, .int x4), (5, .ref x5), (6, .int x6), (7, .int x7), (8, .int x8)]) C.1 C.2.1 dX15_trySteps_150 hl (by decide) rfl (fun ls hl => ?_)
  exact bX15_trySteps_152 C F k_x0 k_x5 hkm hW hZ _ (lv_sub hl [1, 2, 3, 4, 5, 6, 7, 8, 0] rfl) hE
set_option maxRecDepth 20000 in
theorem bX15_trySteps_106 {p : Program} {l : Launch} {e : Env} {s : State} {m : MethodId} {args : Array Value} {below : List Frame} {meth : Method} {c : Code} {X : Ec} {h0 : Hp} {o : Hp} {F : Nat} (C : Cx X p s m args meth c RX15 cX15_trySteps 10 none "trySteps") {h : Hp} {x0 : Nat} {x1 : Nat} {x2 : Int32} {x3 : Int32} {x4 : Int32} {x5 : Nat} {x6 : Int32} {x7 : Int32} {t0 : Int32} {H : Heap} {locs : List Loc} (k_x0 : hK h x0 = 15) (k_x1 : hK h x1 = 12) (k_x5 : hK h x5 = 13) (hkm : Km h0 h) (hW : Wx X h H) (hZ : va_S (aA (eB X)) s.heap H locs) (ls : Array Slot) (hl : lv_has ls 10 [(0, .ref x0), (1, .ref x1), (2, .int x2), (3, .int x3), (4, .int x4), (5, .ref x5), (6, .int x6), (7, .int x7)]) (hE : sX15_trySteps_106 F h x0 x1 x2 x3 x4 x5 x6 x7 t0 = some o) : W p l e (rm 1 27) s m args below meth c H locs 0 0 (MQ below (QV X h0 o) args s 0 0 (aA (eB X))) (F0 m 106 ls [.int t0]) := by
  refine lv_istore (lv' := [(8, .int t0), (0, .ref x0), (1, .ref x1), (2, .int x2), (3, .int x3), (4, .int x4), (5, .ref x5), (6, .int x6), (7, .int x7)]) C.1 C.2.1 dX15_trySteps_106 hl (by decide) rfl (fun ls hl => ?_)
  refine lv_aload_n C.1 C.2.1 dX15_trySteps_108 rfl (lv_at hl 1 rfl) ?_
  refine lv_iload C.1 C.2.1 dX15_trySteps_109 (lv_at hl 5 rfl) ?_
  obtain ⟨o_1, eo_1, hE⟩ := cl_e hE
  refine x_kI (o := o_1) (z_runV (As := [.int x4]) (rest := []) C (ct_X15_becomesOthers l X k_x0 eo_1) cw_X15_495 hW hZ k_x0 (by decide) rfl rfl rfl hl.1 (Nat.le_of_ble_eq_true rfl) rfl dX15_trySteps_111 ⟨Nat.le_of_ble_eq_true rfl, Nat.le_of_ble_eq_true rfl⟩ ⟨Nat.le_refl _, Nat.le_refl _⟩) hZ (fun _ _ hW km hZ => ?_)
  replace hkm := hkm.tr km
  replace k_x0 := km.at k_x0 (by decide)
  replace k_x1 := km.at k_x1 (by decide)
  replace k_x5 := km.at k_x5 (by decide)
  refine lv_if_eq (tgt := 207) C.1 C.2.1 dX15_trySteps_114 (by decide) (fun c_2 => ?_) (fun c_2 => ?_)
  · have hE := br_p hE c_2
    exact bX15_trySteps_207 C k_x5 hkm hW hZ _ (lv_sub hl [3, 4, 5, 6, 7, 8, 0] rfl) hE
  · have hE := br_n hE c_2
    refine lv_aload_n C.1 C.2.1 dX15_trySteps_117 rfl (lv_at hl 1 rfl) ?_
    refine lv_iload_n C.1 C.2.1 dX15_trySteps_118 rfl (lv_at hl 4 rfl) ?_
    refine lv_aload_n C.1 C.2.1 dX15_trySteps_119 rfl (lv_at hl 2 rfl) ?_
    refine gf_X15_452 C hW k_x1 dX15_trySteps_120 ?_
    obtain ⟨o_3, eo_3, hE⟩ := cl_e hE
    refine x_kI (o := o_3) (z_runV (As := [.int x3, .int (hI o_1.2 x1 1)]) (rest := []) C (ct_X15_rankFor l X k_x0 eo_3) cw_X15_498 hW hZ k_x0 (by decide) rfl rfl rfl hl.1 (Nat.le_of_ble_eq_true rfl) rfl dX15_trySteps_123 ⟨Nat.le_of_ble_eq_true rfl, Nat.le_of_ble_eq_true rfl⟩ ⟨Nat.le_refl _, Nat.le_refl _⟩) hZ (fun _ _ hW km hZ => ?_)
    replace hkm := hkm.tr km
    replace k_x0 := km.at k_x0 (by decide)
    replace k_x1 := km.at k_x1 (by decide)
    replace k_x5 := km.at k_x5 (by decide)
    refine lv_aload_n C.1 C.2.1 dX15_trySteps_126 rfl (lv_at hl 1 rfl) ?_
    refine gf_X15_383 C hW k_x0 dX15_trySteps_127 ?_
    refine lv_icmp_ne (tgt := 207) C.1 C.2.1 dX15_trySteps_130 (by decide) (fun c_4 => ?_) (fun c_4 => ?_)
    · have hE := br_n hE c_4
      exact bX15_trySteps_207 C k_x5 hkm hW hZ _ (lv_sub hl [3, 4, 5, 6, 7, 8, 0] rfl) hE
    · have hE := br_p hE c_4
      refine lv_aload_n C.1 C.2.1 dX15_trySteps_133 rfl (lv_at hl 1 rfl) ?_
      obtain ⟨r_5, er_5, hE⟩ := cl_e hE
      refine gf_X15_252 C hW k_x0 er_5 dX15_trySteps_134 (fun k_r_5 => ?_)
      refine gf_X15_142 C hW k_r_5 dX15_trySteps_137 ?_
      refine lv_if_eq (tgt := 149) C.1 C.2.1 dX15_trySteps_140 (by decide) (fun c_6 => ?_) (fun c_6 => ?_)
      · have hE := br_p hE c_6
        exact bX15_trySteps_149 C k_x0 k_x5 hkm hW hZ _ (lv_sub hl [1, 3, 4, 5, 6, 7, 8, 0] rfl) hE
      · have hE := br_n hE c_6
        refine lv_iload C.1 C.2.1 dX15_trySteps_143 (lv_at hl 7 rfl) ?_
        refine lv_iconst (v := (-1 : Int32)) C.1 C.2.1 dX15_trySteps_145 (by decide) ?_
        refine lv_icmp_ne (tgt := 207) C.1 C.2.1 dX15_trySteps_146 (by decide) (fun c_7 => ?_) (fun c_7 => ?_)
        · have hE := br_n hE c_7
          exact bX15_trySteps_207 C k_x5 hkm hW hZ _ (lv_sub hl [3, 4, 5, 6, 7, 8, 0] rfl) hE
        · have hE := br_p hE c_7
          exact bX15_trySteps_149 C k_x0 k_x5 hkm hW hZ _ (lv_sub hl [1, 3, 4, 5, 6, 7, 8, 0] rfl) hE
set_option maxRecDepth 20000 in
theorem bX15_trySteps_90 {p : Program} {l : Launch} {e : Env} {s : State} {m : MethodId} {args : Array Value} {below : List Frame} {meth : Method} {c : Code} {X : Ec} {h0 : Hp} {o : Hp} {F : Nat} (C : Cx X p s m args meth c RX15 cX15_trySteps 10 none "trySteps") {h : Hp} {x0 : Nat} {x1 : Nat} {x2 : Int32} {x3 : Int32} {x4 : Int32} {x5 : Nat} {x6 : Int32} {t0 : Int32} {H : Heap} {locs : List Loc} (k_x0 : hK h x0 = 15) (k_x1 : hK h x1 = 12) (k_x5 : hK h x5 = 13) (hkm : Km h0 h) (hW : Wx X h H) (hZ : va_S (aA (eB X)) s.heap H locs) (ls : Array Slot) (hl : lv_has ls 10 [(0, .ref x0), (1, .ref x1), (2, .int x2), (3, .int x3), (4, .int x4), (5, .ref x5), (6, .int x6)]) (hE : sX15_trySteps_90 F h x0 x1 x2 x3 x4 x5 x6 t0 = some o) : W p l e (rm 1 27) s m args below meth c H locs 0 0 (MQ below (QV X h0 o) args s 0 0 (aA (eB X))) (F0 m 90 ls [.int t0]) := by
  refine lv_istore (lv' := [(7, .int t0), (0, .ref x0), (1, .ref x1), (2, .int x2), (3, .int x3), (4, .int x4), (5, .ref x5), (6, .int x6)]) C.1 C.2.1 dX15_trySteps_90 hl (by decide) rfl (fun ls hl => ?_)
  refine lv_aload_n C.1 C.2.1 dX15_trySteps_92 rfl (lv_at hl 1 rfl) ?_
  obtain ⟨r_1, er_1, hE⟩ := cl_e hE
  refine gf_X15_278 C hW k_x0 er_1 dX15_trySteps_93 (fun k_r_1 => ?_)
  refine lv_iload_n C.1 C.2.1 dX15_trySteps_96 rfl (lv_at hl 4 rfl) ?_
  obtain ⟨g_2, hE⟩ := gd_e hE
  refine y_zald C hW k_r_1 g_2 dX15_trySteps_97 ?_
  refine lv_if_eq (tgt := 105) C.1 C.2.1 dX15_trySteps_98 (by decide) (fun c_3 => ?_) (fun c_3 => ?_)
  · have hE := br_p hE c_3
    refine lv_iconst (v := (0 : Int32)) C.1 C.2.1 dX15_trySteps_105 (by decide) ?_
    exact bX15_trySteps_106 C k_x0 k_x1 k_x5 hkm hW hZ _ (lv_sub hl [1, 2, 3, 4, 5, 6, 7, 0] rfl) hE
  · have hE := br_n hE c_3
    refine lv_iconst (v := (1 : Int32)) C.1 C.2.1 dX15_trySteps_101 (by decide) ?_
    refine lv_goto (tgt := 106) C.1 C.2.1 dX15_trySteps_102 (by decide) ?_
    exact bX15_trySteps_106 C k_x0 k_x1 k_x5 hkm hW hZ _ (lv_sub hl [1, 2, 3, 4, 5, 6, 7, 0] rfl) hE
set_option maxRecDepth 20000 in
theorem bX15_trySteps_89 {p : Program} {l : Launch} {e : Env} {s : State} {m : MethodId} {args : Array Value} {below : List Frame} {meth : Method} {c : Code} {X : Ec} {h0 : Hp} {o : Hp} {F : Nat} (C : Cx X p s m args meth c RX15 cX15_trySteps 10 none "trySteps") {h : Hp} {x0 : Nat} {x1 : Nat} {x2 : Int32} {x3 : Int32} {x4 : Int32} {x5 : Nat} {x6 : Int32} {H : Heap} {locs : List Loc} (k_x0 : hK h x0 = 15) (k_x1 : hK h x1 = 12) (k_x5 : hK h x5 = 13) (hkm : Km h0 h) (hW : Wx X h H) (hZ : va_S (aA (eB X)) s.heap H locs) (ls : Array Slot) (hl : lv_has ls 10 [(0, .ref x0), (1, .ref x1), (2, .int x2), (3, .int x3), (4, .int x4), (5, .ref x5), (6, .int x6)]) (hE : sX15_trySteps_89 F h x0 x1 x2 x3 x4 x5 x6 = some o) : W p l e (rm 1 27) s m args below meth c H locs 0 0 (MQ below (QV X h0 o) args s 0 0 (aA (eB X))) (F0 m 89 ls []) := by
  refine lv_iconst (v := (0 : Int32)) C.1 C.2.1 dX15_trySteps_89 (by decide) ?_
  exact bX15_trySteps_90 C k_x0 k_x1 k_x5 hkm hW hZ _ (lv_sub hl [0, 1, 2, 3, 4, 5, 6] rfl) hE
set_option maxRecDepth 20000 in
theorem bX15_trySteps_48 {p : Program} {l : Launch} {e : Env} {s : State} {m : MethodId} {args : Array Value} {below : List Frame} {meth : Method} {c : Code} {X : Ec} {h0 : Hp} {o : Hp} {F : Nat} (C : Cx X p s m args meth c RX15 cX15_trySteps 10 none "trySteps") {h : Hp} {x0 : Nat} {x1 : Nat} {x2 : Int32} {x3 : Int32} {x4 : Int32} {x5 : Nat} {t0 : Int32} {H : Heap} {locs : List Loc} (k_x0 : hK h x0 = 15) (k_x1 : hK h x1 = 12) (k_x5 : hK h x5 = 13) (hkm : Km h0 h) (hW : Wx X h H) (hZ : va_S (aA (eB X)) s.heap H locs) (ls : Array Slot) (hl : lv_has ls 10 [(0, .ref x0), (1, .ref x1), (2, .int x2), (3, .int x3), (4, .int x4), (5, .ref x5)]) (hE : sX15_trySteps_48 F h x0 x1 x2 x3 x4 x5 t0 = some o) : W p l e (rm 1 27) s m args below meth c H locs 0 0 (MQ below (QV X h0 o) args s 0 0 (aA (eB X))) (F0 m 48 ls [.int t0]) := by
  refine lv_istore (lv' := [(6, .int t0), (0, .ref x0), (1, .ref x1), (2, .int x2), (3, .int x3), (4, .int x4), (5, .ref x5)]) C.1 C.2.1 dX15_trySteps_48 hl (by decide) rfl (fun ls hl => ?_)
  refine lv_aload_n C.1 C.2.1 dX15_trySteps_50 rfl (lv_at hl 1 rfl) ?_
  obtain ⟨r_1, er_1, hE⟩ := cl_e hE
  refine gf_X15_252 C hW k_x0 er_1 dX15_trySteps_51 (fun k_r_1 => ?_)
  obtain ⟨r_2, er_2, hE⟩ := cl_e hE
  refine gf_X15_198 C hW k_r_1 er_2 dX15_trySteps_54 (fun k_r_2 => ?_)
  refine lv_aload_n C.1 C.2.1 dX15_trySteps_57 rfl (lv_at hl 1 rfl) ?_
  obtain ⟨r_3, er_3, hE⟩ := cl_e hE
  refine gf_X15_272 C hW k_x0 er_3 dX15_trySteps_58 (fun k_r_3 => ?_)
  refine lv_iload_n C.1 C.2.1 dX15_trySteps_61 rfl (lv_at hl 4 rfl) ?_
  obtain ⟨g_4, hE⟩ := gd_e hE
  refine y_iald C hW k_r_3 g_4 dX15_trySteps_62 ?_
  obtain ⟨g_5, hE⟩ := gd_e hE
  refine y_iald C hW k_r_2 g_5 dX15_trySteps_63 ?_
  refine lv_bipush (v := (16 : Int32)) C.1 C.2.1 dX15_trySteps_64 (by decide) ?_
  refine lv_iand C.1 C.2.1 dX15_trySteps_66 ?_
  refine lv_if_eq (tgt := 89) C.1 C.2.1 dX15_trySteps_67 (by decide) (fun c_6 => ?_) (fun c_6 => ?_)
  · have hE := br_p hE c_6
    exact bX15_trySteps_89 C k_x0 k_x1 k_x5 hkm hW hZ _ (lv_sub hl [1, 2, 3, 4, 5, 6, 0] rfl) hE
  · have hE := br_n hE c_6
    refine lv_aload_n C.1 C.2.1 dX15_trySteps_70 rfl (lv_at hl 1 rfl) ?_
    obtain ⟨r_7, er_7, hE⟩ := cl_e hE
    refine gf_X15_275 C hW k_x0 er_7 dX15_trySteps_71 (fun k_r_7 => ?_)
    refine lv_iload_n C.1 C.2.1 dX15_trySteps_74 rfl (lv_at hl 4 rfl) ?_
    obtain ⟨g_8, hE⟩ := gd_e hE
    refine y_iald C hW k_r_7 g_8 dX15_trySteps_75 ?_
    refine lv_iconst (v := (1 : Int32)) C.1 C.2.1 dX15_trySteps_76 (by decide) ?_
    refine lv_icmp_le (tgt := 89) C.1 C.2.1 dX15_trySteps_77 (by decide) (fun c_9 => ?_) (fun c_9 => ?_)
    · have hE := br_p hE c_9
      exact bX15_trySteps_89 C k_x0 k_x1 k_x5 hkm hW hZ _ (lv_sub hl [1, 2, 3, 4, 5, 6, 0] rfl) hE
    · have hE := br_n hE c_9
      refine lv_aload_n C.1 C.2.1 dX15_trySteps_80 rfl (lv_at hl 1 rfl) ?_
      obtain ⟨r_10, er_10, hE⟩ := cl_e hE
      refine gf_X15_275 C hW k_x0 er_10 dX15_trySteps_81 (fun k_r_10 => ?_)
      refine lv_iload_n C.1 C.2.1 dX15_trySteps_84 rfl (lv_at hl 4 rfl) ?_
      obtain ⟨g_11, hE⟩ := gd_e hE
      refine y_iald C hW k_r_10 g_11 dX15_trySteps_85 ?_
      refine lv_goto (tgt := 90) C.1 C.2.1 dX15_trySteps_86 (by decide) ?_
      exact bX15_trySteps_90 C k_x0 k_x1 k_x5 hkm hW hZ _ (lv_sub hl [1, 2, 3, 4, 5, 6, 0] rfl) hE
set_option maxRecDepth 20000 in
theorem ct_X15_trySteps (l : Launch) (X : Ec) (F : Nat) {h : Hp} {x0 : Nat} {x1 : Nat} {x2 : Int32} {x3 : Int32} {x4 : Int32} {x5 : Nat} {o : Hp} (k_x0 : hK h x0 = 15) (k_x1 : hK h x1 = 12) (k_x5 : hK h x5 = 13) (hE : sX15_trySteps F h x0 x1 x2 x3 x4 x5 = some o) : MetV l yX15_trySteps cX15_trySteps 10 none 1 27 X [.ref x0, .ref x1, .int x2, .int x3, .int x4, .ref x5] h o := by
  refine x_met (by decide) (Nat.le_of_ble_eq_true rfl) ?_
  intro p e s m below meth c ls C hl hW hZ
  have hl : lv_has ls 10 [(0, .ref x0), (1, .ref x1), (2, .int x2), (3, .int x3), (4, .int x4), (5, .ref x5)] := hl
  have hkm : Km h h := Km.rf h
  refine lv_aload_n C.1 C.2.1 dX15_trySteps_0 rfl (lv_at hl 0 rfl) ?_
  obtain ⟨r_1, er_1, hE⟩ := cl_e hE
  refine gf_X15_278 C hW k_x0 er_1 dX15_trySteps_1 (fun k_r_1 => ?_)
  refine lv_iload_n C.1 C.2.1 dX15_trySteps_4 rfl (lv_at hl 3 rfl) ?_
  obtain ⟨g_2, hE⟩ := gd_e hE
  refine y_zald C hW k_r_1 g_2 dX15_trySteps_5 ?_
  refine lv_if_eq (tgt := 26) C.1 C.2.1 dX15_trySteps_6 (by decide) (fun c_3 => ?_) (fun c_3 => ?_)
  · have hE := br_p hE c_3
    refine lv_aload_n C.1 C.2.1 dX15_trySteps_26 rfl (lv_at hl 1 rfl) ?_
    obtain ⟨r_4, er_4, hE⟩ := cl_e hE
    refine gf_X15_396 C hW k_x1 er_4 dX15_trySteps_27 (fun k_r_4 => ?_)
    refine lv_iload_n C.1 C.2.1 dX15_trySteps_30 rfl (lv_at hl 3 rfl) ?_
    obtain ⟨g_5, hE⟩ := gd_e hE
    refine y_iald C hW k_r_4 g_5 dX15_trySteps_31 ?_
    refine lv_if_le (tgt := 47) C.1 C.2.1 dX15_trySteps_32 (by decide) (fun c_6 => ?_) (fun c_6 => ?_)
    · have hE := br_p hE c_6
      refine lv_iconst (v := (-1 : Int32)) C.1 C.2.1 dX15_trySteps_47 (by decide) ?_
      exact bX15_trySteps_48 C k_x0 k_x1 k_x5 hkm hW hZ _ (lv_sub hl [0, 1, 2, 3, 4, 5] rfl) hE
    · have hE := br_n hE c_6
      refine lv_aload_n C.1 C.2.1 dX15_trySteps_35 rfl (lv_at hl 1 rfl) ?_
      obtain ⟨r_7, er_7, hE⟩ := cl_e hE
      refine gf_X15_396 C hW k_x1 er_7 dX15_trySteps_36 (fun k_r_7 => ?_)
      refine lv_iload_n C.1 C.2.1 dX15_trySteps_39 rfl (lv_at hl 3 rfl) ?_
      obtain ⟨g_8, hE⟩ := gd_e hE
      refine y_iald C hW k_r_7 g_8 dX15_trySteps_40 ?_
      obtain ⟨o_9, eo_9, hE⟩ := cl_e hE
      refine x_kI (o := o_9) (z_runS (As := [.int (hI h r_7 x3.toNatClampNeg)]) (rest := []) C (ct_X15_manOf l X eo_9) cw_X15_492 hW hZ rfl hl.1 (Nat.le_of_ble_eq_true rfl) rfl dX15_trySteps_41 ⟨Nat.le_of_ble_eq_true rfl, Nat.le_of_ble_eq_true rfl⟩ ⟨Nat.le_refl _, Nat.le_refl _⟩) hZ (fun _ _ hW km hZ => ?_)
      replace hkm := hkm.tr km
      replace k_x0 := km.at k_x0 (by decide)
      replace k_x1 := km.at k_x1 (by decide)
      replace k_x5 := km.at k_x5 (by decide)
      refine lv_goto (tgt := 48) C.1 C.2.1 dX15_trySteps_44 (by decide) ?_
      exact bX15_trySteps_48 C k_x0 k_x1 k_x5 hkm hW hZ _ (lv_sub hl [0, 1, 2, 3, 4, 5] rfl) hE
  · have hE := br_n hE c_3
    refine lv_aload_n C.1 C.2.1 dX15_trySteps_9 rfl (lv_at hl 1 rfl) ?_
    obtain ⟨r_10, er_10, hE⟩ := cl_e hE
    refine gf_X15_396 C hW k_x1 er_10 dX15_trySteps_10 (fun k_r_10 => ?_)
    refine lv_aload_n C.1 C.2.1 dX15_trySteps_13 rfl (lv_at hl 1 rfl) ?_
    obtain ⟨r_11, er_11, hE⟩ := cl_e hE
    refine gf_X15_439 C hW k_x1 er_11 dX15_trySteps_14 (fun k_r_11 => ?_)
    refine lv_iconst (v := (0 : Int32)) C.1 C.2.1 dX15_trySteps_17 (by decide) ?_
    obtain ⟨g_12, hE⟩ := gd_e hE
    refine y_iald C hW k_r_11 g_12 dX15_trySteps_18 ?_
    obtain ⟨g_13, hE⟩ := gd_e hE
    refine y_iald C hW k_r_10 g_13 dX15_trySteps_19 ?_
    obtain ⟨o_14, eo_14, hE⟩ := cl_e hE
    refine x_kI (o := o_14) (z_runS (As := [.int (hI h r_10 (hI h r_11 (0 : Int32).toNatClampNeg).toNatClampNeg)]) (rest := []) C (ct_X15_manOf l X eo_14) cw_X15_492 hW hZ rfl hl.1 (Nat.le_of_ble_eq_true rfl) rfl dX15_trySteps_20 ⟨Nat.le_of_ble_eq_true rfl, Nat.le_of_ble_eq_true rfl⟩ ⟨Nat.le_refl _, Nat.le_refl _⟩) hZ (fun _ _ hW km hZ => ?_)
    replace hkm := hkm.tr km
    replace k_x0 := km.at k_x0 (by decide)
    replace k_x1 := km.at k_x1 (by decide)
    replace k_x5 := km.at k_x5 (by decide)
    refine lv_goto (tgt := 48) C.1 C.2.1 dX15_trySteps_23 (by decide) ?_
    exact bX15_trySteps_48 C k_x0 k_x1 k_x5 hkm hW hZ _ (lv_sub hl [0, 1, 2, 3, 4, 5] rfl) hE
