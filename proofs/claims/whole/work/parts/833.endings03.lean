theorem dX0_weightOf_0 : decode cX0_weightOf 0 = .ok (.iconst 0, 1) := by decide +kernel
theorem dX0_weightOf_1 : decode cX0_weightOf 1 = .ok (.istore_n 2, 1) := by decide +kernel
theorem dX0_weightOf_2 : decode cX0_weightOf 2 = .ok (.iconst 0, 1) := by decide +kernel
theorem dX0_weightOf_3 : decode cX0_weightOf 3 = .ok (.istore_n 3, 1) := by decide +kernel
theorem dX0_weightOf_4 : decode cX0_weightOf 4 = .ok (.iload_n 3, 1) := by decide +kernel
theorem dX0_weightOf_5 : decode cX0_weightOf 5 = .ok (.aload_n 0, 1) := by decide +kernel
theorem dX0_weightOf_6 : decode cX0_weightOf 6 = .ok (.getfield 265, 3) := by decide +kernel
theorem dX0_weightOf_9 : decode cX0_weightOf 9 = .ok (.if_icmp .ge 45, 3) := by decide +kernel
theorem dX0_weightOf_12 : decode cX0_weightOf 12 = .ok (.aload_n 0, 1) := by decide +kernel
theorem dX0_weightOf_13 : decode cX0_weightOf 13 = .ok (.getfield 28, 3) := by decide +kernel
theorem dX0_weightOf_16 : decode cX0_weightOf 16 = .ok (.iload_n 3, 1) := by decide +kernel
theorem dX0_weightOf_17 : decode cX0_weightOf 17 = .ok (.iaload, 1) := by decide +kernel
theorem dX0_weightOf_18 : decode cX0_weightOf 18 = .ok (.bipush 6, 2) := by decide +kernel
theorem dX0_weightOf_20 : decode cX0_weightOf 20 = .ok (.ishr, 1) := by decide +kernel
theorem dX0_weightOf_21 : decode cX0_weightOf 21 = .ok (.iload_n 1, 1) := by decide +kernel
theorem dX0_weightOf_22 : decode cX0_weightOf 22 = .ok (.if_icmp .ne 5, 3) := by decide +kernel
theorem dX0_weightOf_25 : decode cX0_weightOf 25 = .ok (.iconst 0, 1) := by decide +kernel
theorem dX0_weightOf_26 : decode cX0_weightOf 26 = .ok (.ireturn, 1) := by decide +kernel
theorem dX0_weightOf_27 : decode cX0_weightOf 27 = .ok (.iload_n 2, 1) := by decide +kernel
theorem dX0_weightOf_28 : decode cX0_weightOf 28 = .ok (.aload_n 0, 1) := by decide +kernel
theorem dX0_weightOf_29 : decode cX0_weightOf 29 = .ok (.getfield 28, 3) := by decide +kernel
theorem dX0_weightOf_32 : decode cX0_weightOf 32 = .ok (.iload_n 3, 1) := by decide +kernel
theorem dX0_weightOf_33 : decode cX0_weightOf 33 = .ok (.iaload, 1) := by decide +kernel
theorem dX0_weightOf_34 : decode cX0_weightOf 34 = .ok (.bipush 6, 2) := by decide +kernel
theorem dX0_weightOf_36 : decode cX0_weightOf 36 = .ok (.ishr, 1) := by decide +kernel
theorem dX0_weightOf_37 : decode cX0_weightOf 37 = .ok (.iload_n 1, 1) := by decide +kernel
theorem dX0_weightOf_38 : decode cX0_weightOf 38 = .ok (.if_icmp .ge 7, 3) := by decide +kernel
theorem dX0_weightOf_41 : decode cX0_weightOf 41 = .ok (.iconst 1, 1) := by decide +kernel
theorem dX0_weightOf_42 : decode cX0_weightOf 42 = .ok (.goto 4, 3) := by decide +kernel
theorem dX0_weightOf_45 : decode cX0_weightOf 45 = .ok (.iconst 0, 1) := by decide +kernel
theorem dX0_weightOf_46 : decode cX0_weightOf 46 = .ok (.iadd, 1) := by decide +kernel
theorem dX0_weightOf_47 : decode cX0_weightOf 47 = .ok (.istore_n 2, 1) := by decide +kernel
theorem dX0_weightOf_48 : decode cX0_weightOf 48 = .ok (.iinc 3 1, 3) := by decide +kernel
theorem dX0_weightOf_51 : decode cX0_weightOf 51 = .ok (.goto (-47), 3) := by decide +kernel
theorem dX0_weightOf_54 : decode cX0_weightOf 54 = .ok (.aload_n 0, 1) := by decide +kernel
theorem dX0_weightOf_55 : decode cX0_weightOf 55 = .ok (.getfield 25, 3) := by decide +kernel
theorem dX0_weightOf_58 : decode cX0_weightOf 58 = .ok (.iload_n 2, 1) := by decide +kernel
theorem dX0_weightOf_59 : decode cX0_weightOf 59 = .ok (.iaload, 1) := by decide +kernel
theorem dX0_weightOf_60 : decode cX0_weightOf 60 = .ok (.ireturn, 1) := by decide +kernel
set_option maxRecDepth 20000 in
theorem moX0_weightOf_46 {o : Int32 × Hp} {k_4 : Hp → Nat → Int32 → Int32 → Int32 → Option (Int32 × Hp)} {F : Nat} (mk_4 : ∀ (h : Hp) (x0 : Nat) (x1 : Int32) (x2 : Int32) (x3 : Int32), k_4 h x0 x1 x2 x3 = some o → Le h o.2) {h : Hp} {x0 : Nat} {x1 : Int32} {x3 : Int32} {t0 : Int32} {t1 : Int32} (hE : sX0_weightOf_46 F k_4 h x0 x1 x3 t0 t1 = some o) : Le h o.2 := by
  obtain ⟨v_1, ev_1, hE⟩ := nm_e2 hE
  obtain ⟨v_2, ev_2, hE⟩ := nm_e2 hE
  exact mk_4 _ _ _ _ _ hE
set_option maxRecDepth 20000 in
theorem moX0_weightOf_4 {o : Int32 × Hp} {F : Nat} : ∀ (f : Nat) {h : Hp} {x0 : Nat} {x1 : Int32} {x2 : Int32} {x3 : Int32}, sX0_weightOf_4 F f h x0 x1 x2 x3 = some o → Le h o.2 := by
  intro f
  induction f with
  | zero =>
    intro h x0 x1 x2 x3 hE
    rw [sX0_weightOf_4] at hE
    cases hE
  | succ f ih =>
    intro h x0 x1 x2 x3 hE
    rw [sX0_weightOf_4] at hE
    have mk_4 : ∀ (h : Hp) (x0 : Nat) (x1 : Int32) (x2 : Int32) (x3 : Int32), sX0_weightOf_4 F f h x0 x1 x2 x3 = some o → Le h o.2 := fun h x0 x1 x2 x3 hE => ih hE
    rcases br_e hE with ⟨_, hE⟩ | ⟨_, hE⟩
    · obtain ⟨r_2, er_2, hE⟩ := cl_e hE
      obtain ⟨g_3, hE⟩ := gd_e hE
      exact le_some2 hE
    · obtain ⟨r_4, er_4, hE⟩ := cl_e hE
      obtain ⟨g_5, hE⟩ := gd_e hE
      rcases br_e hE with ⟨_, hE⟩ | ⟨_, hE⟩
      · exact le_some2 hE
      · obtain ⟨r_7, er_7, hE⟩ := cl_e hE
        obtain ⟨g_8, hE⟩ := gd_e hE
        rcases br_e hE with ⟨_, hE⟩ | ⟨_, hE⟩
        · exact moX0_weightOf_46 mk_4 hE
        · exact moX0_weightOf_46 mk_4 hE
set_option maxRecDepth 20000 in
theorem moX0_weightOf {o : Int32 × Hp} {F : Nat} {h : Hp} {x0 : Nat} {x1 : Int32} (hE : sX0_weightOf F h x0 x1 = some o) : Le h o.2 := by
  exact moX0_weightOf_4 _ hE
set_option maxRecDepth 20000 in
theorem bX0_weightOf_46 {p : Program} {l : Launch} {e : Env} {s : State} {m : MethodId} {args : Array Value} {below : List Frame} {meth : Method} {c : Code} {X : Ec} {h0 : Hp} {o : Int32 × Hp} {k_4 : Hp → Nat → Int32 → Int32 → Int32 → Option (Int32 × Hp)} {F : Nat} (C : Cx X p s m args meth c RX0 cX0_weightOf 4 (some .int) "weightOf") (hk_4 : ∀ (h : Hp) (x0 : Nat) (x1 : Int32) (x2 : Int32) (x3 : Int32) (H : Heap) (locs : List Loc), hK h x0 = 0 → Km h0 h → Wx X h H → va_S (aA (eB X)) s.heap H locs → ∀ (ls : Array Slot), lv_has ls 4 [(0, .ref x0), (1, .int x1), (2, .int x2), (3, .int x3)] → k_4 h x0 x1 x2 x3 = some o → W p l e (rm 0 0) s m args below meth c H locs 0 0 (MQ below (QI X h0 o.1 o.2) args s 0 0 (aA (eB X))) (F0 m 4 ls [])) {h : Hp} {x0 : Nat} {x1 : Int32} {x3 : Int32} {t0 : Int32} {t1 : Int32} {H : Heap} {locs : List Loc} (k_x0 : hK h x0 = 0) (hkm : Km h0 h) (hW : Wx X h H) (hZ : va_S (aA (eB X)) s.heap H locs) (ls : Array Slot) (hl : lv_has ls 4 [(0, .ref x0), (1, .int x1), (3, .int x3)]) (hE : sX0_weightOf_46 F k_4 h x0 x1 x3 t0 t1 = some o) : W p l e (rm 0 0) s m args below meth c H locs 0 0 (MQ below (QI X h0 o.1 o.2) args s 0 0 (aA (eB X))) (F0 m 46 ls [.int t0, .int t1]) := by
  refine lv_iadd C.1 C.2.1 dX0_weightOf_46 ?_
  obtain ⟨v_1, ev_1, hE⟩ := nm_e2 hE
  refine x_nmI ev_1 ?_
  refine lv_istore_n (lv' := [(2, .int v_1), (0, .ref x0), (1, .int x1), (3, .int x3)]) C.1 C.2.1 dX0_weightOf_47 rfl hl (by decide) rfl (fun ls hl => ?_)
  obtain ⟨v_2, ev_2, hE⟩ := nm_e2 hE
  refine lv_iinc (v := v_2) (lv' := [(3, .int v_2), (2, .int v_1), (0, .ref x0), (1, .int x1)]) C.1 C.2.1 dX0_weightOf_48 hl (k := 3) rfl (by rw [ev_2]; rfl) (by decide) rfl (fun ls hl => ?_)
  refine lv_goto (tgt := 4) C.1 C.2.1 dX0_weightOf_51 (by decide) ?_
  exact hk_4 _ _ _ _ _ _ _ k_x0 hkm hW hZ _ (lv_sub hl [2, 3, 1, 0] rfl) hE
set_option maxRecDepth 20000 in
theorem bX0_weightOf_4 {p : Program} {l : Launch} {e : Env} {s : State} {m : MethodId} {args : Array Value} {below : List Frame} {meth : Method} {c : Code} {X : Ec} {h0 : Hp} {o : Int32 × Hp} {F : Nat} (C : Cx X p s m args meth c RX0 cX0_weightOf 4 (some .int) "weightOf") : ∀ (f : Nat) {h : Hp} {x0 : Nat} {x1 : Int32} {x2 : Int32} {x3 : Int32} {H : Heap} {locs : List Loc} (k_x0 : hK h x0 = 0), Km h0 h → Wx X h H → va_S (aA (eB X)) s.heap H locs → ∀ (ls : Array Slot), lv_has ls 4 [(0, .ref x0), (1, .int x1), (2, .int x2), (3, .int x3)] → sX0_weightOf_4 F f h x0 x1 x2 x3 = some o → W p l e (rm 0 0) s m args below meth c H locs 0 0 (MQ below (QI X h0 o.1 o.2) args s 0 0 (aA (eB X))) (F0 m 4 ls []) := by
  intro f
  induction f with
  | zero =>
    intro h x0 x1 x2 x3 H locs k_x0 hkm hW hZ ls hl hE
    rw [sX0_weightOf_4] at hE
    cases hE
  | succ f ih =>
    intro h x0 x1 x2 x3 H locs k_x0 hkm hW hZ ls hl hE
    rw [sX0_weightOf_4] at hE
    have hk_4 : ∀ (h : Hp) (x0 : Nat) (x1 : Int32) (x2 : Int32) (x3 : Int32) (H : Heap) (locs : List Loc), hK h x0 = 0 → Km h0 h → Wx X h H → va_S (aA (eB X)) s.heap H locs → ∀ (ls : Array Slot), lv_has ls 4 [(0, .ref x0), (1, .int x1), (2, .int x2), (3, .int x3)] → sX0_weightOf_4 F f h x0 x1 x2 x3 = some o → W p l e (rm 0 0) s m args below meth c H locs 0 0 (MQ below (QI X h0 o.1 o.2) args s 0 0 (aA (eB X))) (F0 m 4 ls []) := fun h x0 x1 x2 x3 H locs k_x0 a b c ls hl hE => ih k_x0 a b c ls hl hE
    refine lv_iload_n C.1 C.2.1 dX0_weightOf_4 rfl (lv_at hl 3 rfl) ?_
    refine lv_aload_n C.1 C.2.1 dX0_weightOf_5 rfl (lv_at hl 0 rfl) ?_
    refine gf_X0_265 C hW k_x0 dX0_weightOf_6 ?_
    refine lv_icmp_ge (tgt := 54) C.1 C.2.1 dX0_weightOf_9 (by decide) (fun c_1 => ?_) (fun c_1 => ?_)
    · have hE := br_p hE c_1
      refine lv_aload_n C.1 C.2.1 dX0_weightOf_54 rfl (lv_at hl 0 rfl) ?_
      obtain ⟨r_2, er_2, hE⟩ := cl_e hE
      refine gf_X0_25 C hW k_x0 er_2 dX0_weightOf_55 (fun k_r_2 => ?_)
      refine lv_iload_n C.1 C.2.1 dX0_weightOf_58 rfl (lv_at hl 2 rfl) ?_
      obtain ⟨g_3, hE⟩ := gd_e hE
      refine y_iald C hW k_r_2 g_3 dX0_weightOf_59 ?_
      exact x_iret C rfl rfl hW hZ hkm hE dX0_weightOf_60
    · have hE := br_n hE c_1
      refine lv_aload_n C.1 C.2.1 dX0_weightOf_12 rfl (lv_at hl 0 rfl) ?_
      obtain ⟨r_4, er_4, hE⟩ := cl_e hE
      refine gf_X0_28 C hW k_x0 er_4 dX0_weightOf_13 (fun k_r_4 => ?_)
      refine lv_iload_n C.1 C.2.1 dX0_weightOf_16 rfl (lv_at hl 3 rfl) ?_
      obtain ⟨g_5, hE⟩ := gd_e hE
      refine y_iald C hW k_r_4 g_5 dX0_weightOf_17 ?_
      refine lv_bipush (v := (6 : Int32)) C.1 C.2.1 dX0_weightOf_18 (by decide) ?_
      refine lv_ishr C.1 C.2.1 dX0_weightOf_20 ?_
      refine lv_iload_n C.1 C.2.1 dX0_weightOf_21 rfl (lv_at hl 1 rfl) ?_
      refine lv_icmp_ne (tgt := 27) C.1 C.2.1 dX0_weightOf_22 (by decide) (fun c_6 => ?_) (fun c_6 => ?_)
      · have hE := br_n hE c_6
        refine lv_iload_n C.1 C.2.1 dX0_weightOf_27 rfl (lv_at hl 2 rfl) ?_
        refine lv_aload_n C.1 C.2.1 dX0_weightOf_28 rfl (lv_at hl 0 rfl) ?_
        obtain ⟨r_7, er_7, hE⟩ := cl_e hE
        refine gf_X0_28 C hW k_x0 er_7 dX0_weightOf_29 (fun k_r_7 => ?_)
        refine lv_iload_n C.1 C.2.1 dX0_weightOf_32 rfl (lv_at hl 3 rfl) ?_
        obtain ⟨g_8, hE⟩ := gd_e hE
        refine y_iald C hW k_r_7 g_8 dX0_weightOf_33 ?_
        refine lv_bipush (v := (6 : Int32)) C.1 C.2.1 dX0_weightOf_34 (by decide) ?_
        refine lv_ishr C.1 C.2.1 dX0_weightOf_36 ?_
        refine lv_iload_n C.1 C.2.1 dX0_weightOf_37 rfl (lv_at hl 1 rfl) ?_
        refine lv_icmp_ge (tgt := 45) C.1 C.2.1 dX0_weightOf_38 (by decide) (fun c_9 => ?_) (fun c_9 => ?_)
        · have hE := br_p hE c_9
          refine lv_iconst (v := (0 : Int32)) C.1 C.2.1 dX0_weightOf_45 (by decide) ?_
          exact bX0_weightOf_46 C hk_4 k_x0 hkm hW hZ _ (lv_sub hl [0, 1, 3] rfl) hE
        · have hE := br_n hE c_9
          refine lv_iconst (v := (1 : Int32)) C.1 C.2.1 dX0_weightOf_41 (by decide) ?_
          refine lv_goto (tgt := 46) C.1 C.2.1 dX0_weightOf_42 (by decide) ?_
          exact bX0_weightOf_46 C hk_4 k_x0 hkm hW hZ _ (lv_sub hl [0, 1, 3] rfl) hE
      · have hE := br_p hE c_6
        refine lv_iconst (v := (0 : Int32)) C.1 C.2.1 dX0_weightOf_25 (by decide) ?_
        exact x_iret C rfl rfl hW hZ hkm hE dX0_weightOf_26
set_option maxRecDepth 20000 in
theorem ct_X0_weightOf (l : Launch) (X : Ec) (F : Nat) {h : Hp} {x0 : Nat} {x1 : Int32} {o : Int32 × Hp} (k_x0 : hK h x0 = 0) (hE : sX0_weightOf F h x0 x1 = some o) : MetI l yX0_weightOf cX0_weightOf 4 (some .int) 0 0 X [.ref x0, .int x1] h o := by
  refine x_met (by decide) (Nat.le_of_ble_eq_true rfl) ?_
  intro p e s m below meth c ls C hl hW hZ
  have hl : lv_has ls 4 [(0, .ref x0), (1, .int x1)] := hl
  have hkm : Km h h := Km.rf h
  refine lv_iconst (v := (0 : Int32)) C.1 C.2.1 dX0_weightOf_0 (by decide) ?_
  refine lv_istore_n (lv' := [(2, .int (0 : Int32)), (0, .ref x0), (1, .int x1)]) C.1 C.2.1 dX0_weightOf_1 rfl hl (by decide) rfl (fun ls hl => ?_)
  refine lv_iconst (v := (0 : Int32)) C.1 C.2.1 dX0_weightOf_2 (by decide) ?_
  refine lv_istore_n (lv' := [(3, .int (0 : Int32)), (2, .int (0 : Int32)), (0, .ref x0), (1, .int x1)]) C.1 C.2.1 dX0_weightOf_3 rfl hl (by decide) rfl (fun ls hl => ?_)
  exact bX0_weightOf_4 C F k_x0 hkm hW hZ _ (lv_sub hl [2, 3, 1, 0] rfl) hE
set_option maxRecDepth 100000 in
theorem m_476 : Cond.fieldLink RX0 91 (TX0 16).1 (TX0 16).2.1 (TX0 16).2.2.1 ∈ W0 := w0_in (List.mem_append_right _ (List.mem_of_getElem? (i := 476) rfl)) rfl
section
variable {p : Program} {l : Launch} {e : Env} {R : Room} {s : State} {m : MethodId} {args : Array Value} {below : List Frame} {meth : Method} {c : Code} {H : Heap} {locs : List Loc} {cells slots : Nat} {Q : State → Prop}
variable {cc : ByteArray} {pc : Nat} {ls : Array Slot} {rest : List Value} {X : Ec} {h h1 : Hp} {nL : Nat} {rt : Option FieldType} {mn : String}
theorem gf_X0_91 {a : Nat} (C : Cx X p s m args meth c RX0 cc nL rt mn) (hW : Wx X h H) (ha : hK h a = 0) (hdg : decode cc pc = .ok (.getfield 91, 3)) (kk : W p l e R s m args below meth c H locs cells slots Q (F0 m (pc + 3) ls (.int (hI h a 16) :: rest))) : W p l e R s m args below meth c H locs cells slots Q (F0 m pc ls (.ref a :: rest)) :=
  y_geti C hW ha i_X0 (by decide) rfl (by decide) m_476 rfl hdg kk
theorem gf_X0_37 {a r : Nat} (C : Cx X p s m args meth c RX0 cc nL rt mn) (hW : Wx X h H) (ha : hK h a = 0) (hr : hR h a 13 = some r) (hdg : decode cc pc = .ok (.getfield 37, 3)) (kk : hK h r = 17 → W p l e R s m args below meth c H locs cells slots Q (F0 m (pc + 3) ls (.ref r :: rest))) : W p l e R s m args below meth c H locs cells slots Q (F0 m pc ls (.ref a :: rest)) :=
  y_getr C hW ha i_X0 (by decide) rfl (by decide) m_473 rfl rfl hr hdg kk
theorem pf_X0_91 {a : Nat} {v : Int32} (C : Cx X p s m args meth c RX0 cc nL rt mn) (hW : Wx X h H) (hZ : va_S (aA (eB X)) s.heap H locs) (ha : hK h a = 0) (eh : h1 = wI h a 16 v) (hdg : decode cc pc = .ok (.putfield 91, 3)) (kk : ∀ (H1 : Heap) (locs1 : List Loc), Wx X h1 H1 → Km h h1 → va_S (aA (eB X)) s.heap H1 locs1 → W p l e R s m args below meth c H1 locs1 cells slots Q (F0 m (pc + 3) ls rest)) : W p l e R s m args below meth c H locs cells slots Q (F0 m pc ls (.int v :: .ref a :: rest)) :=
  y_puti (ty := .int) C hW hZ ha i_X0 tyX0 tyX0_ok nmX0 (by decide) rfl rfl (by decide) m_476 rfl (by decide +kernel) rfl rfl rfl eh hdg kk
end
theorem dX0_push_0 : decode cX0_push 0 = .ok (.aload_n 0, 1) := by decide +kernel
theorem dX0_push_1 : decode cX0_push 1 = .ok (.getfield 91, 3) := by decide +kernel
theorem dX0_push_4 : decode cX0_push 4 = .ok (.aload_n 0, 1) := by decide +kernel
theorem dX0_push_5 : decode cX0_push 5 = .ok (.getfield 37, 3) := by decide +kernel
theorem dX0_push_8 : decode cX0_push 8 = .ok (.arraylength, 1) := by decide +kernel
theorem dX0_push_9 : decode cX0_push 9 = .ok (.if_icmp .ge 23, 3) := by decide +kernel
theorem dX0_push_12 : decode cX0_push 12 = .ok (.aload_n 0, 1) := by decide +kernel
theorem dX0_push_13 : decode cX0_push 13 = .ok (.getfield 37, 3) := by decide +kernel
theorem dX0_push_16 : decode cX0_push 16 = .ok (.aload_n 0, 1) := by decide +kernel
theorem dX0_push_17 : decode cX0_push 17 = .ok (.getfield 91, 3) := by decide +kernel
theorem dX0_push_20 : decode cX0_push 20 = .ok (.iload_n 1, 1) := by decide +kernel
theorem dX0_push_21 : decode cX0_push 21 = .ok (.iastore, 1) := by decide +kernel
theorem dX0_push_22 : decode cX0_push 22 = .ok (.aload_n 0, 1) := by decide +kernel
theorem dX0_push_23 : decode cX0_push 23 = .ok (.dup, 1) := by decide +kernel
theorem dX0_push_24 : decode cX0_push 24 = .ok (.getfield 91, 3) := by decide +kernel
theorem dX0_push_27 : decode cX0_push 27 = .ok (.iconst 1, 1) := by decide +kernel
theorem dX0_push_28 : decode cX0_push 28 = .ok (.iadd, 1) := by decide +kernel
theorem dX0_push_29 : decode cX0_push 29 = .ok (.putfield 91, 3) := by decide +kernel
theorem dX0_push_32 : decode cX0_push 32 = .ok (.return_, 1) := by decide +kernel
set_option maxRecDepth 20000 in
theorem moX0_push_32 {o : Hp} {h : Hp} (hE : sX0_push_32 h  = some o) : Le h o := by
  exact le_some1 hE
set_option maxRecDepth 20000 in
theorem moX0_push {o : Hp} {h : Hp} {x0 : Nat} {x1 : Int32} (hE : sX0_push h x0 x1 = some o) : Le h o := by
  obtain ⟨r_1, er_1, hE⟩ := cl_e hE
  rcases br_e hE with ⟨_, hE⟩ | ⟨_, hE⟩
  · exact moX0_push_32 hE
  · obtain ⟨r_3, er_3, hE⟩ := cl_e hE
    obtain ⟨g_4, hE⟩ := gd_e hE
    obtain ⟨h_5, eh_5, hE⟩ := nm_e2 hE
    refine (le_I eh_5).tr ?_
    obtain ⟨h_6, eh_6, hE⟩ := nm_e2 hE
    refine (le_I eh_6).tr ?_
    exact moX0_push_32 hE
set_option maxRecDepth 20000 in
theorem bX0_push_32 {p : Program} {l : Launch} {e : Env} {s : State} {m : MethodId} {args : Array Value} {below : List Frame} {meth : Method} {c : Code} {X : Ec} {h0 : Hp} {o : Hp} (C : Cx X p s m args meth c RX0 cX0_push 2 none "push") {h : Hp} {H : Heap} {locs : List Loc} (hkm : Km h0 h) (hW : Wx X h H) (hZ : va_S (aA (eB X)) s.heap H locs) (ls : Array Slot) (hl : lv_has ls 2 []) (hE : sX0_push_32 h  = some o) : W p l e (rm 0 0) s m args below meth c H locs 0 0 (MQ below (QV X h0 o) args s 0 0 (aA (eB X))) (F0 m 32 ls []) := by
  exact x_vret C rfl hW hZ hkm hE dX0_push_32
set_option maxRecDepth 20000 in
theorem ct_X0_push (l : Launch) (X : Ec) {h : Hp} {x0 : Nat} {x1 : Int32} {o : Hp} (k_x0 : hK h x0 = 0) (hE : sX0_push h x0 x1 = some o) : MetV l yX0_push cX0_push 2 none 0 0 X [.ref x0, .int x1] h o := by
  refine x_met (by decide) (Nat.le_of_ble_eq_true rfl) ?_
  intro p e s m below meth c ls C hl hW hZ
  have hl : lv_has ls 2 [(0, .ref x0), (1, .int x1)] := hl
  have hkm : Km h h := Km.rf h
  refine lv_aload_n C.1 C.2.1 dX0_push_0 rfl (lv_at hl 0 rfl) ?_
  refine gf_X0_91 C hW k_x0 dX0_push_1 ?_
  refine lv_aload_n C.1 C.2.1 dX0_push_4 rfl (lv_at hl 0 rfl) ?_
  obtain ⟨r_1, er_1, hE⟩ := cl_e hE
  refine gf_X0_37 C hW k_x0 er_1 dX0_push_5 (fun k_r_1 => ?_)
  refine y_alen C hW k_r_1 (by decide) dX0_push_8 ?_
  refine lv_icmp_ge (tgt := 32) C.1 C.2.1 dX0_push_9 (by decide) (fun c_2 => ?_) (fun c_2 => ?_)
  · have hE := br_p hE c_2
    exact bX0_push_32 C hkm hW hZ _ (lv_sub hl [] rfl) hE
  · have hE := br_n hE c_2
    refine lv_aload_n C.1 C.2.1 dX0_push_12 rfl (lv_at hl 0 rfl) ?_
    obtain ⟨r_3, er_3, hE⟩ := cl_e hE
    refine gf_X0_37 C hW k_x0 er_3 dX0_push_13 (fun k_r_3 => ?_)
    refine lv_aload_n C.1 C.2.1 dX0_push_16 rfl (lv_at hl 0 rfl) ?_
    refine gf_X0_91 C hW k_x0 dX0_push_17 ?_
    refine lv_iload_n C.1 C.2.1 dX0_push_20 rfl (lv_at hl 1 rfl) ?_
    obtain ⟨g_4, hE⟩ := gd_e hE
    obtain ⟨h_5, eh_5, hE⟩ := nm_e2 hE
    refine y_iast C hW hZ k_r_3 g_4 eh_5 dX0_push_21 (fun _ _ hW km hZ => ?_)
    replace hkm := hkm.tr km
    replace k_x0 := km.at k_x0 (by decide)
    refine lv_aload_n C.1 C.2.1 dX0_push_22 rfl (lv_at hl 0 rfl) ?_
    refine lv_dup C.1 C.2.1 dX0_push_23 rfl ?_
    refine gf_X0_91 C hW k_x0 dX0_push_24 ?_
    refine lv_iconst (v := (1 : Int32)) C.1 C.2.1 dX0_push_27 (by decide) ?_
    refine lv_iadd C.1 C.2.1 dX0_push_28 ?_
    obtain ⟨h_6, eh_6, hE⟩ := nm_e2 hE
    refine pf_X0_91 C hW hZ k_x0 eh_6 dX0_push_29 (fun _ _ hW km hZ => ?_)
    replace hkm := hkm.tr km
    replace k_x0 := km.at k_x0 (by decide)
    exact bX0_push_32 C hkm hW hZ _ (lv_sub hl [] rfl) hE
set_option maxRecDepth 100000 in
theorem ms_109 : Cond.selects RX0 yX0_push yX0_push ∈ W0 := w0_in (List.mem_append_left _ (List.mem_of_getElem? (i := 109) rfl)) rfl
set_option maxRecDepth 100000 in
theorem m_477 : Cond.fieldLink RX0 98 (TX0 17).1 (TX0 17).2.1 (TX0 17).2.2.1 ∈ W0 := w0_in (List.mem_append_right _ (List.mem_of_getElem? (i := 477) rfl)) rfl
set_option maxRecDepth 100000 in
theorem m_1718 : Cond.constant RX0 215 (16777216 : Int32) ∈ W0 := w0_in (List.mem_append_right _ (List.mem_of_getElem? (i := 1718) rfl)) rfl
set_option maxRecDepth 100000 in
theorem m_1719 : Cond.methodLink RX0 209 yX0_push ∈ W0 := w0_in (List.mem_append_right _ (List.mem_of_getElem? (i := 1719) rfl)) rfl
set_option maxRecDepth 100000 in
theorem m_1721 : Cond.instanceMethod yX0_push ∈ W0 := w0_in (List.mem_append_right _ (List.mem_of_getElem? (i := 1721) rfl)) rfl
set_option maxRecDepth 100000 in
theorem m_1722 : Cond.code yX0_push cX0_push 2 none ∈ W0 := w0_in (List.mem_append_right _ (List.mem_of_getElem? (i := 1722) rfl)) rfl
section
variable {p : Program} {l : Launch} {e : Env} {R : Room} {s : State} {m : MethodId} {args : Array Value} {below : List Frame} {meth : Method} {c : Code} {H : Heap} {locs : List Loc} {cells slots : Nat} {Q : State → Prop}
variable {cc : ByteArray} {pc : Nat} {ls : Array Slot} {rest : List Value} {X : Ec} {h h1 : Hp} {nL : Nat} {rt : Option FieldType} {mn : String}
theorem gf_X0_98 {a : Nat} (C : Cx X p s m args meth c RX0 cc nL rt mn) (hW : Wx X h H) (ha : hK h a = 0) (hdg : decode cc pc = .ok (.getfield 98, 3)) (kk : W p l e R s m args below meth c H locs cells slots Q (F0 m (pc + 3) ls (.int (hI h a 17) :: rest))) : W p l e R s m args below meth c H locs cells slots Q (F0 m pc ls (.ref a :: rest)) :=
  y_geti C hW ha i_X0 (by decide) rfl (by decide) m_477 rfl hdg kk
end
theorem cw_X0_209 : cwd RX0 209 yX0_push cX0_push 2 none false 1 := ⟨m_1722, m_1719, m_13, ⟨m_1721, ms_109⟩, by decide, by decide, by decide +kernel⟩
theorem dX0_touch_0 : decode cX0_touch 0 = .ok (.aload_n 0, 1) := by decide +kernel
theorem dX0_touch_1 : decode cX0_touch 1 = .ok (.getfield 31, 3) := by decide +kernel
theorem dX0_touch_4 : decode cX0_touch 4 = .ok (.iload_n 1, 1) := by decide +kernel
theorem dX0_touch_5 : decode cX0_touch 5 = .ok (.iaload, 1) := by decide +kernel
theorem dX0_touch_6 : decode cX0_touch 6 = .ok (.ldc 97, 2) := by decide +kernel
theorem dX0_touch_8 : decode cX0_touch 8 = .ok (.if_icmp .eq 4, 3) := by decide +kernel
theorem dX0_touch_11 : decode cX0_touch 11 = .ok (.return_, 1) := by decide +kernel
theorem dX0_touch_12 : decode cX0_touch 12 = .ok (.aload_n 0, 1) := by decide +kernel
theorem dX0_touch_13 : decode cX0_touch 13 = .ok (.getfield 98, 3) := by decide +kernel
theorem dX0_touch_16 : decode cX0_touch 16 = .ok (.ldc 97, 2) := by decide +kernel
theorem dX0_touch_18 : decode cX0_touch 18 = .ok (.if_icmp .ne 24, 3) := by decide +kernel
theorem dX0_touch_21 : decode cX0_touch 21 = .ok (.aload_n 0, 1) := by decide +kernel
theorem dX0_touch_22 : decode cX0_touch 22 = .ok (.getfield 34, 3) := by decide +kernel
theorem dX0_touch_25 : decode cX0_touch 25 = .ok (.iload_n 1, 1) := by decide +kernel
theorem dX0_touch_26 : decode cX0_touch 26 = .ok (.dup2, 1) := by decide +kernel
theorem dX0_touch_27 : decode cX0_touch 27 = .ok (.iaload, 1) := by decide +kernel
theorem dX0_touch_28 : decode cX0_touch 28 = .ok (.iload_n 2, 1) := by decide +kernel
theorem dX0_touch_29 : decode cX0_touch 29 = .ok (.ifCond .eq 9, 3) := by decide +kernel
theorem dX0_touch_32 : decode cX0_touch 32 = .ok (.sipush 4096, 3) := by decide +kernel
theorem dX0_touch_35 : decode cX0_touch 35 = .ok (.goto 4, 3) := by decide +kernel
theorem dX0_touch_38 : decode cX0_touch 38 = .ok (.iconst 1, 1) := by decide +kernel
theorem dX0_touch_39 : decode cX0_touch 39 = .ok (.iadd, 1) := by decide +kernel
theorem dX0_touch_40 : decode cX0_touch 40 = .ok (.iastore, 1) := by decide +kernel
theorem dX0_touch_41 : decode cX0_touch 41 = .ok (.return_, 1) := by decide +kernel
theorem dX0_touch_42 : decode cX0_touch 42 = .ok (.iload_n 2, 1) := by decide +kernel
theorem dX0_touch_43 : decode cX0_touch 43 = .ok (.ifCond .ne 16, 3) := by decide +kernel
theorem dX0_touch_46 : decode cX0_touch 46 = .ok (.aload_n 0, 1) := by decide +kernel
theorem dX0_touch_47 : decode cX0_touch 47 = .ok (.getfield 34, 3) := by decide +kernel
theorem dX0_touch_50 : decode cX0_touch 50 = .ok (.iload_n 1, 1) := by decide +kernel
theorem dX0_touch_51 : decode cX0_touch 51 = .ok (.iaload, 1) := by decide +kernel
theorem dX0_touch_52 : decode cX0_touch 52 = .ok (.ldc 215, 2) := by decide +kernel
theorem dX0_touch_54 : decode cX0_touch 54 = .ok (.iand, 1) := by decide +kernel
theorem dX0_touch_55 : decode cX0_touch 55 = .ok (.ifCond .eq 4, 3) := by decide +kernel
theorem dX0_touch_58 : decode cX0_touch 58 = .ok (.return_, 1) := by decide +kernel
theorem dX0_touch_59 : decode cX0_touch 59 = .ok (.aload_n 0, 1) := by decide +kernel
theorem dX0_touch_60 : decode cX0_touch 60 = .ok (.getfield 98, 3) := by decide +kernel
theorem dX0_touch_63 : decode cX0_touch 63 = .ok (.ifCond .ge 22, 3) := by decide +kernel
theorem dX0_touch_66 : decode cX0_touch 66 = .ok (.aload_n 0, 1) := by decide +kernel
theorem dX0_touch_67 : decode cX0_touch 67 = .ok (.getfield 31, 3) := by decide +kernel
theorem dX0_touch_70 : decode cX0_touch 70 = .ok (.iload_n 1, 1) := by decide +kernel
theorem dX0_touch_71 : decode cX0_touch 71 = .ok (.aload_n 0, 1) := by decide +kernel
theorem dX0_touch_72 : decode cX0_touch 72 = .ok (.getfield 98, 3) := by decide +kernel
theorem dX0_touch_75 : decode cX0_touch 75 = .ok (.ineg, 1) := by decide +kernel
theorem dX0_touch_76 : decode cX0_touch 76 = .ok (.iconst 1, 1) := by decide +kernel
theorem dX0_touch_77 : decode cX0_touch 77 = .ok (.isub, 1) := by decide +kernel
theorem dX0_touch_78 : decode cX0_touch 78 = .ok (.iastore, 1) := by decide +kernel
theorem dX0_touch_79 : decode cX0_touch 79 = .ok (.aload_n 0, 1) := by decide +kernel
theorem dX0_touch_80 : decode cX0_touch 80 = .ok (.iload_n 1, 1) := by decide +kernel
theorem dX0_touch_81 : decode cX0_touch 81 = .ok (.invokevirtual 209, 3) := by decide +kernel
theorem dX0_touch_84 : decode cX0_touch 84 = .ok (.return_, 1) := by decide +kernel
theorem dX0_touch_85 : decode cX0_touch 85 = .ok (.aload_n 0, 1) := by decide +kernel
theorem dX0_touch_86 : decode cX0_touch 86 = .ok (.getfield 34, 3) := by decide +kernel
theorem dX0_touch_89 : decode cX0_touch 89 = .ok (.iload_n 1, 1) := by decide +kernel
theorem dX0_touch_90 : decode cX0_touch 90 = .ok (.dup2, 1) := by decide +kernel
theorem dX0_touch_91 : decode cX0_touch 91 = .ok (.iaload, 1) := by decide +kernel
theorem dX0_touch_92 : decode cX0_touch 92 = .ok (.iconst 1, 1) := by decide +kernel
theorem dX0_touch_93 : decode cX0_touch 93 = .ok (.isub, 1) := by decide +kernel
theorem dX0_touch_94 : decode cX0_touch 94 = .ok (.iastore, 1) := by decide +kernel
theorem dX0_touch_95 : decode cX0_touch 95 = .ok (.aload_n 0, 1) := by decide +kernel
theorem dX0_touch_96 : decode cX0_touch 96 = .ok (.getfield 34, 3) := by decide +kernel
theorem dX0_touch_99 : decode cX0_touch 99 = .ok (.iload_n 1, 1) := by decide +kernel
theorem dX0_touch_100 : decode cX0_touch 100 = .ok (.iaload, 1) := by decide +kernel
theorem dX0_touch_101 : decode cX0_touch 101 = .ok (.sipush 4095, 3) := by decide +kernel
theorem dX0_touch_104 : decode cX0_touch 104 = .ok (.iand, 1) := by decide +kernel
theorem dX0_touch_105 : decode cX0_touch 105 = .ok (.ifCond .ne 20, 3) := by decide +kernel
theorem dX0_touch_108 : decode cX0_touch 108 = .ok (.aload_n 0, 1) := by decide +kernel
theorem dX0_touch_109 : decode cX0_touch 109 = .ok (.getfield 31, 3) := by decide +kernel
theorem dX0_touch_112 : decode cX0_touch 112 = .ok (.iload_n 1, 1) := by decide +kernel
theorem dX0_touch_113 : decode cX0_touch 113 = .ok (.iconst 1, 1) := by decide +kernel
theorem dX0_touch_114 : decode cX0_touch 114 = .ok (.aload_n 0, 1) := by decide +kernel
theorem dX0_touch_115 : decode cX0_touch 115 = .ok (.getfield 98, 3) := by decide +kernel
theorem dX0_touch_118 : decode cX0_touch 118 = .ok (.isub, 1) := by decide +kernel
theorem dX0_touch_119 : decode cX0_touch 119 = .ok (.iastore, 1) := by decide +kernel
theorem dX0_touch_120 : decode cX0_touch 120 = .ok (.aload_n 0, 1) := by decide +kernel
theorem dX0_touch_121 : decode cX0_touch 121 = .ok (.iload_n 1, 1) := by decide +kernel
theorem dX0_touch_122 : decode cX0_touch 122 = .ok (.invokevirtual 209, 3) := by decide +kernel
theorem dX0_touch_125 : decode cX0_touch 125 = .ok (.return_, 1) := by decide +kernel
set_option maxRecDepth 20000 in
theorem moX0_touch_125 {o : Hp} {h : Hp} (hE : sX0_touch_125 h  = some o) : Le h o := by
  exact le_some1 hE
set_option maxRecDepth 20000 in
theorem moX0_touch_59 {o : Hp} {h : Hp} {x0 : Nat} {x1 : Int32} (hE : sX0_touch_59 h x0 x1 = some o) : Le h o := by
  rcases br_e hE with ⟨_, hE⟩ | ⟨_, hE⟩
  · obtain ⟨r_2, er_2, hE⟩ := cl_e hE
    obtain ⟨g_3, hE⟩ := gd_e hE
    obtain ⟨g_4, hE⟩ := gd_e hE
    obtain ⟨h_5, eh_5, hE⟩ := nm_e2 hE
    refine (le_I eh_5).tr ?_
    obtain ⟨r_6, er_6, hE⟩ := cl_e hE
    obtain ⟨g_7, hE⟩ := gd_e hE
    rcases br_e hE with ⟨_, hE⟩ | ⟨_, hE⟩
    · obtain ⟨r_9, er_9, hE⟩ := cl_e hE
      obtain ⟨g_10, hE⟩ := gd_e hE
      obtain ⟨h_11, eh_11, hE⟩ := nm_e2 hE
      refine (le_I eh_11).tr ?_
      obtain ⟨o_12, eo_12, hE⟩ := cl_e hE
      refine (moX0_push eo_12).tr ?_
      exact moX0_touch_125 hE
    · exact moX0_touch_125 hE
  · obtain ⟨r_13, er_13, hE⟩ := cl_e hE
    obtain ⟨g_14, hE⟩ := gd_e hE
    obtain ⟨h_15, eh_15, hE⟩ := nm_e2 hE
    refine (le_I eh_15).tr ?_
    obtain ⟨o_16, eo_16, hE⟩ := cl_e hE
    refine (moX0_push eo_16).tr ?_
    exact le_some1 hE
set_option maxRecDepth 20000 in
theorem moX0_touch_39 {o : Hp} {h : Hp} {t0 : Int32} {t1 : Int32} {t2 : Int32} {t3 : Nat} (hE : sX0_touch_39 h  t0 t1 t2 t3 = some o) : Le h o := by
  obtain ⟨g_1, hE⟩ := gd_e hE
  obtain ⟨h_2, eh_2, hE⟩ := nm_e2 hE
  refine (le_I eh_2).tr ?_
  exact le_some1 hE
set_option maxRecDepth 20000 in
theorem moX0_touch {o : Hp} {h : Hp} {x0 : Nat} {x1 : Int32} {x2 : Int32} (hE : sX0_touch h x0 x1 x2 = some o) : Le h o := by
  obtain ⟨r_1, er_1, hE⟩ := cl_e hE
  obtain ⟨g_2, hE⟩ := gd_e hE
  rcases br_e hE with ⟨_, hE⟩ | ⟨_, hE⟩
  · rcases br_e hE with ⟨_, hE⟩ | ⟨_, hE⟩
    · obtain ⟨r_9, er_9, hE⟩ := cl_e hE
      obtain ⟨g_10, hE⟩ := gd_e hE
      rcases br_e hE with ⟨_, hE⟩ | ⟨_, hE⟩
      · exact moX0_touch_39 hE
      · exact moX0_touch_39 hE
    · rcases br_e hE with ⟨_, hE⟩ | ⟨_, hE⟩
      · obtain ⟨r_6, er_6, hE⟩ := cl_e hE
        obtain ⟨g_7, hE⟩ := gd_e hE
        rcases br_e hE with ⟨_, hE⟩ | ⟨_, hE⟩
        · exact moX0_touch_59 hE
        · exact le_some1 hE
      · exact moX0_touch_59 hE
  · exact le_some1 hE
set_option maxRecDepth 20000 in
theorem bX0_touch_125 {p : Program} {l : Launch} {e : Env} {s : State} {m : MethodId} {args : Array Value} {below : List Frame} {meth : Method} {c : Code} {X : Ec} {h0 : Hp} {o : Hp} (C : Cx X p s m args meth c RX0 cX0_touch 3 none "touch") {h : Hp} {H : Heap} {locs : List Loc} (hkm : Km h0 h) (hW : Wx X h H) (hZ : va_S (aA (eB X)) s.heap H locs) (ls : Array Slot) (hl : lv_has ls 3 []) (hE : sX0_touch_125 h  = some o) : W p l e (rm 1 21) s m args below meth c H locs 0 0 (MQ below (QV X h0 o) args s 0 0 (aA (eB X))) (F0 m 125 ls []) := by
  exact x_vret C rfl hW hZ hkm hE dX0_touch_125
set_option maxRecDepth 20000 in
theorem bX0_touch_59 {p : Program} {l : Launch} {e : Env} {s : State} {m : MethodId} {args : Array Value} {below : List Frame} {meth : Method} {c : Code} {X : Ec} {h0 : Hp} {o : Hp} (C : Cx X p s m args meth c RX0 cX0_touch 3 none "touch") {h : Hp} {x0 : Nat} {x1 : Int32} {H : Heap} {locs : List Loc} (k_x0 : hK h x0 = 0) (hkm : Km h0 h) (hW : Wx X h H) (hZ : va_S (aA (eB X)) s.heap H locs) (ls : Array Slot) (hl : lv_has ls 3 [(0, .ref x0), (1, .int x1)]) (hE : sX0_touch_59 h x0 x1 = some o) : W p l e (rm 1 21) s m args below meth c H locs 0 0 (MQ below (QV X h0 o) args s 0 0 (aA (eB X))) (F0 m 59 ls []) := by
  refine lv_aload_n C.1 C.2.1 dX0_touch_59 rfl (lv_at hl 0 rfl) ?_
  refine gf_X0_98 C hW k_x0 dX0_touch_60 ?_
  refine lv_if_ge (tgt := 85) C.1 C.2.1 dX0_touch_63 (by decide) (fun c_1 => ?_) (fun c_1 => ?_)
  · have hE := br_p hE c_1
    refine lv_aload_n C.1 C.2.1 dX0_touch_85 rfl (lv_at hl 0 rfl) ?_
    obtain ⟨r_2, er_2, hE⟩ := cl_e hE
    refine gf_X0_34 C hW k_x0 er_2 dX0_touch_86 (fun k_r_2 => ?_)
    refine lv_iload_n C.1 C.2.1 dX0_touch_89 rfl (lv_at hl 1 rfl) ?_
    refine lv_dup2_11 C.1 C.2.1 dX0_touch_90 rfl rfl ?_
    obtain ⟨g_3, hE⟩ := gd_e hE
    refine y_iald C hW k_r_2 g_3 dX0_touch_91 ?_
    refine lv_iconst (v := (1 : Int32)) C.1 C.2.1 dX0_touch_92 (by decide) ?_
    refine lv_isub C.1 C.2.1 dX0_touch_93 ?_
    obtain ⟨g_4, hE⟩ := gd_e hE
    obtain ⟨h_5, eh_5, hE⟩ := nm_e2 hE
    refine y_iast C hW hZ k_r_2 g_4 eh_5 dX0_touch_94 (fun _ _ hW km hZ => ?_)
    replace hkm := hkm.tr km
    replace k_x0 := km.at k_x0 (by decide)
    refine lv_aload_n C.1 C.2.1 dX0_touch_95 rfl (lv_at hl 0 rfl) ?_
    obtain ⟨r_6, er_6, hE⟩ := cl_e hE
    refine gf_X0_34 C hW k_x0 er_6 dX0_touch_96 (fun k_r_6 => ?_)
    refine lv_iload_n C.1 C.2.1 dX0_touch_99 rfl (lv_at hl 1 rfl) ?_
    obtain ⟨g_7, hE⟩ := gd_e hE
    refine y_iald C hW k_r_6 g_7 dX0_touch_100 ?_
    refine lv_sipush (v := (4095 : Int32)) C.1 C.2.1 dX0_touch_101 (by decide) ?_
    refine lv_iand C.1 C.2.1 dX0_touch_104 ?_
    refine lv_if_ne (tgt := 125) C.1 C.2.1 dX0_touch_105 (by decide) (fun c_8 => ?_) (fun c_8 => ?_)
    · have hE := br_n hE c_8
      exact bX0_touch_125 C hkm hW hZ _ (lv_sub hl [] rfl) hE
    · have hE := br_p hE c_8
      refine lv_aload_n C.1 C.2.1 dX0_touch_108 rfl (lv_at hl 0 rfl) ?_
      obtain ⟨r_9, er_9, hE⟩ := cl_e hE
      refine gf_X0_31 C hW k_x0 er_9 dX0_touch_109 (fun k_r_9 => ?_)
      refine lv_iload_n C.1 C.2.1 dX0_touch_112 rfl (lv_at hl 1 rfl) ?_
      refine lv_iconst (v := (1 : Int32)) C.1 C.2.1 dX0_touch_113 (by decide) ?_
      refine lv_aload_n C.1 C.2.1 dX0_touch_114 rfl (lv_at hl 0 rfl) ?_
      refine gf_X0_98 C hW k_x0 dX0_touch_115 ?_
      refine lv_isub C.1 C.2.1 dX0_touch_118 ?_
      obtain ⟨g_10, hE⟩ := gd_e hE
      obtain ⟨h_11, eh_11, hE⟩ := nm_e2 hE
      refine y_iast C hW hZ k_r_9 g_10 eh_11 dX0_touch_119 (fun _ _ hW km hZ => ?_)
      replace hkm := hkm.tr km
      replace k_x0 := km.at k_x0 (by decide)
      refine lv_aload_n C.1 C.2.1 dX0_touch_120 rfl (lv_at hl 0 rfl) ?_
      refine lv_iload_n C.1 C.2.1 dX0_touch_121 rfl (lv_at hl 1 rfl) ?_
      obtain ⟨o_12, eo_12, hE⟩ := cl_e hE
      refine x_kV (o := o_12) (z_runV (As := [.int x1]) (rest := []) C (ct_X0_push l X k_x0 eo_12) cw_X0_209 hW hZ k_x0 (by decide) rfl rfl rfl hl.1 (Nat.le_of_ble_eq_true rfl) rfl dX0_touch_122 ⟨Nat.le_of_ble_eq_true rfl, Nat.le_of_ble_eq_true rfl⟩ ⟨Nat.le_refl _, Nat.le_refl _⟩) hZ (fun _ _ hW km hZ => ?_)
      replace hkm := hkm.tr km
      replace k_x0 := km.at k_x0 (by decide)
      exact bX0_touch_125 C hkm hW hZ _ (lv_sub hl [] rfl) hE
  · have hE := br_n hE c_1
    refine lv_aload_n C.1 C.2.1 dX0_touch_66 rfl (lv_at hl 0 rfl) ?_
    obtain ⟨r_13, er_13, hE⟩ := cl_e hE
    refine gf_X0_31 C hW k_x0 er_13 dX0_touch_67 (fun k_r_13 => ?_)
    refine lv_iload_n C.1 C.2.1 dX0_touch_70 rfl (lv_at hl 1 rfl) ?_
    refine lv_aload_n C.1 C.2.1 dX0_touch_71 rfl (lv_at hl 0 rfl) ?_
    refine gf_X0_98 C hW k_x0 dX0_touch_72 ?_
    refine lv_ineg C.1 C.2.1 dX0_touch_75 ?_
    refine lv_iconst (v := (1 : Int32)) C.1 C.2.1 dX0_touch_76 (by decide) ?_
    refine lv_isub C.1 C.2.1 dX0_touch_77 ?_
    obtain ⟨g_14, hE⟩ := gd_e hE
    obtain ⟨h_15, eh_15, hE⟩ := nm_e2 hE
    refine y_iast C hW hZ k_r_13 g_14 eh_15 dX0_touch_78 (fun _ _ hW km hZ => ?_)
    replace hkm := hkm.tr km
    replace k_x0 := km.at k_x0 (by decide)
    refine lv_aload_n C.1 C.2.1 dX0_touch_79 rfl (lv_at hl 0 rfl) ?_
    refine lv_iload_n C.1 C.2.1 dX0_touch_80 rfl (lv_at hl 1 rfl) ?_
    obtain ⟨o_16, eo_16, hE⟩ := cl_e hE
    refine x_kV (o := o_16) (z_runV (As := [.int x1]) (rest := []) C (ct_X0_push l X k_x0 eo_16) cw_X0_209 hW hZ k_x0 (by decide) rfl rfl rfl hl.1 (Nat.le_of_ble_eq_true rfl) rfl dX0_touch_81 ⟨Nat.le_of_ble_eq_true rfl, Nat.le_of_ble_eq_true rfl⟩ ⟨Nat.le_refl _, Nat.le_refl _⟩) hZ (fun _ _ hW km hZ => ?_)
    replace hkm := hkm.tr km
    replace k_x0 := km.at k_x0 (by decide)
    exact x_vret C rfl hW hZ hkm hE dX0_touch_84
set_option maxRecDepth 20000 in
theorem bX0_touch_39 {p : Program} {l : Launch} {e : Env} {s : State} {m : MethodId} {args : Array Value} {below : List Frame} {meth : Method} {c : Code} {X : Ec} {h0 : Hp} {o : Hp} (C : Cx X p s m args meth c RX0 cX0_touch 3 none "touch") {h : Hp} {t0 : Int32} {t1 : Int32} {t2 : Int32} {t3 : Nat} {H : Heap} {locs : List Loc} (k_t3 : hK h t3 = 17) (hkm : Km h0 h) (hW : Wx X h H) (hZ : va_S (aA (eB X)) s.heap H locs) (ls : Array Slot) (hl : lv_has ls 3 []) (hE : sX0_touch_39 h  t0 t1 t2 t3 = some o) : W p l e (rm 1 21) s m args below meth c H locs 0 0 (MQ below (QV X h0 o) args s 0 0 (aA (eB X))) (F0 m 39 ls [.int t0, .int t1, .int t2, .ref t3]) := by
  refine lv_iadd C.1 C.2.1 dX0_touch_39 ?_
  obtain ⟨g_1, hE⟩ := gd_e hE
  obtain ⟨h_2, eh_2, hE⟩ := nm_e2 hE
  refine y_iast C hW hZ k_t3 g_1 eh_2 dX0_touch_40 (fun _ _ hW km hZ => ?_)
  replace hkm := hkm.tr km
  exact x_vret C rfl hW hZ hkm hE dX0_touch_41
set_option maxRecDepth 20000 in
theorem ct_X0_touch (l : Launch) (X : Ec) {h : Hp} {x0 : Nat} {x1 : Int32} {x2 : Int32} {o : Hp} (k_x0 : hK h x0 = 0) (hE : sX0_touch h x0 x1 x2 = some o) : MetV l yX0_touch cX0_touch 3 none 1 21 X [.ref x0, .int x1, .int x2] h o := by
  refine x_met (by decide) (Nat.le_of_ble_eq_true rfl) ?_
  intro p e s m below meth c ls C hl hW hZ
  have hl : lv_has ls 3 [(0, .ref x0), (1, .int x1), (2, .int x2)] := hl
  have hkm : Km h h := Km.rf h
  refine lv_aload_n C.1 C.2.1 dX0_touch_0 rfl (lv_at hl 0 rfl) ?_
  obtain ⟨r_1, er_1, hE⟩ := cl_e hE
  refine gf_X0_31 C hW k_x0 er_1 dX0_touch_1 (fun k_r_1 => ?_)
  refine lv_iload_n C.1 C.2.1 dX0_touch_4 rfl (lv_at hl 1 rfl) ?_
  obtain ⟨g_2, hE⟩ := gd_e hE
  refine y_iald C hW k_r_1 g_2 dX0_touch_5 ?_
  refine lv_ldc (v := (3000000 : Int32)) C.1 C.2.1 C.2.2.2.1 (C.2.2.2.2.1 _ m_1664) dX0_touch_6 ?_
  refine lv_icmp_eq (tgt := 12) C.1 C.2.1 dX0_touch_8 (by decide) (fun c_3 => ?_) (fun c_3 => ?_)
  · have hE := br_p hE c_3
    refine lv_aload_n C.1 C.2.1 dX0_touch_12 rfl (lv_at hl 0 rfl) ?_
    refine gf_X0_98 C hW k_x0 dX0_touch_13 ?_
    refine lv_ldc (v := (3000000 : Int32)) C.1 C.2.1 C.2.2.2.1 (C.2.2.2.2.1 _ m_1664) dX0_touch_16 ?_
    refine lv_icmp_ne (tgt := 42) C.1 C.2.1 dX0_touch_18 (by decide) (fun c_4 => ?_) (fun c_4 => ?_)
    · have hE := br_n hE c_4
      refine lv_iload_n C.1 C.2.1 dX0_touch_42 rfl (lv_at hl 2 rfl) ?_
      refine lv_if_ne (tgt := 59) C.1 C.2.1 dX0_touch_43 (by decide) (fun c_5 => ?_) (fun c_5 => ?_)
      · have hE := br_n hE c_5
        exact bX0_touch_59 C k_x0 hkm hW hZ _ (lv_sub hl [0, 1] rfl) hE
      · have hE := br_p hE c_5
        refine lv_aload_n C.1 C.2.1 dX0_touch_46 rfl (lv_at hl 0 rfl) ?_
        obtain ⟨r_6, er_6, hE⟩ := cl_e hE
        refine gf_X0_34 C hW k_x0 er_6 dX0_touch_47 (fun k_r_6 => ?_)
        refine lv_iload_n C.1 C.2.1 dX0_touch_50 rfl (lv_at hl 1 rfl) ?_
        obtain ⟨g_7, hE⟩ := gd_e hE
        refine y_iald C hW k_r_6 g_7 dX0_touch_51 ?_
        refine lv_ldc (v := (16777216 : Int32)) C.1 C.2.1 C.2.2.2.1 (C.2.2.2.2.1 _ m_1718) dX0_touch_52 ?_
        refine lv_iand C.1 C.2.1 dX0_touch_54 ?_
        refine lv_if_eq (tgt := 59) C.1 C.2.1 dX0_touch_55 (by decide) (fun c_8 => ?_) (fun c_8 => ?_)
        · have hE := br_p hE c_8
          exact bX0_touch_59 C k_x0 hkm hW hZ _ (lv_sub hl [0, 1] rfl) hE
        · have hE := br_n hE c_8
          exact x_vret C rfl hW hZ hkm hE dX0_touch_58
    · have hE := br_p hE c_4
      refine lv_aload_n C.1 C.2.1 dX0_touch_21 rfl (lv_at hl 0 rfl) ?_
      obtain ⟨r_9, er_9, hE⟩ := cl_e hE
      refine gf_X0_34 C hW k_x0 er_9 dX0_touch_22 (fun k_r_9 => ?_)
      refine lv_iload_n C.1 C.2.1 dX0_touch_25 rfl (lv_at hl 1 rfl) ?_
      refine lv_dup2_11 C.1 C.2.1 dX0_touch_26 rfl rfl ?_
      obtain ⟨g_10, hE⟩ := gd_e hE
      refine y_iald C hW k_r_9 g_10 dX0_touch_27 ?_
      refine lv_iload_n C.1 C.2.1 dX0_touch_28 rfl (lv_at hl 2 rfl) ?_
      refine lv_if_eq (tgt := 38) C.1 C.2.1 dX0_touch_29 (by decide) (fun c_11 => ?_) (fun c_11 => ?_)
      · have hE := br_p hE c_11
        refine lv_iconst (v := (1 : Int32)) C.1 C.2.1 dX0_touch_38 (by decide) ?_
        exact bX0_touch_39 C k_r_9 hkm hW hZ _ (lv_sub hl [] rfl) hE
      · have hE := br_n hE c_11
        refine lv_sipush (v := (4096 : Int32)) C.1 C.2.1 dX0_touch_32 (by decide) ?_
        refine lv_goto (tgt := 39) C.1 C.2.1 dX0_touch_35 (by decide) ?_
        exact bX0_touch_39 C k_r_9 hkm hW hZ _ (lv_sub hl [] rfl) hE
  · have hE := br_n hE c_3
    exact x_vret C rfl hW hZ hkm hE dX0_touch_11
set_option maxRecDepth 100000 in
theorem ms_108 : Cond.selects RX0 yX0_touch yX0_touch ∈ W0 := w0_in (List.mem_append_left _ (List.mem_of_getElem? (i := 108) rfl)) rfl
set_option maxRecDepth 100000 in
theorem ms_107 : Cond.selects RX0 yX0_weightOf yX0_weightOf ∈ W0 := w0_in (List.mem_append_left _ (List.mem_of_getElem? (i := 107) rfl)) rfl
set_option maxRecDepth 100000 in
theorem ms_106 : Cond.selects RX0 yX0_numberOf yX0_numberOf ∈ W0 := w0_in (List.mem_append_left _ (List.mem_of_getElem? (i := 106) rfl)) rfl
set_option maxRecDepth 100000 in
theorem ms_105 : Cond.selects RX0 yX0_findSet yX0_findSet ∈ W0 := w0_in (List.mem_append_left _ (List.mem_of_getElem? (i := 105) rfl)) rfl
set_option maxRecDepth 100000 in
theorem ms_104 : Cond.selects RX0 yX0_keyOfRow yX0_keyOfRow ∈ W0 := w0_in (List.mem_append_left _ (List.mem_of_getElem? (i := 104) rfl)) rfl
set_option maxRecDepth 100000 in
theorem ms_102 : Cond.selects RX0 yX0_gatherRow yX0_gatherRow ∈ W0 := w0_in (List.mem_append_left _ (List.mem_of_getElem? (i := 102) rfl)) rfl
set_option maxRecDepth 100000 in
theorem m_1689 : Cond.methodLink RX0 238 yX0_gatherRow ∈ W0 := w0_in (List.mem_append_right _ (List.mem_of_getElem? (i := 1689) rfl)) rfl
set_option maxRecDepth 100000 in
theorem m_1691 : Cond.instanceMethod yX0_gatherRow ∈ W0 := w0_in (List.mem_append_right _ (List.mem_of_getElem? (i := 1691) rfl)) rfl
set_option maxRecDepth 100000 in
theorem m_1692 : Cond.code yX0_gatherRow cX0_gatherRow 9 none ∈ W0 := w0_in (List.mem_append_right _ (List.mem_of_getElem? (i := 1692) rfl)) rfl
set_option maxRecDepth 100000 in
theorem m_1697 : Cond.methodLink RX0 242 yX0_keyOfRow ∈ W0 := w0_in (List.mem_append_right _ (List.mem_of_getElem? (i := 1697) rfl)) rfl
set_option maxRecDepth 100000 in
theorem m_1699 : Cond.instanceMethod yX0_keyOfRow ∈ W0 := w0_in (List.mem_append_right _ (List.mem_of_getElem? (i := 1699) rfl)) rfl
set_option maxRecDepth 100000 in
theorem m_1700 : Cond.code yX0_keyOfRow cX0_keyOfRow 3 (some .int) ∈ W0 := w0_in (List.mem_append_right _ (List.mem_of_getElem? (i := 1700) rfl)) rfl
set_option maxRecDepth 100000 in
theorem m_1701 : Cond.methodLink RX0 246 yX0_findSet ∈ W0 := w0_in (List.mem_append_right _ (List.mem_of_getElem? (i := 1701) rfl)) rfl
set_option maxRecDepth 100000 in
theorem m_1703 : Cond.instanceMethod yX0_findSet ∈ W0 := w0_in (List.mem_append_right _ (List.mem_of_getElem? (i := 1703) rfl)) rfl
set_option maxRecDepth 100000 in
theorem m_1704 : Cond.code yX0_findSet cX0_findSet 5 (some .int) ∈ W0 := w0_in (List.mem_append_right _ (List.mem_of_getElem? (i := 1704) rfl)) rfl
set_option maxRecDepth 100000 in
theorem m_1705 : Cond.methodLink RX0 249 yX0_numberOf ∈ W0 := w0_in (List.mem_append_right _ (List.mem_of_getElem? (i := 1705) rfl)) rfl
set_option maxRecDepth 100000 in
theorem m_1707 : Cond.instanceMethod yX0_numberOf ∈ W0 := w0_in (List.mem_append_right _ (List.mem_of_getElem? (i := 1707) rfl)) rfl
set_option maxRecDepth 100000 in
theorem m_1708 : Cond.code yX0_numberOf cX0_numberOf 6 (some .int) ∈ W0 := w0_in (List.mem_append_right _ (List.mem_of_getElem? (i := 1708) rfl)) rfl
set_option maxRecDepth 100000 in
theorem m_1709 : Cond.methodLink RX0 252 yX0_weightOf ∈ W0 := w0_in (List.mem_append_right _ (List.mem_of_getElem? (i := 1709) rfl)) rfl
set_option maxRecDepth 100000 in
theorem m_1711 : Cond.instanceMethod yX0_weightOf ∈ W0 := w0_in (List.mem_append_right _ (List.mem_of_getElem? (i := 1711) rfl)) rfl
set_option maxRecDepth 100000 in
theorem m_1712 : Cond.code yX0_weightOf cX0_weightOf 4 (some .int) ∈ W0 := w0_in (List.mem_append_right _ (List.mem_of_getElem? (i := 1712) rfl)) rfl
set_option maxRecDepth 100000 in
theorem m_1713 : Cond.methodLink RX0 255 yX10_origins ∈ W0 := w0_in (List.mem_append_right _ (List.mem_of_getElem? (i := 1713) rfl)) rfl
set_option maxRecDepth 100000 in
theorem m_1714 : Cond.methodLink RX0 261 yX0_touch ∈ W0 := w0_in (List.mem_append_right _ (List.mem_of_getElem? (i := 1714) rfl)) rfl
set_option maxRecDepth 100000 in
theorem m_1716 : Cond.instanceMethod yX0_touch ∈ W0 := w0_in (List.mem_append_right _ (List.mem_of_getElem? (i := 1716) rfl)) rfl
set_option maxRecDepth 100000 in
theorem m_1717 : Cond.code yX0_touch cX0_touch 3 none ∈ W0 := w0_in (List.mem_append_right _ (List.mem_of_getElem? (i := 1717) rfl)) rfl
section
variable {p : Program} {l : Launch} {e : Env} {R : Room} {s : State} {m : MethodId} {args : Array Value} {below : List Frame} {meth : Method} {c : Code} {H : Heap} {locs : List Loc} {cells slots : Nat} {Q : State → Prop}
variable {cc : ByteArray} {pc : Nat} {ls : Array Slot} {rest : List Value} {X : Ec} {h h1 : Hp} {nL : Nat} {rt : Option FieldType} {mn : String}
theorem gf_X0_44 {a r : Nat} (C : Cx X p s m args meth c RX0 cc nL rt mn) (hW : Wx X h H) (ha : hK h a = 0) (hr : hR h a 1 = some r) (hdg : decode cc pc = .ok (.getfield 44, 3)) (kk : hK h r = 10 → W p l e R s m args below meth c H locs cells slots Q (F0 m (pc + 3) ls (.ref r :: rest))) : W p l e R s m args below meth c H locs cells slots Q (F0 m pc ls (.ref a :: rest)) :=
  y_getr C hW ha i_X0 (by decide) rfl (by decide) m_458 rfl rfl hr hdg kk
end
theorem cw_X0_261 : cwd RX0 261 yX0_touch cX0_touch 3 none false 2 := ⟨m_1717, m_1714, m_13, ⟨m_1716, ms_108⟩, by decide, by decide, by decide +kernel⟩
theorem cw_X0_249 : cwd RX0 249 yX0_numberOf cX0_numberOf 6 (some .int) false 1 := ⟨m_1708, m_1705, m_13, ⟨m_1707, ms_106⟩, by decide, by decide, by decide +kernel⟩
theorem cw_X0_255 : cwd RX0 255 yX10_origins cX10_origins 18 (some .long) false 4 := ⟨m_1538, m_1713, m_6, ⟨m_1536, m_1537⟩, by decide, by decide, by decide +kernel⟩
theorem cw_X0_238 : cwd RX0 238 yX0_gatherRow cX0_gatherRow 9 none false 3 := ⟨m_1692, m_1689, m_13, ⟨m_1691, ms_102⟩, by decide, by decide, by decide +kernel⟩
theorem cw_X0_242 : cwd RX0 242 yX0_keyOfRow cX0_keyOfRow 3 (some .int) false 0 := ⟨m_1700, m_1697, m_13, ⟨m_1699, ms_104⟩, by decide, by decide, by decide +kernel⟩
theorem cw_X0_246 : cwd RX0 246 yX0_findSet cX0_findSet 5 (some .int) false 1 := ⟨m_1704, m_1701, m_13, ⟨m_1703, ms_105⟩, by decide, by decide, by decide +kernel⟩
theorem cw_X0_252 : cwd RX0 252 yX0_weightOf cX0_weightOf 4 (some .int) false 1 := ⟨m_1712, m_1709, m_13, ⟨m_1711, ms_107⟩, by decide, by decide, by decide +kernel⟩
theorem dX0_takeBackTaking_0 : decode cX0_takeBackTaking 0 = .ok (.aload_n 0, 1) := by decide +kernel
theorem dX0_takeBackTaking_1 : decode cX0_takeBackTaking 1 = .ok (.aload_n 0, 1) := by decide +kernel
theorem dX0_takeBackTaking_2 : decode cX0_takeBackTaking 2 = .ok (.getfield 14, 3) := by decide +kernel
theorem dX0_takeBackTaking_5 : decode cX0_takeBackTaking 5 = .ok (.iload_n 1, 1) := by decide +kernel
theorem dX0_takeBackTaking_6 : decode cX0_takeBackTaking 6 = .ok (.iload_n 3, 1) := by decide +kernel
theorem dX0_takeBackTaking_7 : decode cX0_takeBackTaking 7 = .ok (.invokevirtual 238, 3) := by decide +kernel
theorem dX0_takeBackTaking_10 : decode cX0_takeBackTaking 10 = .ok (.aload_n 0, 1) := by decide +kernel
theorem dX0_takeBackTaking_11 : decode cX0_takeBackTaking 11 = .ok (.aload_n 0, 1) := by decide +kernel
theorem dX0_takeBackTaking_12 : decode cX0_takeBackTaking 12 = .ok (.invokevirtual 242, 3) := by decide +kernel
theorem dX0_takeBackTaking_15 : decode cX0_takeBackTaking 15 = .ok (.iload_n 2, 1) := by decide +kernel
theorem dX0_takeBackTaking_16 : decode cX0_takeBackTaking 16 = .ok (.invokestatic 70, 3) := by decide +kernel
theorem dX0_takeBackTaking_19 : decode cX0_takeBackTaking 19 = .ok (.invokevirtual 246, 3) := by decide +kernel
theorem dX0_takeBackTaking_22 : decode cX0_takeBackTaking 22 = .ok (.istore 4, 2) := by decide +kernel
theorem dX0_takeBackTaking_24 : decode cX0_takeBackTaking 24 = .ok (.iload 4, 2) := by decide +kernel
theorem dX0_takeBackTaking_26 : decode cX0_takeBackTaking 26 = .ok (.iconst (-1), 1) := by decide +kernel
theorem dX0_takeBackTaking_27 : decode cX0_takeBackTaking 27 = .ok (.if_icmp .ne 4, 3) := by decide +kernel
theorem dX0_takeBackTaking_30 : decode cX0_takeBackTaking 30 = .ok (.return_, 1) := by decide +kernel
theorem dX0_takeBackTaking_31 : decode cX0_takeBackTaking 31 = .ok (.aload_n 0, 1) := by decide +kernel
theorem dX0_takeBackTaking_32 : decode cX0_takeBackTaking 32 = .ok (.getfield 22, 3) := by decide +kernel
theorem dX0_takeBackTaking_35 : decode cX0_takeBackTaking 35 = .ok (.iload 4, 2) := by decide +kernel
theorem dX0_takeBackTaking_37 : decode cX0_takeBackTaking 37 = .ok (.iaload, 1) := by decide +kernel
theorem dX0_takeBackTaking_38 : decode cX0_takeBackTaking 38 = .ok (.iload_n 2, 1) := by decide +kernel
theorem dX0_takeBackTaking_39 : decode cX0_takeBackTaking 39 = .ok (.iconst 1, 1) := by decide +kernel
theorem dX0_takeBackTaking_40 : decode cX0_takeBackTaking 40 = .ok (.iand, 1) := by decide +kernel
theorem dX0_takeBackTaking_41 : decode cX0_takeBackTaking 41 = .ok (.iadd, 1) := by decide +kernel
theorem dX0_takeBackTaking_42 : decode cX0_takeBackTaking 42 = .ok (.istore 5, 2) := by decide +kernel
theorem dX0_takeBackTaking_44 : decode cX0_takeBackTaking 44 = .ok (.aload_n 0, 1) := by decide +kernel
theorem dX0_takeBackTaking_45 : decode cX0_takeBackTaking 45 = .ok (.iload_n 2, 1) := by decide +kernel
theorem dX0_takeBackTaking_46 : decode cX0_takeBackTaking 46 = .ok (.bipush 6, 2) := by decide +kernel
theorem dX0_takeBackTaking_48 : decode cX0_takeBackTaking 48 = .ok (.ishl, 1) := by decide +kernel
theorem dX0_takeBackTaking_49 : decode cX0_takeBackTaking 49 = .ok (.invokevirtual 249, 3) := by decide +kernel
theorem dX0_takeBackTaking_52 : decode cX0_takeBackTaking 52 = .ok (.istore 6, 2) := by decide +kernel
theorem dX0_takeBackTaking_54 : decode cX0_takeBackTaking 54 = .ok (.aload_n 0, 1) := by decide +kernel
theorem dX0_takeBackTaking_55 : decode cX0_takeBackTaking 55 = .ok (.iload_n 2, 1) := by decide +kernel
theorem dX0_takeBackTaking_56 : decode cX0_takeBackTaking 56 = .ok (.invokevirtual 252, 3) := by decide +kernel
theorem dX0_takeBackTaking_59 : decode cX0_takeBackTaking 59 = .ok (.istore 7, 2) := by decide +kernel
theorem dX0_takeBackTaking_61 : decode cX0_takeBackTaking 61 = .ok (.aload_n 0, 1) := by decide +kernel
theorem dX0_takeBackTaking_62 : decode cX0_takeBackTaking 62 = .ok (.getfield 44, 3) := by decide +kernel
theorem dX0_takeBackTaking_65 : decode cX0_takeBackTaking 65 = .ok (.iload_n 2, 1) := by decide +kernel
theorem dX0_takeBackTaking_66 : decode cX0_takeBackTaking 66 = .ok (.iload_n 1, 1) := by decide +kernel
theorem dX0_takeBackTaking_67 : decode cX0_takeBackTaking 67 = .ok (.iload_n 3, 1) := by decide +kernel
theorem dX0_takeBackTaking_68 : decode cX0_takeBackTaking 68 = .ok (.iconst (-1), 1) := by decide +kernel
theorem dX0_takeBackTaking_69 : decode cX0_takeBackTaking 69 = .ok (.if_icmp .eq 7, 3) := by decide +kernel
theorem dX0_takeBackTaking_72 : decode cX0_takeBackTaking 72 = .ok (.iconst 1, 1) := by decide +kernel
theorem dX0_takeBackTaking_73 : decode cX0_takeBackTaking 73 = .ok (.goto 4, 3) := by decide +kernel
theorem dX0_takeBackTaking_76 : decode cX0_takeBackTaking 76 = .ok (.iconst 0, 1) := by decide +kernel
theorem dX0_takeBackTaking_77 : decode cX0_takeBackTaking 77 = .ok (.aload_n 0, 1) := by decide +kernel
theorem dX0_takeBackTaking_78 : decode cX0_takeBackTaking 78 = .ok (.getfield 14, 3) := by decide +kernel
theorem dX0_takeBackTaking_81 : decode cX0_takeBackTaking 81 = .ok (.invokevirtual 157, 3) := by decide +kernel
theorem dX0_takeBackTaking_84 : decode cX0_takeBackTaking 84 = .ok (.invokevirtual 255, 3) := by decide +kernel
theorem dX0_takeBackTaking_87 : decode cX0_takeBackTaking 87 = .ok (.lstore 8, 2) := by decide +kernel
theorem dX0_takeBackTaking_89 : decode cX0_takeBackTaking 89 = .ok (.iconst 0, 1) := by decide +kernel
theorem dX0_takeBackTaking_90 : decode cX0_takeBackTaking 90 = .ok (.istore 10, 2) := by decide +kernel
theorem dX0_takeBackTaking_92 : decode cX0_takeBackTaking 92 = .ok (.iload 10, 2) := by decide +kernel
theorem dX0_takeBackTaking_94 : decode cX0_takeBackTaking 94 = .ok (.bipush 64, 2) := by decide +kernel
theorem dX0_takeBackTaking_96 : decode cX0_takeBackTaking 96 = .ok (.if_icmp .ge 82, 3) := by decide +kernel
theorem dX0_takeBackTaking_99 : decode cX0_takeBackTaking 99 = .ok (.lload 8, 2) := by decide +kernel
theorem dX0_takeBackTaking_101 : decode cX0_takeBackTaking 101 = .ok (.lconst 0, 1) := by decide +kernel
theorem dX0_takeBackTaking_102 : decode cX0_takeBackTaking 102 = .ok (.lcmp, 1) := by decide +kernel
theorem dX0_takeBackTaking_103 : decode cX0_takeBackTaking 103 = .ok (.ifCond .eq 75, 3) := by decide +kernel
theorem dX0_takeBackTaking_106 : decode cX0_takeBackTaking 106 = .ok (.lload 8, 2) := by decide +kernel
theorem dX0_takeBackTaking_108 : decode cX0_takeBackTaking 108 = .ok (.invokestatic 161, 3) := by decide +kernel
theorem dX0_takeBackTaking_111 : decode cX0_takeBackTaking 111 = .ok (.istore 11, 2) := by decide +kernel
theorem dX0_takeBackTaking_113 : decode cX0_takeBackTaking 113 = .ok (.lload 8, 2) := by decide +kernel
theorem dX0_takeBackTaking_115 : decode cX0_takeBackTaking 115 = .ok (.lload 8, 2) := by decide +kernel
theorem dX0_takeBackTaking_117 : decode cX0_takeBackTaking 117 = .ok (.lconst 1, 1) := by decide +kernel
theorem dX0_takeBackTaking_118 : decode cX0_takeBackTaking 118 = .ok (.lsub, 1) := by decide +kernel
theorem dX0_takeBackTaking_119 : decode cX0_takeBackTaking 119 = .ok (.land, 1) := by decide +kernel
theorem dX0_takeBackTaking_120 : decode cX0_takeBackTaking 120 = .ok (.lstore 8, 2) := by decide +kernel
theorem dX0_takeBackTaking_122 : decode cX0_takeBackTaking 122 = .ok (.iload 7, 2) := by decide +kernel
theorem dX0_takeBackTaking_124 : decode cX0_takeBackTaking 124 = .ok (.ifCond .le 14, 3) := by decide +kernel
theorem dX0_takeBackTaking_127 : decode cX0_takeBackTaking 127 = .ok (.iload 6, 2) := by decide +kernel
theorem dX0_takeBackTaking_129 : decode cX0_takeBackTaking 129 = .ok (.iload 11, 2) := by decide +kernel
theorem dX0_takeBackTaking_131 : decode cX0_takeBackTaking 131 = .ok (.iload 7, 2) := by decide +kernel
theorem dX0_takeBackTaking_133 : decode cX0_takeBackTaking 133 = .ok (.imul, 1) := by decide +kernel
theorem dX0_takeBackTaking_134 : decode cX0_takeBackTaking 134 = .ok (.iadd, 1) := by decide +kernel
theorem dX0_takeBackTaking_135 : decode cX0_takeBackTaking 135 = .ok (.goto 14, 3) := by decide +kernel
theorem dX0_takeBackTaking_138 : decode cX0_takeBackTaking 138 = .ok (.aload_n 0, 1) := by decide +kernel
theorem dX0_takeBackTaking_139 : decode cX0_takeBackTaking 139 = .ok (.iload_n 2, 1) := by decide +kernel
theorem dX0_takeBackTaking_140 : decode cX0_takeBackTaking 140 = .ok (.bipush 6, 2) := by decide +kernel
theorem dX0_takeBackTaking_142 : decode cX0_takeBackTaking 142 = .ok (.ishl, 1) := by decide +kernel
theorem dX0_takeBackTaking_143 : decode cX0_takeBackTaking 143 = .ok (.iload 11, 2) := by decide +kernel
theorem dX0_takeBackTaking_145 : decode cX0_takeBackTaking 145 = .ok (.ior, 1) := by decide +kernel
theorem dX0_takeBackTaking_146 : decode cX0_takeBackTaking 146 = .ok (.invokevirtual 249, 3) := by decide +kernel
theorem dX0_takeBackTaking_149 : decode cX0_takeBackTaking 149 = .ok (.istore 12, 2) := by decide +kernel
theorem dX0_takeBackTaking_151 : decode cX0_takeBackTaking 151 = .ok (.aload_n 0, 1) := by decide +kernel
theorem dX0_takeBackTaking_152 : decode cX0_takeBackTaking 152 = .ok (.iload 5, 2) := by decide +kernel
theorem dX0_takeBackTaking_154 : decode cX0_takeBackTaking 154 = .ok (.iconst 2, 1) := by decide +kernel
theorem dX0_takeBackTaking_155 : decode cX0_takeBackTaking 155 = .ok (.iload 12, 2) := by decide +kernel
theorem dX0_takeBackTaking_157 : decode cX0_takeBackTaking 157 = .ok (.imul, 1) := by decide +kernel
theorem dX0_takeBackTaking_158 : decode cX0_takeBackTaking 158 = .ok (.iadd, 1) := by decide +kernel
theorem dX0_takeBackTaking_159 : decode cX0_takeBackTaking 159 = .ok (.iload_n 3, 1) := by decide +kernel
theorem dX0_takeBackTaking_160 : decode cX0_takeBackTaking 160 = .ok (.iconst (-1), 1) := by decide +kernel
theorem dX0_takeBackTaking_161 : decode cX0_takeBackTaking 161 = .ok (.if_icmp .eq 7, 3) := by decide +kernel
theorem dX0_takeBackTaking_164 : decode cX0_takeBackTaking 164 = .ok (.iconst 1, 1) := by decide +kernel
theorem dX0_takeBackTaking_165 : decode cX0_takeBackTaking 165 = .ok (.goto 4, 3) := by decide +kernel
theorem dX0_takeBackTaking_168 : decode cX0_takeBackTaking 168 = .ok (.iconst 0, 1) := by decide +kernel
theorem dX0_takeBackTaking_169 : decode cX0_takeBackTaking 169 = .ok (.invokevirtual 261, 3) := by decide +kernel
theorem dX0_takeBackTaking_172 : decode cX0_takeBackTaking 172 = .ok (.iinc 10 1, 3) := by decide +kernel
theorem dX0_takeBackTaking_175 : decode cX0_takeBackTaking 175 = .ok (.goto (-83), 3) := by decide +kernel
theorem dX0_takeBackTaking_178 : decode cX0_takeBackTaking 178 = .ok (.return_, 1) := by decide +kernel
set_option maxRecDepth 20000 in
theorem moX0_takeBackTaking_178 {o : Hp} {F : Nat} {h : Hp} (hE : sX0_takeBackTaking_178 F h  = some o) : Le h o := by
  exact le_some1 hE
set_option maxRecDepth 20000 in
theorem moX0_takeBackTaking_169 {o : Hp} {k_92 : Hp → Nat → Int32 → Int32 → Int32 → Int32 → Int32 → Int64 → Int32 → Option (Hp)} {F : Nat} (mk_92 : ∀ (h : Hp) (x0 : Nat) (x2 : Int32) (x3 : Int32) (x5 : Int32) (x6 : Int32) (x7 : Int32) (x8 : Int64) (x10 : Int32), k_92 h x0 x2 x3 x5 x6 x7 x8 x10 = some o → Le h o) {h : Hp} {x0 : Nat} {x2 : Int32} {x3 : Int32} {x5 : Int32} {x6 : Int32} {x7 : Int32} {x8 : Int64} {x10 : Int32} {t0 : Int32} {t1 : Int32} {t2 : Nat} (hE : sX0_takeBackTaking_169 F k_92 h x0 x2 x3 x5 x6 x7 x8 x10 t0 t1 t2 = some o) : Le h o := by
  obtain ⟨o_1, eo_1, hE⟩ := cl_e hE
  refine (moX0_touch eo_1).tr ?_
  obtain ⟨v_2, ev_2, hE⟩ := nm_e2 hE
  exact mk_92 _ _ _ _ _ _ _ _ _ hE
set_option maxRecDepth 20000 in
theorem moX0_takeBackTaking_149 {o : Hp} {k_92 : Hp → Nat → Int32 → Int32 → Int32 → Int32 → Int32 → Int64 → Int32 → Option (Hp)} {F : Nat} (mk_92 : ∀ (h : Hp) (x0 : Nat) (x2 : Int32) (x3 : Int32) (x5 : Int32) (x6 : Int32) (x7 : Int32) (x8 : Int64) (x10 : Int32), k_92 h x0 x2 x3 x5 x6 x7 x8 x10 = some o → Le h o) {h : Hp} {x0 : Nat} {x2 : Int32} {x3 : Int32} {x5 : Int32} {x6 : Int32} {x7 : Int32} {x8 : Int64} {x10 : Int32} {t0 : Int32} (hE : sX0_takeBackTaking_149 F k_92 h x0 x2 x3 x5 x6 x7 x8 x10 t0 = some o) : Le h o := by
  rcases br_e hE with ⟨_, hE⟩ | ⟨_, hE⟩
  · exact moX0_takeBackTaking_169 mk_92 hE
  · exact moX0_takeBackTaking_169 mk_92 hE
set_option maxRecDepth 20000 in
theorem moX0_takeBackTaking_92 {o : Hp} {F : Nat} : ∀ (f : Nat) {h : Hp} {x0 : Nat} {x2 : Int32} {x3 : Int32} {x5 : Int32} {x6 : Int32} {x7 : Int32} {x8 : Int64} {x10 : Int32}, sX0_takeBackTaking_92 F f h x0 x2 x3 x5 x6 x7 x8 x10 = some o → Le h o := by
  intro f
  induction f with
  | zero =>
    intro h x0 x2 x3 x5 x6 x7 x8 x10 hE
    rw [sX0_takeBackTaking_92] at hE
    cases hE
  | succ f ih =>
    intro h x0 x2 x3 x5 x6 x7 x8 x10 hE
    rw [sX0_takeBackTaking_92] at hE
    have mk_92 : ∀ (h : Hp) (x0 : Nat) (x2 : Int32) (x3 : Int32) (x5 : Int32) (x6 : Int32) (x7 : Int32) (x8 : Int64) (x10 : Int32), sX0_takeBackTaking_92 F f h x0 x2 x3 x5 x6 x7 x8 x10 = some o → Le h o := fun h x0 x2 x3 x5 x6 x7 x8 x10 hE => ih hE
    rcases br_e hE with ⟨_, hE⟩ | ⟨_, hE⟩
    · exact moX0_takeBackTaking_178 hE
    · rcases br_e hE with ⟨_, hE⟩ | ⟨_, hE⟩
      · exact moX0_takeBackTaking_178 hE
      · obtain ⟨o_3, eo_3, hE⟩ := cl_e hE
        refine (moX11_lowest eo_3).tr ?_
        obtain ⟨v_4, ev_4, hE⟩ := nm_e2 hE
        rcases br_e hE with ⟨_, hE⟩ | ⟨_, hE⟩
        · obtain ⟨o_6, eo_6, hE⟩ := cl_e hE
          refine (moX0_numberOf eo_6).tr ?_
          exact moX0_takeBackTaking_149 mk_92 hE
        · exact moX0_takeBackTaking_149 mk_92 hE
set_option maxRecDepth 20000 in
theorem moX0_takeBackTaking_77 {o : Hp} {F : Nat} {h : Hp} {x0 : Nat} {x2 : Int32} {x3 : Int32} {x5 : Int32} {x6 : Int32} {x7 : Int32} {t0 : Int32} {t1 : Int32} {t2 : Int32} {t3 : Nat} (hE : sX0_takeBackTaking_77 F h x0 x2 x3 x5 x6 x7 t0 t1 t2 t3 = some o) : Le h o := by
  obtain ⟨r_1, er_1, hE⟩ := cl_e hE
  obtain ⟨o_2, eo_2, hE⟩ := cl_e hE
  refine (moX3_occupied eo_2).tr ?_
  obtain ⟨o_3, eo_3, hE⟩ := cl_e hE
  refine (moX10_origins eo_3).tr ?_
  exact moX0_takeBackTaking_92 _ hE
set_option maxRecDepth 20000 in
theorem moX0_takeBackTaking {o : Hp} {F : Nat} {h : Hp} {x0 : Nat} {x1 : Int32} {x2 : Int32} {x3 : Int32} (hE : sX0_takeBackTaking F h x0 x1 x2 x3 = some o) : Le h o := by
  obtain ⟨r_1, er_1, hE⟩ := cl_e hE
  obtain ⟨o_2, eo_2, hE⟩ := cl_e hE
  refine (moX0_gatherRow eo_2).tr ?_
  obtain ⟨o_3, eo_3, hE⟩ := cl_e hE
  refine (moX0_keyOfRow eo_3).tr ?_
  obtain ⟨o_4, eo_4, hE⟩ := cl_e hE
  refine (moX0_with eo_4).tr ?_
  obtain ⟨o_5, eo_5, hE⟩ := cl_e hE
  refine (moX0_findSet eo_5).tr ?_
  rcases br_e hE with ⟨_, hE⟩ | ⟨_, hE⟩
  · exact le_some1 hE
  · obtain ⟨r_7, er_7, hE⟩ := cl_e hE
    obtain ⟨g_8, hE⟩ := gd_e hE
    obtain ⟨v_9, ev_9, hE⟩ := nm_e2 hE
    obtain ⟨o_10, eo_10, hE⟩ := cl_e hE
    refine (moX0_numberOf eo_10).tr ?_
    obtain ⟨o_11, eo_11, hE⟩ := cl_e hE
    refine (moX0_weightOf eo_11).tr ?_
    obtain ⟨r_12, er_12, hE⟩ := cl_e hE
    rcases br_e hE with ⟨_, hE⟩ | ⟨_, hE⟩
    · exact moX0_takeBackTaking_77 hE
    · exact moX0_takeBackTaking_77 hE
set_option maxRecDepth 20000 in
theorem bX0_takeBackTaking_178 {p : Program} {l : Launch} {e : Env} {s : State} {m : MethodId} {args : Array Value} {below : List Frame} {meth : Method} {c : Code} {X : Ec} {h0 : Hp} {o : Hp} {F : Nat} (C : Cx X p s m args meth c RX0 cX0_takeBackTaking 13 none "takeBackTaking") {h : Hp} {H : Heap} {locs : List Loc} (hkm : Km h0 h) (hW : Wx X h H) (hZ : va_S (aA (eB X)) s.heap H locs) (ls : Array Slot) (hl : lv_has ls 13 []) (hE : sX0_takeBackTaking_178 F h  = some o) : W p l e (rm 2 62) s m args below meth c H locs 0 0 (MQ below (QV X h0 o) args s 0 0 (aA (eB X))) (F0 m 178 ls []) := by
  exact x_vret C rfl hW hZ hkm hE dX0_takeBackTaking_178
set_option maxRecDepth 20000 in
theorem bX0_takeBackTaking_169 {p : Program} {l : Launch} {e : Env} {s : State} {m : MethodId} {args : Array Value} {below : List Frame} {meth : Method} {c : Code} {X : Ec} {h0 : Hp} {o : Hp} {k_92 : Hp → Nat → Int32 → Int32 → Int32 → Int32 → Int32 → Int64 → Int32 → Option (Hp)} {F : Nat} (C : Cx X p s m args meth c RX0 cX0_takeBackTaking 13 none "takeBackTaking") (hk_92 : ∀ (h : Hp) (x0 : Nat) (x2 : Int32) (x3 : Int32) (x5 : Int32) (x6 : Int32) (x7 : Int32) (x8 : Int64) (x10 : Int32) (H : Heap) (locs : List Loc), hK h x0 = 0 → Km h0 h → Wx X h H → va_S (aA (eB X)) s.heap H locs → ∀ (ls : Array Slot), lv_has ls 13 [(0, .ref x0), (2, .int x2), (3, .int x3), (5, .int x5), (6, .int x6), (7, .int x7), (8, .long x8), (10, .int x10)] → k_92 h x0 x2 x3 x5 x6 x7 x8 x10 = some o → W p l e (rm 2 62) s m args below meth c H locs 0 0 (MQ below (QV X h0 o) args s 0 0 (aA (eB X))) (F0 m 92 ls [])) {h : Hp} {x0 : Nat} {x2 : Int32} {x3 : Int32} {x5 : Int32} {x6 : Int32} {x7 : Int32} {x8 : Int64} {x10 : Int32} {t0 : Int32} {t1 : Int32} {t2 : Nat} {H : Heap} {locs : List Loc} (k_x0 : hK h x0 = 0) (k_t2 : hK h t2 = 0) (hkm : Km h0 h) (hW : Wx X h H) (hZ : va_S (aA (eB X)) s.heap H locs) (ls : Array Slot) (hl : lv_has ls 13 [(0, .ref x0), (2, .int x2), (3, .int x3), (5, .int x5), (6, .int x6), (7, .int x7), (8, .long x8), (10, .int x10)]) (hE : sX0_takeBackTaking_169 F k_92 h x0 x2 x3 x5 x6 x7 x8 x10 t0 t1 t2 = some o) : W p l e (rm 2 62) s m args below meth c H locs 0 0 (MQ below (QV X h0 o) args s 0 0 (aA (eB X))) (F0 m 169 ls [.int t0, .int t1, .ref t2]) := by
  obtain ⟨o_1, eo_1, hE⟩ := cl_e hE
  refine x_kV (o := o_1) (z_runV (As := [.int t1, .int t0]) (rest := []) C (ct_X0_touch l X k_t2 eo_1) cw_X0_261 hW hZ k_t2 (by decide) rfl rfl rfl hl.1 (Nat.le_of_ble_eq_true rfl) rfl dX0_takeBackTaking_169 ⟨Nat.le_of_ble_eq_true rfl, Nat.le_of_ble_eq_true rfl⟩ ⟨Nat.le_refl _, Nat.le_refl _⟩) hZ (fun _ _ hW km hZ => ?_)
  replace hkm := hkm.tr km
  replace k_x0 := km.at k_x0 (by decide)
  obtain ⟨v_2, ev_2, hE⟩ := nm_e2 hE
  refine lv_iinc (v := v_2) (lv' := [(10, .int v_2), (0, .ref x0), (2, .int x2), (3, .int x3), (5, .int x5), (6, .int x6), (7, .int x7), (8, .long x8)]) C.1 C.2.1 dX0_takeBackTaking_172 hl (k := 7) rfl (by rw [ev_2]; rfl) (by decide) rfl (fun ls hl => ?_)
  refine lv_goto (tgt := 92) C.1 C.2.1 dX0_takeBackTaking_175 (by decide) ?_
  exact hk_92 _ _ _ _ _ _ _ _ _ _ _ k_x0 hkm hW hZ _ (lv_sub hl [1, 2, 3, 4, 5, 6, 7, 0] rfl) hE
set_option maxRecDepth 20000 in
theorem bX0_takeBackTaking_149 {p : Program} {l : Launch} {e : Env} {s : State} {m : MethodId} {args : Array Value} {below : List Frame} {meth : Method} {c : Code} {X : Ec} {h0 : Hp} {o : Hp} {k_92 : Hp → Nat → Int32 → Int32 → Int32 → Int32 → Int32 → Int64 → Int32 → Option (Hp)} {F : Nat} (C : Cx X p s m args meth c RX0 cX0_takeBackTaking 13 none "takeBackTaking") (hk_92 : ∀ (h : Hp) (x0 : Nat) (x2 : Int32) (x3 : Int32) (x5 : Int32) (x6 : Int32) (x7 : Int32) (x8 : Int64) (x10 : Int32) (H : Heap) (locs : List Loc), hK h x0 = 0 → Km h0 h → Wx X h H → va_S (aA (eB X)) s.heap H locs → ∀ (ls : Array Slot), lv_has ls 13 [(0, .ref x0), (2, .int x2), (3, .int x3), (5, .int x5), (6, .int x6), (7, .int x7), (8, .long x8), (10, .int x10)] → k_92 h x0 x2 x3 x5 x6 x7 x8 x10 = some o → W p l e (rm 2 62) s m args below meth c H locs 0 0 (MQ below (QV X h0 o) args s 0 0 (aA (eB X))) (F0 m 92 ls [])) {h : Hp} {x0 : Nat} {x2 : Int32} {x3 : Int32} {x5 : Int32} {x6 : Int32} {x7 : Int32} {x8 : Int64} {x10 : Int32} {t0 : Int32} {H : Heap} {locs : List Loc} (k_x0 : hK h x0 = 0) (hkm : Km h0 h) (hW : Wx X h H) (hZ : va_S (aA (eB X)) s.heap H locs) (ls : Array Slot) (hl : lv_has ls 13 [(0, .ref x0), (2, .int x2), (3, .int x3), (5, .int x5), (6, .int x6), (7, .int x7), (8, .long x8), (10, .int x10)]) (hE : sX0_takeBackTaking_149 F k_92 h x0 x2 x3 x5 x6 x7 x8 x10 t0 = some o) : W p l e (rm 2 62) s m args below meth c H locs 0 0 (MQ below (QV X h0 o) args s 0 0 (aA (eB X))) (F0 m 149 ls [.int t0]) := by
  refine lv_istore (lv' := [(12, .int t0), (0, .ref x0), (2, .int x2), (3, .int x3), (5, .int x5), (6, .int x6), (7, .int x7), (8, .long x8), (10, .int x10)]) C.1 C.2.1 dX0_takeBackTaking_149 hl (by decide) rfl (fun ls hl => ?_)
  refine lv_aload_n C.1 C.2.1 dX0_takeBackTaking_151 rfl (lv_at hl 1 rfl) ?_
  refine lv_iload C.1 C.2.1 dX0_takeBackTaking_152 (lv_at hl 4 rfl) ?_
  refine lv_iconst (v := (2 : Int32)) C.1 C.2.1 dX0_takeBackTaking_154 (by decide) ?_
  refine lv_iload C.1 C.2.1 dX0_takeBackTaking_155 (lv_at hl 0 rfl) ?_
  refine lv_imul C.1 C.2.1 dX0_takeBackTaking_157 ?_
  refine lv_iadd C.1 C.2.1 dX0_takeBackTaking_158 ?_
  refine lv_iload_n C.1 C.2.1 dX0_takeBackTaking_159 rfl (lv_at hl 3 rfl) ?_
  refine lv_iconst (v := (-1 : Int32)) C.1 C.2.1 dX0_takeBackTaking_160 (by decide) ?_
  refine lv_icmp_eq (tgt := 168) C.1 C.2.1 dX0_takeBackTaking_161 (by decide) (fun c_1 => ?_) (fun c_1 => ?_)
  · have hE := br_p hE c_1
    refine lv_iconst (v := (0 : Int32)) C.1 C.2.1 dX0_takeBackTaking_168 (by decide) ?_
    exact bX0_takeBackTaking_169 C hk_92 k_x0 k_x0 hkm hW hZ _ (lv_sub hl [1, 2, 3, 4, 5, 6, 7, 8] rfl) hE
  · have hE := br_n hE c_1
    refine lv_iconst (v := (1 : Int32)) C.1 C.2.1 dX0_takeBackTaking_164 (by decide) ?_
    refine lv_goto (tgt := 169) C.1 C.2.1 dX0_takeBackTaking_165 (by decide) ?_
    exact bX0_takeBackTaking_169 C hk_92 k_x0 k_x0 hkm hW hZ _ (lv_sub hl [1, 2, 3, 4, 5, 6, 7, 8] rfl) hE
set_option maxRecDepth 20000 in
theorem bX0_takeBackTaking_92 {p : Program} {l : Launch} {e : Env} {s : State} {m : MethodId} {args : Array Value} {below : List Frame} {meth : Method} {c : Code} {X : Ec} {h0 : Hp} {o : Hp} {F : Nat} (C : Cx X p s m args meth c RX0 cX0_takeBackTaking 13 none "takeBackTaking") : ∀ (f : Nat) {h : Hp} {x0 : Nat} {x2 : Int32} {x3 : Int32} {x5 : Int32} {x6 : Int32} {x7 : Int32} {x8 : Int64} {x10 : Int32} {H : Heap} {locs : List Loc} (k_x0 : hK h x0 = 0), Km h0 h → Wx X h H → va_S (aA (eB X)) s.heap H locs → ∀ (ls : Array Slot), lv_has ls 13 [(0, .ref x0), (2, .int x2), (3, .int x3), (5, .int x5), (6, .int x6), (7, .int x7), (8, .long x8), (10, .int x10)] → sX0_takeBackTaking_92 F f h x0 x2 x3 x5 x6 x7 x8 x10 = some o → W p l e (rm 2 62) s m args below meth c H locs 0 0 (MQ below (QV X h0 o) args s 0 0 (aA (eB X))) (F0 m 92 ls []) := by
  intro f
  induction f with
  | zero =>
    intro h x0 x2 x3 x5 x6 x7 x8 x10 H locs k_x0 hkm hW hZ ls hl hE
    rw [sX0_takeBackTaking_92] at hE
    cases hE
  | succ f ih =>
    intro h x0 x2 x3 x5 x6 x7 x8 x10 H locs k_x0 hkm hW hZ ls hl hE
    rw [sX0_takeBackTaking_92] at hE
    have hk_92 : ∀ (h : Hp) (x0 : Nat) (x2 : Int32) (x3 : Int32) (x5 : Int32) (x6 : Int32) (x7 : Int32) (x8 : Int64) (x10 : Int32) (H : Heap) (locs : List Loc), hK h x0 = 0 → Km h0 h → Wx X h H → va_S (aA (eB X)) s.heap H locs → ∀ (ls : Array Slot), lv_has ls 13 [(0, .ref x0), (2, .int x2), (3, .int x3), (5, .int x5), (6, .int x6), (7, .int x7), (8, .long x8), (10, .int x10)] → sX0_takeBackTaking_92 F f h x0 x2 x3 x5 x6 x7 x8 x10 = some o → W p l e (rm 2 62) s m args below meth c H locs 0 0 (MQ below (QV X h0 o) args s 0 0 (aA (eB X))) (F0 m 92 ls []) := fun h x0 x2 x3 x5 x6 x7 x8 x10 H locs k_x0 a b c ls hl hE => ih k_x0 a b c ls hl hE
    refine lv_iload C.1 C.2.1 dX0_takeBackTaking_92 (lv_at hl 7 rfl) ?_
    refine lv_bipush (v := (64 : Int32)) C.1 C.2.1 dX0_takeBackTaking_94 (by decide) ?_
    refine lv_icmp_ge (tgt := 178) C.1 C.2.1 dX0_takeBackTaking_96 (by decide) (fun c_1 => ?_) (fun c_1 => ?_)
    · have hE := br_p hE c_1
      exact bX0_takeBackTaking_178 C hkm hW hZ _ (lv_sub hl [] rfl) hE
    · have hE := br_n hE c_1
      refine lv_lload C.1 C.2.1 dX0_takeBackTaking_99 (lv_at hl 6 rfl) ?_
      refine lv_lconst (v := (0 : Int64)) C.1 C.2.1 dX0_takeBackTaking_101 (by decide) ?_
      refine W.lcmp C.1 C.2.1 dX0_takeBackTaking_102 ?_
      refine lv_if_eq (tgt := 178) C.1 C.2.1 dX0_takeBackTaking_103 (by decide) (fun c_2 => ?_) (fun c_2 => ?_)
      · have hE := br_p hE c_2
        exact bX0_takeBackTaking_178 C hkm hW hZ _ (lv_sub hl [] rfl) hE
      · have hE := br_n hE c_2
        refine lv_lload C.1 C.2.1 dX0_takeBackTaking_106 (lv_at hl 6 rfl) ?_
        obtain ⟨o_3, eo_3, hE⟩ := cl_e hE
        refine x_kI (o := o_3) (x_runSN (As := [.long x8]) (rest := []) C (ct_X11_lowest l X eo_3) cn_X0_161 hW hZ rfl hl.1 (Nat.le_of_ble_eq_true rfl) rfl dX0_takeBackTaking_108 ⟨Nat.le_of_ble_eq_true rfl, Nat.le_of_ble_eq_true rfl⟩ ⟨Nat.le_refl _, Nat.le_refl _⟩) hZ (fun _ _ hW km hZ => ?_)
        replace hkm := hkm.tr km
        replace k_x0 := km.at k_x0 (by decide)
        refine lv_istore (lv' := [(11, .int o_3.1), (0, .ref x0), (2, .int x2), (3, .int x3), (5, .int x5), (6, .int x6), (7, .int x7), (8, .long x8), (10, .int x10)]) C.1 C.2.1 dX0_takeBackTaking_111 hl (by decide) rfl (fun ls hl => ?_)
        refine lv_lload C.1 C.2.1 dX0_takeBackTaking_113 (lv_at hl 7 rfl) ?_
        refine lv_lload C.1 C.2.1 dX0_takeBackTaking_115 (lv_at hl 7 rfl) ?_
        refine lv_lconst (v := (1 : Int64)) C.1 C.2.1 dX0_takeBackTaking_117 (by decide) ?_
        refine lv_lsub C.1 C.2.1 dX0_takeBackTaking_118 ?_
        refine lv_land C.1 C.2.1 dX0_takeBackTaking_119 ?_
        obtain ⟨v_4, ev_4, hE⟩ := nm_e2 hE
        refine x_nmJ ev_4 ?_
        refine lv_lstore (lv' := [(8, .long v_4), (11, .int o_3.1), (0, .ref x0), (2, .int x2), (3, .int x3), (5, .int x5), (6, .int x6), (7, .int x7), (10, .int x10)]) C.1 C.2.1 dX0_takeBackTaking_120 hl (by decide) rfl (fun ls hl => ?_)
        refine lv_iload C.1 C.2.1 dX0_takeBackTaking_122 (lv_at hl 7 rfl) ?_
        refine lv_if_le (tgt := 138) C.1 C.2.1 dX0_takeBackTaking_124 (by decide) (fun c_5 => ?_) (fun c_5 => ?_)
        · have hE := br_p hE c_5
          refine lv_aload_n C.1 C.2.1 dX0_takeBackTaking_138 rfl (lv_at hl 2 rfl) ?_
          refine lv_iload_n C.1 C.2.1 dX0_takeBackTaking_139 rfl (lv_at hl 3 rfl) ?_
          refine lv_bipush (v := (6 : Int32)) C.1 C.2.1 dX0_takeBackTaking_140 (by decide) ?_
          refine lv_ishl C.1 C.2.1 dX0_takeBackTaking_142 ?_
          refine lv_iload C.1 C.2.1 dX0_takeBackTaking_143 (lv_at hl 1 rfl) ?_
          refine lv_ior C.1 C.2.1 dX0_takeBackTaking_145 ?_
          obtain ⟨o_6, eo_6, hE⟩ := cl_e hE
          refine x_kI (o := o_6) (z_runV (As := [.int ((x2 <<< ((6 : Int32) &&& 31)) ||| o_3.1)]) (rest := []) C (ct_X0_numberOf l X F k_x0 eo_6) cw_X0_249 hW hZ k_x0 (by decide) rfl rfl rfl hl.1 (Nat.le_of_ble_eq_true rfl) rfl dX0_takeBackTaking_146 ⟨Nat.le_of_ble_eq_true rfl, Nat.le_of_ble_eq_true rfl⟩ ⟨Nat.le_refl _, Nat.le_refl _⟩) hZ (fun _ _ hW km hZ => ?_)
          replace hkm := hkm.tr km
          replace k_x0 := km.at k_x0 (by decide)
          exact bX0_takeBackTaking_149 C hk_92 k_x0 hkm hW hZ _ (lv_sub hl [2, 3, 4, 5, 6, 7, 0, 8] rfl) hE
        · have hE := br_n hE c_5
          refine lv_iload C.1 C.2.1 dX0_takeBackTaking_127 (lv_at hl 6 rfl) ?_
          refine lv_iload C.1 C.2.1 dX0_takeBackTaking_129 (lv_at hl 1 rfl) ?_
          refine lv_iload C.1 C.2.1 dX0_takeBackTaking_131 (lv_at hl 7 rfl) ?_
          refine lv_imul C.1 C.2.1 dX0_takeBackTaking_133 ?_
          refine lv_iadd C.1 C.2.1 dX0_takeBackTaking_134 ?_
          refine lv_goto (tgt := 149) C.1 C.2.1 dX0_takeBackTaking_135 (by decide) ?_
          exact bX0_takeBackTaking_149 C hk_92 k_x0 hkm hW hZ _ (lv_sub hl [2, 3, 4, 5, 6, 7, 0, 8] rfl) hE
set_option maxRecDepth 20000 in
theorem bX0_takeBackTaking_77 {p : Program} {l : Launch} {e : Env} {s : State} {m : MethodId} {args : Array Value} {below : List Frame} {meth : Method} {c : Code} {X : Ec} {h0 : Hp} {o : Hp} {F : Nat} (C : Cx X p s m args meth c RX0 cX0_takeBackTaking 13 none "takeBackTaking") {h : Hp} {x0 : Nat} {x2 : Int32} {x3 : Int32} {x5 : Int32} {x6 : Int32} {x7 : Int32} {t0 : Int32} {t1 : Int32} {t2 : Int32} {t3 : Nat} {H : Heap} {locs : List Loc} (k_x0 : hK h x0 = 0) (k_t3 : hK h t3 = 10) (hkm : Km h0 h) (hW : Wx X h H) (hZ : va_S (aA (eB X)) s.heap H locs) (ls : Array Slot) (hl : lv_has ls 13 [(0, .ref x0), (2, .int x2), (3, .int x3), (5, .int x5), (6, .int x6), (7, .int x7)]) (hE : sX0_takeBackTaking_77 F h x0 x2 x3 x5 x6 x7 t0 t1 t2 t3 = some o) : W p l e (rm 2 62) s m args below meth c H locs 0 0 (MQ below (QV X h0 o) args s 0 0 (aA (eB X))) (F0 m 77 ls [.int t0, .int t1, .int t2, .ref t3]) := by
  refine lv_aload_n C.1 C.2.1 dX0_takeBackTaking_77 rfl (lv_at hl 0 rfl) ?_
  obtain ⟨r_1, er_1, hE⟩ := cl_e hE
  refine gf_X0_14 C hW k_x0 er_1 dX0_takeBackTaking_78 (fun k_r_1 => ?_)
  obtain ⟨o_2, eo_2, hE⟩ := cl_e hE
  refine x_kJ (o := o_2) (z_runV (As := []) (rest := [.int t0, .int t1, .int t2, .ref t3]) C (ct_X3_occupied l X k_r_1 eo_2) cw_X0_157 hW hZ k_r_1 (by decide) rfl rfl rfl hl.1 (Nat.le_of_ble_eq_true rfl) rfl dX0_takeBackTaking_81 ⟨Nat.le_of_ble_eq_true rfl, Nat.le_of_ble_eq_true rfl⟩ ⟨Nat.le_refl _, Nat.le_refl _⟩) hZ (fun _ _ hW km hZ => ?_)
  replace hkm := hkm.tr km
  replace k_x0 := km.at k_x0 (by decide)
  replace k_t3 := km.at k_t3 (by decide)
  obtain ⟨o_3, eo_3, hE⟩ := cl_e hE
  refine x_kJ (o := o_3) (z_runV (As := [.int t2, .int t1, .int t0, .long o_2.1]) (rest := []) C (ct_X10_origins l X F k_t3 eo_3) cw_X0_255 hW hZ k_t3 (by decide) rfl rfl rfl hl.1 (Nat.le_of_ble_eq_true rfl) rfl dX0_takeBackTaking_84 ⟨Nat.le_of_ble_eq_true rfl, Nat.le_of_ble_eq_true rfl⟩ ⟨Nat.le_refl _, Nat.le_refl _⟩) hZ (fun _ _ hW km hZ => ?_)
  replace hkm := hkm.tr km
  replace k_x0 := km.at k_x0 (by decide)
  refine lv_lstore (lv' := [(8, .long o_3.1), (0, .ref x0), (2, .int x2), (3, .int x3), (5, .int x5), (6, .int x6), (7, .int x7)]) C.1 C.2.1 dX0_takeBackTaking_87 hl (by decide) rfl (fun ls hl => ?_)
  refine lv_iconst (v := (0 : Int32)) C.1 C.2.1 dX0_takeBackTaking_89 (by decide) ?_
  refine lv_istore (lv' := [(10, .int (0 : Int32)), (8, .long o_3.1), (0, .ref x0), (2, .int x2), (3, .int x3), (5, .int x5), (6, .int x6), (7, .int x7)]) C.1 C.2.1 dX0_takeBackTaking_90 hl (by decide) rfl (fun ls hl => ?_)
  exact bX0_takeBackTaking_92 C F k_x0 hkm hW hZ _ (lv_sub hl [2, 3, 4, 5, 6, 7, 1, 0] rfl) hE
set_option maxRecDepth 20000 in
theorem ct_X0_takeBackTaking (l : Launch) (X : Ec) (F : Nat) {h : Hp} {x0 : Nat} {x1 : Int32} {x2 : Int32} {x3 : Int32} {o : Hp} (k_x0 : hK h x0 = 0) (hE : sX0_takeBackTaking F h x0 x1 x2 x3 = some o) : MetV l yX0_takeBackTaking cX0_takeBackTaking 13 none 2 62 X [.ref x0, .int x1, .int x2, .int x3] h o := by
  refine x_met (by decide) (Nat.le_of_ble_eq_true rfl) ?_
  intro p e s m below meth c ls C hl hW hZ
  have hl : lv_has ls 13 [(0, .ref x0), (1, .int x1), (2, .int x2), (3, .int x3)] := hl
  have hkm : Km h h := Km.rf h
  refine lv_aload_n C.1 C.2.1 dX0_takeBackTaking_0 rfl (lv_at hl 0 rfl) ?_
  refine lv_aload_n C.1 C.2.1 dX0_takeBackTaking_1 rfl (lv_at hl 0 rfl) ?_
  obtain ⟨r_1, er_1, hE⟩ := cl_e hE
  refine gf_X0_14 C hW k_x0 er_1 dX0_takeBackTaking_2 (fun k_r_1 => ?_)
  refine lv_iload_n C.1 C.2.1 dX0_takeBackTaking_5 rfl (lv_at hl 1 rfl) ?_
  refine lv_iload_n C.1 C.2.1 dX0_takeBackTaking_6 rfl (lv_at hl 3 rfl) ?_
  obtain ⟨o_2, eo_2, hE⟩ := cl_e hE
  refine x_kV (o := o_2) (z_runV (As := [.ref r_1, .int x1, .int x3]) (rest := []) C (ct_X0_gatherRow l X F k_x0 k_r_1 eo_2) cw_X0_238 hW hZ k_x0 (by decide) rfl rfl rfl hl.1 (Nat.le_of_ble_eq_true rfl) rfl dX0_takeBackTaking_7 ⟨Nat.le_of_ble_eq_true rfl, Nat.le_of_ble_eq_true rfl⟩ ⟨Nat.le_refl _, Nat.le_refl _⟩) hZ (fun _ _ hW km hZ => ?_)
  replace hkm := hkm.tr km
  replace k_x0 := km.at k_x0 (by decide)
  refine lv_aload_n C.1 C.2.1 dX0_takeBackTaking_10 rfl (lv_at hl 0 rfl) ?_
  refine lv_aload_n C.1 C.2.1 dX0_takeBackTaking_11 rfl (lv_at hl 0 rfl) ?_
  obtain ⟨o_3, eo_3, hE⟩ := cl_e hE
  refine x_kI (o := o_3) (z_runV (As := []) (rest := [.ref x0]) C (ct_X0_keyOfRow l X F k_x0 eo_3) cw_X0_242 hW hZ k_x0 (by decide) rfl rfl rfl hl.1 (Nat.le_of_ble_eq_true rfl) rfl dX0_takeBackTaking_12 ⟨Nat.le_of_ble_eq_true rfl, Nat.le_of_ble_eq_true rfl⟩ ⟨Nat.le_refl _, Nat.le_refl _⟩) hZ (fun _ _ hW km hZ => ?_)
  replace hkm := hkm.tr km
  replace k_x0 := km.at k_x0 (by decide)
  refine lv_iload_n C.1 C.2.1 dX0_takeBackTaking_15 rfl (lv_at hl 2 rfl) ?_
  obtain ⟨o_4, eo_4, hE⟩ := cl_e hE
  refine x_kI (o := o_4) (z_runS (As := [.int o_3.1, .int x2]) (rest := [.ref x0]) C (ct_X0_with l X F eo_4) cw_X0_70 hW hZ rfl hl.1 (Nat.le_of_ble_eq_true rfl) rfl dX0_takeBackTaking_16 ⟨Nat.le_of_ble_eq_true rfl, Nat.le_of_ble_eq_true rfl⟩ ⟨Nat.le_refl _, Nat.le_refl _⟩) hZ (fun _ _ hW km hZ => ?_)
  replace hkm := hkm.tr km
  replace k_x0 := km.at k_x0 (by decide)
  obtain ⟨o_5, eo_5, hE⟩ := cl_e hE
  refine x_kI (o := o_5) (z_runV (As := [.int o_4.1]) (rest := []) C (ct_X0_findSet l X F k_x0 eo_5) cw_X0_246 hW hZ k_x0 (by decide) rfl rfl rfl hl.1 (Nat.le_of_ble_eq_true rfl) rfl dX0_takeBackTaking_19 ⟨Nat.le_of_ble_eq_true rfl, Nat.le_of_ble_eq_true rfl⟩ ⟨Nat.le_refl _, Nat.le_refl _⟩) hZ (fun _ _ hW km hZ => ?_)
  replace hkm := hkm.tr km
  replace k_x0 := km.at k_x0 (by decide)
  refine lv_istore (lv' := [(4, .int o_5.1), (0, .ref x0), (1, .int x1), (2, .int x2), (3, .int x3)]) C.1 C.2.1 dX0_takeBackTaking_22 hl (by decide) rfl (fun ls hl => ?_)
  refine lv_iload C.1 C.2.1 dX0_takeBackTaking_24 (lv_at hl 0 rfl) ?_
  refine lv_iconst (v := (-1 : Int32)) C.1 C.2.1 dX0_takeBackTaking_26 (by decide) ?_
  refine lv_icmp_ne (tgt := 31) C.1 C.2.1 dX0_takeBackTaking_27 (by decide) (fun c_6 => ?_) (fun c_6 => ?_)
  · have hE := br_n hE c_6
    refine lv_aload_n C.1 C.2.1 dX0_takeBackTaking_31 rfl (lv_at hl 1 rfl) ?_
    obtain ⟨r_7, er_7, hE⟩ := cl_e hE
    refine gf_X0_22 C hW k_x0 er_7 dX0_takeBackTaking_32 (fun k_r_7 => ?_)
    refine lv_iload C.1 C.2.1 dX0_takeBackTaking_35 (lv_at hl 0 rfl) ?_
    obtain ⟨g_8, hE⟩ := gd_e hE
    refine y_iald C hW k_r_7 g_8 dX0_takeBackTaking_37 ?_
    refine lv_iload_n C.1 C.2.1 dX0_takeBackTaking_38 rfl (lv_at hl 3 rfl) ?_
    refine lv_iconst (v := (1 : Int32)) C.1 C.2.1 dX0_takeBackTaking_39 (by decide) ?_
    refine lv_iand C.1 C.2.1 dX0_takeBackTaking_40 ?_
    refine lv_iadd C.1 C.2.1 dX0_takeBackTaking_41 ?_
    obtain ⟨v_9, ev_9, hE⟩ := nm_e2 hE
    refine x_nmI ev_9 ?_
    refine lv_istore (lv' := [(5, .int v_9), (4, .int o_5.1), (0, .ref x0), (1, .int x1), (2, .int x2), (3, .int x3)]) C.1 C.2.1 dX0_takeBackTaking_42 hl (by decide) rfl (fun ls hl => ?_)
    refine lv_aload_n C.1 C.2.1 dX0_takeBackTaking_44 rfl (lv_at hl 2 rfl) ?_
    refine lv_iload_n C.1 C.2.1 dX0_takeBackTaking_45 rfl (lv_at hl 4 rfl) ?_
    refine lv_bipush (v := (6 : Int32)) C.1 C.2.1 dX0_takeBackTaking_46 (by decide) ?_
    refine lv_ishl C.1 C.2.1 dX0_takeBackTaking_48 ?_
    obtain ⟨o_10, eo_10, hE⟩ := cl_e hE
    refine x_kI (o := o_10) (z_runV (As := [.int (x2 <<< ((6 : Int32) &&& 31))]) (rest := []) C (ct_X0_numberOf l X F k_x0 eo_10) cw_X0_249 hW hZ k_x0 (by decide) rfl rfl rfl hl.1 (Nat.le_of_ble_eq_true rfl) rfl dX0_takeBackTaking_49 ⟨Nat.le_of_ble_eq_true rfl, Nat.le_of_ble_eq_true rfl⟩ ⟨Nat.le_refl _, Nat.le_refl _⟩) hZ (fun _ _ hW km hZ => ?_)
    replace hkm := hkm.tr km
    replace k_x0 := km.at k_x0 (by decide)
    refine lv_istore (lv' := [(6, .int o_10.1), (5, .int v_9), (4, .int o_5.1), (0, .ref x0), (1, .int x1), (2, .int x2), (3, .int x3)]) C.1 C.2.1 dX0_takeBackTaking_52 hl (by decide) rfl (fun ls hl => ?_)
    refine lv_aload_n C.1 C.2.1 dX0_takeBackTaking_54 rfl (lv_at hl 3 rfl) ?_
    refine lv_iload_n C.1 C.2.1 dX0_takeBackTaking_55 rfl (lv_at hl 5 rfl) ?_
    obtain ⟨o_11, eo_11, hE⟩ := cl_e hE
    refine x_kI (o := o_11) (z_runV (As := [.int x2]) (rest := []) C (ct_X0_weightOf l X F k_x0 eo_11) cw_X0_252 hW hZ k_x0 (by decide) rfl rfl rfl hl.1 (Nat.le_of_ble_eq_true rfl) rfl dX0_takeBackTaking_56 ⟨Nat.le_of_ble_eq_true rfl, Nat.le_of_ble_eq_true rfl⟩ ⟨Nat.le_refl _, Nat.le_refl _⟩) hZ (fun _ _ hW km hZ => ?_)
    replace hkm := hkm.tr km
    replace k_x0 := km.at k_x0 (by decide)
    refine lv_istore (lv' := [(7, .int o_11.1), (6, .int o_10.1), (5, .int v_9), (4, .int o_5.1), (0, .ref x0), (1, .int x1), (2, .int x2), (3, .int x3)]) C.1 C.2.1 dX0_takeBackTaking_59 hl (by decide) rfl (fun ls hl => ?_)
    refine lv_aload_n C.1 C.2.1 dX0_takeBackTaking_61 rfl (lv_at hl 4 rfl) ?_
    obtain ⟨r_12, er_12, hE⟩ := cl_e hE
    refine gf_X0_44 C hW k_x0 er_12 dX0_takeBackTaking_62 (fun k_r_12 => ?_)
    refine lv_iload_n C.1 C.2.1 dX0_takeBackTaking_65 rfl (lv_at hl 6 rfl) ?_
    refine lv_iload_n C.1 C.2.1 dX0_takeBackTaking_66 rfl (lv_at hl 5 rfl) ?_
    refine lv_iload_n C.1 C.2.1 dX0_takeBackTaking_67 rfl (lv_at hl 7 rfl) ?_
    refine lv_iconst (v := (-1 : Int32)) C.1 C.2.1 dX0_takeBackTaking_68 (by decide) ?_
    refine lv_icmp_eq (tgt := 76) C.1 C.2.1 dX0_takeBackTaking_69 (by decide) (fun c_13 => ?_) (fun c_13 => ?_)
    · have hE := br_p hE c_13
      refine lv_iconst (v := (0 : Int32)) C.1 C.2.1 dX0_takeBackTaking_76 (by decide) ?_
      exact bX0_takeBackTaking_77 C k_x0 k_r_12 hkm hW hZ _ (lv_sub hl [4, 6, 7, 2, 1, 0] rfl) hE
    · have hE := br_n hE c_13
      refine lv_iconst (v := (1 : Int32)) C.1 C.2.1 dX0_takeBackTaking_72 (by decide) ?_
      refine lv_goto (tgt := 77) C.1 C.2.1 dX0_takeBackTaking_73 (by decide) ?_
      exact bX0_takeBackTaking_77 C k_x0 k_r_12 hkm hW hZ _ (lv_sub hl [4, 6, 7, 2, 1, 0] rfl) hE
  · have hE := br_p hE c_6
    exact x_vret C rfl hW hZ hkm hE dX0_takeBackTaking_30
set_option maxRecDepth 100000 in
theorem ms_101 : Cond.selects RX0 yX0_takeBackTaking yX0_takeBackTaking ∈ W0 := w0_in (List.mem_append_left _ (List.mem_of_getElem? (i := 101) rfl)) rfl
set_option maxRecDepth 100000 in
theorem m_85 : Cond.fieldLink RX0 224 (TX1 3).1 (TX1 3).2.1 (TX1 3).2.2.1 ∈ W0 := w0_in (List.mem_append_right _ (List.mem_of_getElem? (i := 85) rfl)) rfl
set_option maxRecDepth 100000 in
theorem m_475 : Cond.fieldLink RX0 88 (TX0 15).1 (TX0 15).2.1 (TX0 15).2.2.1 ∈ W0 := w0_in (List.mem_append_right _ (List.mem_of_getElem? (i := 475) rfl)) rfl
set_option maxRecDepth 100000 in
theorem m_1685 : Cond.methodLink RX0 230 yX0_takeBackTaking ∈ W0 := w0_in (List.mem_append_right _ (List.mem_of_getElem? (i := 1685) rfl)) rfl
set_option maxRecDepth 100000 in
theorem m_1687 : Cond.instanceMethod yX0_takeBackTaking ∈ W0 := w0_in (List.mem_append_right _ (List.mem_of_getElem? (i := 1687) rfl)) rfl
set_option maxRecDepth 100000 in
theorem m_1688 : Cond.code yX0_takeBackTaking cX0_takeBackTaking 13 none ∈ W0 := w0_in (List.mem_append_right _ (List.mem_of_getElem? (i := 1688) rfl)) rfl
set_option maxRecDepth 100000 in
theorem m_1723 : Cond.methodLink RX0 233 yJ13_bitCount_95d88 ∈ W0 := w0_in (List.mem_append_right _ (List.mem_of_getElem? (i := 1723) rfl)) rfl
section
variable {p : Program} {l : Launch} {e : Env} {R : Room} {s : State} {m : MethodId} {args : Array Value} {below : List Frame} {meth : Method} {c : Code} {H : Heap} {locs : List Loc} {cells slots : Nat} {Q : State → Prop}
variable {cc : ByteArray} {pc : Nat} {ls : Array Slot} {rest : List Value} {X : Ec} {h h1 : Hp} {nL : Nat} {rt : Option FieldType} {mn : String}
theorem gf_X0_224 {a : Nat} (C : Cx X p s m args meth c RX0 cc nL rt mn) (hW : Wx X h H) (ha : hK h a = 1) (hdg : decode cc pc = .ok (.getfield 224, 3)) (kk : W p l e R s m args below meth c H locs cells slots Q (F0 m (pc + 3) ls (.int (hI h a 3) :: rest))) : W p l e R s m args below meth c H locs cells slots Q (F0 m pc ls (.ref a :: rest)) :=
  y_geti C hW ha i_X1 (by decide) rfl (by decide) m_85 rfl hdg kk
theorem gf_X0_88 {a : Nat} (C : Cx X p s m args meth c RX0 cc nL rt mn) (hW : Wx X h H) (ha : hK h a = 0) (hdg : decode cc pc = .ok (.getfield 88, 3)) (kk : W p l e R s m args below meth c H locs cells slots Q (F0 m (pc + 3) ls (.int (hI h a 15) :: rest))) : W p l e R s m args below meth c H locs cells slots Q (F0 m pc ls (.ref a :: rest)) :=
  y_geti C hW ha i_X0 (by decide) rfl (by decide) m_475 rfl hdg kk
end
theorem cw_X0_230 : cwd RX0 230 yX0_takeBackTaking cX0_takeBackTaking 13 none false 3 := ⟨m_1688, m_1685, m_13, ⟨m_1687, ms_101⟩, by decide, by decide, by decide +kernel⟩
theorem cw_X0_233 : cwd RX0 233 yJ13_bitCount_95d88 cJ13_bitCount_95d88 2 (some .int) true 1 := ⟨m_1274, m_1723, m_24, m_1273, by decide, by decide, by decide +kernel⟩
theorem dX0_takeBack_0 : decode cX0_takeBack 0 = .ok (.aload_n 0, 1) := by decide +kernel
theorem dX0_takeBack_1 : decode cX0_takeBack 1 = .ok (.iload_n 1, 1) := by decide +kernel
theorem dX0_takeBack_2 : decode cX0_takeBack 2 = .ok (.iload_n 2, 1) := by decide +kernel
theorem dX0_takeBack_3 : decode cX0_takeBack 3 = .ok (.iconst (-1), 1) := by decide +kernel
theorem dX0_takeBack_4 : decode cX0_takeBack 4 = .ok (.invokevirtual 230, 3) := by decide +kernel
theorem dX0_takeBack_7 : decode cX0_takeBack 7 = .ok (.aload_n 0, 1) := by decide +kernel
theorem dX0_takeBack_8 : decode cX0_takeBack 8 = .ok (.getfield 14, 3) := by decide +kernel
theorem dX0_takeBack_11 : decode cX0_takeBack 11 = .ok (.invokevirtual 157, 3) := by decide +kernel
theorem dX0_takeBack_14 : decode cX0_takeBack 14 = .ok (.invokestatic 233, 3) := by decide +kernel
theorem dX0_takeBack_17 : decode cX0_takeBack 17 = .ok (.aload_n 0, 1) := by decide +kernel
theorem dX0_takeBack_18 : decode cX0_takeBack 18 = .ok (.getfield 88, 3) := by decide +kernel
theorem dX0_takeBack_21 : decode cX0_takeBack 21 = .ok (.invokestatic 143, 3) := by decide +kernel
theorem dX0_takeBack_24 : decode cX0_takeBack 24 = .ok (.if_icmp .lt 4, 3) := by decide +kernel
theorem dX0_takeBack_27 : decode cX0_takeBack 27 = .ok (.return_, 1) := by decide +kernel
theorem dX0_takeBack_28 : decode cX0_takeBack 28 = .ok (.iconst 0, 1) := by decide +kernel
theorem dX0_takeBack_29 : decode cX0_takeBack 29 = .ok (.istore_n 3, 1) := by decide +kernel
theorem dX0_takeBack_30 : decode cX0_takeBack 30 = .ok (.iload_n 3, 1) := by decide +kernel
theorem dX0_takeBack_31 : decode cX0_takeBack 31 = .ok (.aload_n 0, 1) := by decide +kernel
theorem dX0_takeBack_32 : decode cX0_takeBack 32 = .ok (.getfield 40, 3) := by decide +kernel
theorem dX0_takeBack_35 : decode cX0_takeBack 35 = .ok (.getfield 224, 3) := by decide +kernel
theorem dX0_takeBack_38 : decode cX0_takeBack 38 = .ok (.if_icmp .ge 35, 3) := by decide +kernel
theorem dX0_takeBack_41 : decode cX0_takeBack 41 = .ok (.iload_n 3, 1) := by decide +kernel
theorem dX0_takeBack_42 : decode cX0_takeBack 42 = .ok (.aload_n 0, 1) := by decide +kernel
theorem dX0_takeBack_43 : decode cX0_takeBack 43 = .ok (.getfield 40, 3) := by decide +kernel
theorem dX0_takeBack_46 : decode cX0_takeBack 46 = .ok (.getfield 67, 3) := by decide +kernel
theorem dX0_takeBack_49 : decode cX0_takeBack 49 = .ok (.if_icmp .eq 18, 3) := by decide +kernel
theorem dX0_takeBack_52 : decode cX0_takeBack 52 = .ok (.aload_n 0, 1) := by decide +kernel
theorem dX0_takeBack_53 : decode cX0_takeBack 53 = .ok (.iload_n 1, 1) := by decide +kernel
theorem dX0_takeBack_54 : decode cX0_takeBack 54 = .ok (.iload_n 2, 1) := by decide +kernel
theorem dX0_takeBack_55 : decode cX0_takeBack 55 = .ok (.iconst 2, 1) := by decide +kernel
theorem dX0_takeBack_56 : decode cX0_takeBack 56 = .ok (.iload_n 3, 1) := by decide +kernel
theorem dX0_takeBack_57 : decode cX0_takeBack 57 = .ok (.imul, 1) := by decide +kernel
theorem dX0_takeBack_58 : decode cX0_takeBack 58 = .ok (.iconst 1, 1) := by decide +kernel
theorem dX0_takeBack_59 : decode cX0_takeBack 59 = .ok (.iadd, 1) := by decide +kernel
theorem dX0_takeBack_60 : decode cX0_takeBack 60 = .ok (.iload_n 2, 1) := by decide +kernel
theorem dX0_takeBack_61 : decode cX0_takeBack 61 = .ok (.iconst 1, 1) := by decide +kernel
theorem dX0_takeBack_62 : decode cX0_takeBack 62 = .ok (.iand, 1) := by decide +kernel
theorem dX0_takeBack_63 : decode cX0_takeBack 63 = .ok (.isub, 1) := by decide +kernel
theorem dX0_takeBack_64 : decode cX0_takeBack 64 = .ok (.invokevirtual 230, 3) := by decide +kernel
theorem dX0_takeBack_67 : decode cX0_takeBack 67 = .ok (.iinc 3 1, 3) := by decide +kernel
theorem dX0_takeBack_70 : decode cX0_takeBack 70 = .ok (.goto (-40), 3) := by decide +kernel
theorem dX0_takeBack_73 : decode cX0_takeBack 73 = .ok (.return_, 1) := by decide +kernel
set_option maxRecDepth 20000 in
theorem moX0_takeBack_67 {o : Hp} {k_30 : Hp → Nat → Int32 → Int32 → Int32 → Option (Hp)} {F : Nat} (mk_30 : ∀ (h : Hp) (x0 : Nat) (x1 : Int32) (x2 : Int32) (x3 : Int32), k_30 h x0 x1 x2 x3 = some o → Le h o) {h : Hp} {x0 : Nat} {x1 : Int32} {x2 : Int32} {x3 : Int32} (hE : sX0_takeBack_67 F k_30 h x0 x1 x2 x3 = some o) : Le h o := by
  obtain ⟨v_1, ev_1, hE⟩ := nm_e2 hE
  exact mk_30 _ _ _ _ _ hE
set_option maxRecDepth 20000 in
theorem moX0_takeBack_30 {o : Hp} {F : Nat} : ∀ (f : Nat) {h : Hp} {x0 : Nat} {x1 : Int32} {x2 : Int32} {x3 : Int32}, sX0_takeBack_30 F f h x0 x1 x2 x3 = some o → Le h o := by
  intro f
  induction f with
  | zero =>
    intro h x0 x1 x2 x3 hE
    rw [sX0_takeBack_30] at hE
    cases hE
  | succ f ih =>
    intro h x0 x1 x2 x3 hE
    rw [sX0_takeBack_30] at hE
    have mk_30 : ∀ (h : Hp) (x0 : Nat) (x1 : Int32) (x2 : Int32) (x3 : Int32), sX0_takeBack_30 F f h x0 x1 x2 x3 = some o → Le h o := fun h x0 x1 x2 x3 hE => ih hE
    obtain ⟨r_1, er_1, hE⟩ := cl_e hE
    rcases br_e hE with ⟨_, hE⟩ | ⟨_, hE⟩
    · exact le_some1 hE
    · obtain ⟨r_3, er_3, hE⟩ := cl_e hE
      rcases br_e hE with ⟨_, hE⟩ | ⟨_, hE⟩
      · exact moX0_takeBack_67 mk_30 hE
      · obtain ⟨o_5, eo_5, hE⟩ := cl_e hE
        refine (moX0_takeBackTaking eo_5).tr ?_
        exact moX0_takeBack_67 mk_30 hE
set_option maxRecDepth 20000 in
theorem moX0_takeBack {o : Hp} {F : Nat} {h : Hp} {x0 : Nat} {x1 : Int32} {x2 : Int32} (hE : sX0_takeBack F h x0 x1 x2 = some o) : Le h o := by
  obtain ⟨o_1, eo_1, hE⟩ := cl_e hE
  refine (moX0_takeBackTaking eo_1).tr ?_
  obtain ⟨r_2, er_2, hE⟩ := cl_e hE
  obtain ⟨o_3, eo_3, hE⟩ := cl_e hE
  refine (moX3_occupied eo_3).tr ?_
  obtain ⟨o_4, eo_4, hE⟩ := cl_e hE
  refine (moJ13_bitCount_95d88 eo_4).tr ?_
  obtain ⟨o_5, eo_5, hE⟩ := cl_e hE
  refine (moX0_sizeOf eo_5).tr ?_
  rcases br_e hE with ⟨_, hE⟩ | ⟨_, hE⟩
  · exact moX0_takeBack_30 _ hE
  · exact le_some1 hE
set_option maxRecDepth 20000 in
theorem bX0_takeBack_67 {p : Program} {l : Launch} {e : Env} {s : State} {m : MethodId} {args : Array Value} {below : List Frame} {meth : Method} {c : Code} {X : Ec} {h0 : Hp} {o : Hp} {k_30 : Hp → Nat → Int32 → Int32 → Int32 → Option (Hp)} {F : Nat} (C : Cx X p s m args meth c RX0 cX0_takeBack 4 none "takeBack") (hk_30 : ∀ (h : Hp) (x0 : Nat) (x1 : Int32) (x2 : Int32) (x3 : Int32) (H : Heap) (locs : List Loc), hK h x0 = 0 → Km h0 h → Wx X h H → va_S (aA (eB X)) s.heap H locs → ∀ (ls : Array Slot), lv_has ls 4 [(0, .ref x0), (1, .int x1), (2, .int x2), (3, .int x3)] → k_30 h x0 x1 x2 x3 = some o → W p l e (rm 3 94) s m args below meth c H locs 0 0 (MQ below (QV X h0 o) args s 0 0 (aA (eB X))) (F0 m 30 ls [])) {h : Hp} {x0 : Nat} {x1 : Int32} {x2 : Int32} {x3 : Int32} {H : Heap} {locs : List Loc} (k_x0 : hK h x0 = 0) (hkm : Km h0 h) (hW : Wx X h H) (hZ : va_S (aA (eB X)) s.heap H locs) (ls : Array Slot) (hl : lv_has ls 4 [(0, .ref x0), (1, .int x1), (2, .int x2), (3, .int x3)]) (hE : sX0_takeBack_67 F k_30 h x0 x1 x2 x3 = some o) : W p l e (rm 3 94) s m args below meth c H locs 0 0 (MQ below (QV X h0 o) args s 0 0 (aA (eB X))) (F0 m 67 ls []) := by
  obtain ⟨v_1, ev_1, hE⟩ := nm_e2 hE
  refine lv_iinc (v := v_1) (lv' := [(3, .int v_1), (0, .ref x0), (1, .int x1), (2, .int x2)]) C.1 C.2.1 dX0_takeBack_67 hl (k := 3) rfl (by rw [ev_1]; rfl) (by decide) rfl (fun ls hl => ?_)
  refine lv_goto (tgt := 30) C.1 C.2.1 dX0_takeBack_70 (by decide) ?_
  exact hk_30 _ _ _ _ _ _ _ k_x0 hkm hW hZ _ (lv_sub hl [1, 2, 3, 0] rfl) hE
set_option maxRecDepth 20000 in
theorem bX0_takeBack_30 {p : Program} {l : Launch} {e : Env} {s : State} {m : MethodId} {args : Array Value} {below : List Frame} {meth : Method} {c : Code} {X : Ec} {h0 : Hp} {o : Hp} {F : Nat} (C : Cx X p s m args meth c RX0 cX0_takeBack 4 none "takeBack") : ∀ (f : Nat) {h : Hp} {x0 : Nat} {x1 : Int32} {x2 : Int32} {x3 : Int32} {H : Heap} {locs : List Loc} (k_x0 : hK h x0 = 0), Km h0 h → Wx X h H → va_S (aA (eB X)) s.heap H locs → ∀ (ls : Array Slot), lv_has ls 4 [(0, .ref x0), (1, .int x1), (2, .int x2), (3, .int x3)] → sX0_takeBack_30 F f h x0 x1 x2 x3 = some o → W p l e (rm 3 94) s m args below meth c H locs 0 0 (MQ below (QV X h0 o) args s 0 0 (aA (eB X))) (F0 m 30 ls []) := by
  intro f
  induction f with
  | zero =>
    intro h x0 x1 x2 x3 H locs k_x0 hkm hW hZ ls hl hE
    rw [sX0_takeBack_30] at hE
    cases hE
  | succ f ih =>
    intro h x0 x1 x2 x3 H locs k_x0 hkm hW hZ ls hl hE
    rw [sX0_takeBack_30] at hE
    have hk_30 : ∀ (h : Hp) (x0 : Nat) (x1 : Int32) (x2 : Int32) (x3 : Int32) (H : Heap) (locs : List Loc), hK h x0 = 0 → Km h0 h → Wx X h H → va_S (aA (eB X)) s.heap H locs → ∀ (ls : Array Slot), lv_has ls 4 [(0, .ref x0), (1, .int x1), (2, .int x2), (3, .int x3)] → sX0_takeBack_30 F f h x0 x1 x2 x3 = some o → W p l e (rm 3 94) s m args below meth c H locs 0 0 (MQ below (QV X h0 o) args s 0 0 (aA (eB X))) (F0 m 30 ls []) := fun h x0 x1 x2 x3 H locs k_x0 a b c ls hl hE => ih k_x0 a b c ls hl hE
    refine lv_iload_n C.1 C.2.1 dX0_takeBack_30 rfl (lv_at hl 3 rfl) ?_
    refine lv_aload_n C.1 C.2.1 dX0_takeBack_31 rfl (lv_at hl 0 rfl) ?_
    obtain ⟨r_1, er_1, hE⟩ := cl_e hE
    refine gf_X0_40 C hW k_x0 er_1 dX0_takeBack_32 (fun k_r_1 => ?_)
    refine gf_X0_224 C hW k_r_1 dX0_takeBack_35 ?_
    refine lv_icmp_ge (tgt := 73) C.1 C.2.1 dX0_takeBack_38 (by decide) (fun c_2 => ?_) (fun c_2 => ?_)
    · have hE := br_p hE c_2
      exact x_vret C rfl hW hZ hkm hE dX0_takeBack_73
    · have hE := br_n hE c_2
      refine lv_iload_n C.1 C.2.1 dX0_takeBack_41 rfl (lv_at hl 3 rfl) ?_
      refine lv_aload_n C.1 C.2.1 dX0_takeBack_42 rfl (lv_at hl 0 rfl) ?_
      obtain ⟨r_3, er_3, hE⟩ := cl_e hE
      refine gf_X0_40 C hW k_x0 er_3 dX0_takeBack_43 (fun k_r_3 => ?_)
      refine gf_X0_67 C hW k_r_3 dX0_takeBack_46 ?_
      refine lv_icmp_eq (tgt := 67) C.1 C.2.1 dX0_takeBack_49 (by decide) (fun c_4 => ?_) (fun c_4 => ?_)
      · have hE := br_p hE c_4
        exact bX0_takeBack_67 C hk_30 k_x0 hkm hW hZ _ (lv_sub hl [0, 1, 2, 3] rfl) hE
      · have hE := br_n hE c_4
        refine lv_aload_n C.1 C.2.1 dX0_takeBack_52 rfl (lv_at hl 0 rfl) ?_
        refine lv_iload_n C.1 C.2.1 dX0_takeBack_53 rfl (lv_at hl 1 rfl) ?_
        refine lv_iload_n C.1 C.2.1 dX0_takeBack_54 rfl (lv_at hl 2 rfl) ?_
        refine lv_iconst (v := (2 : Int32)) C.1 C.2.1 dX0_takeBack_55 (by decide) ?_
        refine lv_iload_n C.1 C.2.1 dX0_takeBack_56 rfl (lv_at hl 3 rfl) ?_
        refine lv_imul C.1 C.2.1 dX0_takeBack_57 ?_
        refine lv_iconst (v := (1 : Int32)) C.1 C.2.1 dX0_takeBack_58 (by decide) ?_
        refine lv_iadd C.1 C.2.1 dX0_takeBack_59 ?_
        refine lv_iload_n C.1 C.2.1 dX0_takeBack_60 rfl (lv_at hl 2 rfl) ?_
        refine lv_iconst (v := (1 : Int32)) C.1 C.2.1 dX0_takeBack_61 (by decide) ?_
        refine lv_iand C.1 C.2.1 dX0_takeBack_62 ?_
        refine lv_isub C.1 C.2.1 dX0_takeBack_63 ?_
        obtain ⟨o_5, eo_5, hE⟩ := cl_e hE
        refine x_kV (o := o_5) (z_runV (As := [.int x1, .int x2, .int ((((2 : Int32) * x3) + (1 : Int32)) - (x2 &&& (1 : Int32)))]) (rest := []) C (ct_X0_takeBackTaking l X F k_x0 eo_5) cw_X0_230 hW hZ k_x0 (by decide) rfl rfl rfl hl.1 (Nat.le_of_ble_eq_true rfl) rfl dX0_takeBack_64 ⟨Nat.le_of_ble_eq_true rfl, Nat.le_of_ble_eq_true rfl⟩ ⟨Nat.le_refl _, Nat.le_refl _⟩) hZ (fun _ _ hW km hZ => ?_)
        replace hkm := hkm.tr km
        replace k_x0 := km.at k_x0 (by decide)
        exact bX0_takeBack_67 C hk_30 k_x0 hkm hW hZ _ (lv_sub hl [0, 1, 2, 3] rfl) hE
set_option maxRecDepth 20000 in
theorem ct_X0_takeBack (l : Launch) (X : Ec) (F : Nat) {h : Hp} {x0 : Nat} {x1 : Int32} {x2 : Int32} {o : Hp} (k_x0 : hK h x0 = 0) (hE : sX0_takeBack F h x0 x1 x2 = some o) : MetV l yX0_takeBack cX0_takeBack 4 none 3 94 X [.ref x0, .int x1, .int x2] h o := by
  refine x_met (by decide) (Nat.le_of_ble_eq_true rfl) ?_
  intro p e s m below meth c ls C hl hW hZ
  have hl : lv_has ls 4 [(0, .ref x0), (1, .int x1), (2, .int x2)] := hl
  have hkm : Km h h := Km.rf h
  refine lv_aload_n C.1 C.2.1 dX0_takeBack_0 rfl (lv_at hl 0 rfl) ?_
  refine lv_iload_n C.1 C.2.1 dX0_takeBack_1 rfl (lv_at hl 1 rfl) ?_
  refine lv_iload_n C.1 C.2.1 dX0_takeBack_2 rfl (lv_at hl 2 rfl) ?_
  refine lv_iconst (v := (-1 : Int32)) C.1 C.2.1 dX0_takeBack_3 (by decide) ?_
  obtain ⟨o_1, eo_1, hE⟩ := cl_e hE
  refine x_kV (o := o_1) (z_runV (As := [.int x1, .int x2, .int (-1 : Int32)]) (rest := []) C (ct_X0_takeBackTaking l X F k_x0 eo_1) cw_X0_230 hW hZ k_x0 (by decide) rfl rfl rfl hl.1 (Nat.le_of_ble_eq_true rfl) rfl dX0_takeBack_4 ⟨Nat.le_of_ble_eq_true rfl, Nat.le_of_ble_eq_true rfl⟩ ⟨Nat.le_refl _, Nat.le_refl _⟩) hZ (fun _ _ hW km hZ => ?_)
  replace hkm := hkm.tr km
  replace k_x0 := km.at k_x0 (by decide)
  refine lv_aload_n C.1 C.2.1 dX0_takeBack_7 rfl (lv_at hl 0 rfl) ?_
  obtain ⟨r_2, er_2, hE⟩ := cl_e hE
  refine gf_X0_14 C hW k_x0 er_2 dX0_takeBack_8 (fun k_r_2 => ?_)
  obtain ⟨o_3, eo_3, hE⟩ := cl_e hE
  refine x_kJ (o := o_3) (z_runV (As := []) (rest := []) C (ct_X3_occupied l X k_r_2 eo_3) cw_X0_157 hW hZ k_r_2 (by decide) rfl rfl rfl hl.1 (Nat.le_of_ble_eq_true rfl) rfl dX0_takeBack_11 ⟨Nat.le_of_ble_eq_true rfl, Nat.le_of_ble_eq_true rfl⟩ ⟨Nat.le_refl _, Nat.le_refl _⟩) hZ (fun _ _ hW km hZ => ?_)
  replace hkm := hkm.tr km
  replace k_x0 := km.at k_x0 (by decide)
  obtain ⟨o_4, eo_4, hE⟩ := cl_e hE
  refine x_kI (o := o_4) (z_runS (As := [.long o_3.1]) (rest := []) C (ct_J13_bitCount_95d88 l X eo_4) cw_X0_233 hW hZ rfl hl.1 (Nat.le_of_ble_eq_true rfl) rfl dX0_takeBack_14 ⟨Nat.le_of_ble_eq_true rfl, Nat.le_of_ble_eq_true rfl⟩ ⟨Nat.le_refl _, Nat.le_refl _⟩) hZ (fun _ _ hW km hZ => ?_)
  replace hkm := hkm.tr km
  replace k_x0 := km.at k_x0 (by decide)
  refine lv_aload_n C.1 C.2.1 dX0_takeBack_17 rfl (lv_at hl 0 rfl) ?_
  refine gf_X0_88 C hW k_x0 dX0_takeBack_18 ?_
  obtain ⟨o_5, eo_5, hE⟩ := cl_e hE
  refine x_kI (o := o_5) (z_runS (As := [.int (hI o_4.2 x0 15)]) (rest := [.int o_4.1]) C (ct_X0_sizeOf l X F eo_5) cw_X0_143 hW hZ rfl hl.1 (Nat.le_of_ble_eq_true rfl) rfl dX0_takeBack_21 ⟨Nat.le_of_ble_eq_true rfl, Nat.le_of_ble_eq_true rfl⟩ ⟨Nat.le_refl _, Nat.le_refl _⟩) hZ (fun _ _ hW km hZ => ?_)
  replace hkm := hkm.tr km
  replace k_x0 := km.at k_x0 (by decide)
  refine lv_icmp_lt (tgt := 28) C.1 C.2.1 dX0_takeBack_24 (by decide) (fun c_6 => ?_) (fun c_6 => ?_)
  · have hE := br_p hE c_6
    refine lv_iconst (v := (0 : Int32)) C.1 C.2.1 dX0_takeBack_28 (by decide) ?_
    refine lv_istore_n (lv' := [(3, .int (0 : Int32)), (0, .ref x0), (1, .int x1), (2, .int x2)]) C.1 C.2.1 dX0_takeBack_29 rfl hl (by decide) rfl (fun ls hl => ?_)
    exact bX0_takeBack_30 C F k_x0 hkm hW hZ _ (lv_sub hl [1, 2, 3, 0] rfl) hE
  · have hE := br_n hE c_6
    exact x_vret C rfl hW hZ hkm hE dX0_takeBack_27
set_option maxRecDepth 100000 in
theorem ms_100 : Cond.selects RX0 yX0_takeBack yX0_takeBack ∈ W0 := w0_in (List.mem_append_left _ (List.mem_of_getElem? (i := 100) rfl)) rfl
set_option maxRecDepth 100000 in
theorem m_286 : Cond.fieldLink RX0 216 (TX3 1).1 (TX3 1).2.1 (TX3 1).2.2.1 ∈ W0 := w0_in (List.mem_append_right _ (List.mem_of_getElem? (i := 286) rfl)) rfl
set_option maxRecDepth 100000 in
theorem m_1680 : Cond.methodLink RX0 212 yX1_has ∈ W0 := w0_in (List.mem_append_right _ (List.mem_of_getElem? (i := 1680) rfl)) rfl
set_option maxRecDepth 100000 in
theorem m_1681 : Cond.methodLink RX0 220 yX0_takeBack ∈ W0 := w0_in (List.mem_append_right _ (List.mem_of_getElem? (i := 1681) rfl)) rfl
set_option maxRecDepth 100000 in
theorem m_1683 : Cond.instanceMethod yX0_takeBack ∈ W0 := w0_in (List.mem_append_right _ (List.mem_of_getElem? (i := 1683) rfl)) rfl
set_option maxRecDepth 100000 in
theorem m_1684 : Cond.code yX0_takeBack cX0_takeBack 4 none ∈ W0 := w0_in (List.mem_append_right _ (List.mem_of_getElem? (i := 1684) rfl)) rfl
set_option maxRecDepth 100000 in
theorem m_1724 : Cond.methodLink RX0 227 yX1_becomesThis ∈ W0 := w0_in (List.mem_append_right _ (List.mem_of_getElem? (i := 1724) rfl)) rfl
section
variable {p : Program} {l : Launch} {e : Env} {R : Room} {s : State} {m : MethodId} {args : Array Value} {below : List Frame} {meth : Method} {c : Code} {H : Heap} {locs : List Loc} {cells slots : Nat} {Q : State → Prop}
variable {cc : ByteArray} {pc : Nat} {ls : Array Slot} {rest : List Value} {X : Ec} {h h1 : Hp} {nL : Nat} {rt : Option FieldType} {mn : String}
theorem gf_X0_216 {a r : Nat} (C : Cx X p s m args meth c RX0 cc nL rt mn) (hW : Wx X h H) (ha : hK h a = 3) (hr : hR h a 1 = some r) (hdg : decode cc pc = .ok (.getfield 216, 3)) (kk : hK h r = 18 → W p l e R s m args below meth c H locs cells slots Q (F0 m (pc + 3) ls (.ref r :: rest))) : W p l e R s m args below meth c H locs cells slots Q (F0 m pc ls (.ref a :: rest)) :=
  y_getr C hW ha i_X3 (by decide) rfl (by decide) m_286 rfl rfl hr hdg kk
end
theorem cw_X0_227 : cwd RX0 227 yX1_becomesThis cX1_becomesThis 4 (some .boolean) false 2 := ⟨m_1582, m_1724, m_4, ⟨m_1580, m_1581⟩, by decide, by decide, by decide +kernel⟩
theorem cw_X0_220 : cwd RX0 220 yX0_takeBack cX0_takeBack 4 none false 2 := ⟨m_1684, m_1681, m_13, ⟨m_1683, ms_100⟩, by decide, by decide, by decide +kernel⟩
theorem cw_X0_212 : cwd RX0 212 yX1_has cX1_has 2 (some .boolean) false 1 := ⟨m_1029, m_1680, m_4, ⟨m_1027, m_1028⟩, by decide, by decide, by decide +kernel⟩
theorem dX0_goBack_0 : decode cX0_goBack 0 = .ok (.iconst 1, 1) := by decide +kernel
theorem dX0_goBack_1 : decode cX0_goBack 1 = .ok (.iload_n 1, 1) := by decide +kernel
theorem dX0_goBack_2 : decode cX0_goBack 2 = .ok (.isub, 1) := by decide +kernel
theorem dX0_goBack_3 : decode cX0_goBack 3 = .ok (.istore_n 2, 1) := by decide +kernel
theorem dX0_goBack_4 : decode cX0_goBack 4 = .ok (.aload_n 0, 1) := by decide +kernel
theorem dX0_goBack_5 : decode cX0_goBack 5 = .ok (.getfield 40, 3) := by decide +kernel
theorem dX0_goBack_8 : decode cX0_goBack 8 = .ok (.iconst 4, 1) := by decide +kernel
theorem dX0_goBack_9 : decode cX0_goBack 9 = .ok (.invokevirtual 212, 3) := by decide +kernel
theorem dX0_goBack_12 : decode cX0_goBack 12 = .ok (.ifCond .eq 19, 3) := by decide +kernel
theorem dX0_goBack_15 : decode cX0_goBack 15 = .ok (.aload_n 0, 1) := by decide +kernel
theorem dX0_goBack_16 : decode cX0_goBack 16 = .ok (.getfield 48, 3) := by decide +kernel
theorem dX0_goBack_19 : decode cX0_goBack 19 = .ok (.aload_n 0, 1) := by decide +kernel
theorem dX0_goBack_20 : decode cX0_goBack 20 = .ok (.getfield 14, 3) := by decide +kernel
theorem dX0_goBack_23 : decode cX0_goBack 23 = .ok (.iload_n 1, 1) := by decide +kernel
theorem dX0_goBack_24 : decode cX0_goBack 24 = .ok (.invokevirtual 187, 3) := by decide +kernel
theorem dX0_goBack_27 : decode cX0_goBack 27 = .ok (.ifCond .eq 4, 3) := by decide +kernel
theorem dX0_goBack_30 : decode cX0_goBack 30 = .ok (.return_, 1) := by decide +kernel
theorem dX0_goBack_31 : decode cX0_goBack 31 = .ok (.aload_n 0, 1) := by decide +kernel
theorem dX0_goBack_32 : decode cX0_goBack 32 = .ok (.getfield 14, 3) := by decide +kernel
theorem dX0_goBack_35 : decode cX0_goBack 35 = .ok (.getfield 216, 3) := by decide +kernel
theorem dX0_goBack_38 : decode cX0_goBack 38 = .ok (.iload_n 2, 1) := by decide +kernel
theorem dX0_goBack_39 : decode cX0_goBack 39 = .ok (.laload, 1) := by decide +kernel
theorem dX0_goBack_40 : decode cX0_goBack 40 = .ok (.lstore_n 3, 1) := by decide +kernel
theorem dX0_goBack_41 : decode cX0_goBack 41 = .ok (.iconst 0, 1) := by decide +kernel
theorem dX0_goBack_42 : decode cX0_goBack 42 = .ok (.istore 5, 2) := by decide +kernel
theorem dX0_goBack_44 : decode cX0_goBack 44 = .ok (.iload 5, 2) := by decide +kernel
theorem dX0_goBack_46 : decode cX0_goBack 46 = .ok (.bipush 64, 2) := by decide +kernel
theorem dX0_goBack_48 : decode cX0_goBack 48 = .ok (.if_icmp .ge 109, 3) := by decide +kernel
theorem dX0_goBack_51 : decode cX0_goBack 51 = .ok (.lload_n 3, 1) := by decide +kernel
theorem dX0_goBack_52 : decode cX0_goBack 52 = .ok (.lconst 0, 1) := by decide +kernel
theorem dX0_goBack_53 : decode cX0_goBack 53 = .ok (.lcmp, 1) := by decide +kernel
theorem dX0_goBack_54 : decode cX0_goBack 54 = .ok (.ifCond .eq 103, 3) := by decide +kernel
theorem dX0_goBack_57 : decode cX0_goBack 57 = .ok (.lload_n 3, 1) := by decide +kernel
theorem dX0_goBack_58 : decode cX0_goBack 58 = .ok (.invokestatic 161, 3) := by decide +kernel
theorem dX0_goBack_61 : decode cX0_goBack 61 = .ok (.istore 6, 2) := by decide +kernel
theorem dX0_goBack_63 : decode cX0_goBack 63 = .ok (.lload_n 3, 1) := by decide +kernel
theorem dX0_goBack_64 : decode cX0_goBack 64 = .ok (.lload_n 3, 1) := by decide +kernel
theorem dX0_goBack_65 : decode cX0_goBack 65 = .ok (.lconst 1, 1) := by decide +kernel
theorem dX0_goBack_66 : decode cX0_goBack 66 = .ok (.lsub, 1) := by decide +kernel
theorem dX0_goBack_67 : decode cX0_goBack 67 = .ok (.land, 1) := by decide +kernel
theorem dX0_goBack_68 : decode cX0_goBack 68 = .ok (.lstore_n 3, 1) := by decide +kernel
theorem dX0_goBack_69 : decode cX0_goBack 69 = .ok (.aload_n 0, 1) := by decide +kernel
theorem dX0_goBack_70 : decode cX0_goBack 70 = .ok (.getfield 14, 3) := by decide +kernel
theorem dX0_goBack_73 : decode cX0_goBack 73 = .ok (.getfield 176, 3) := by decide +kernel
theorem dX0_goBack_76 : decode cX0_goBack 76 = .ok (.iload 6, 2) := by decide +kernel
theorem dX0_goBack_78 : decode cX0_goBack 78 = .ok (.baload, 1) := by decide +kernel
theorem dX0_goBack_79 : decode cX0_goBack 79 = .ok (.istore 7, 2) := by decide +kernel
theorem dX0_goBack_81 : decode cX0_goBack 81 = .ok (.aload_n 0, 1) := by decide +kernel
theorem dX0_goBack_82 : decode cX0_goBack 82 = .ok (.iload 6, 2) := by decide +kernel
theorem dX0_goBack_84 : decode cX0_goBack 84 = .ok (.iload 7, 2) := by decide +kernel
theorem dX0_goBack_86 : decode cX0_goBack 86 = .ok (.invokevirtual 220, 3) := by decide +kernel
theorem dX0_goBack_89 : decode cX0_goBack 89 = .ok (.iconst 0, 1) := by decide +kernel
theorem dX0_goBack_90 : decode cX0_goBack 90 = .ok (.istore 8, 2) := by decide +kernel
theorem dX0_goBack_92 : decode cX0_goBack 92 = .ok (.iload 8, 2) := by decide +kernel
theorem dX0_goBack_94 : decode cX0_goBack 94 = .ok (.aload_n 0, 1) := by decide +kernel
theorem dX0_goBack_95 : decode cX0_goBack 95 = .ok (.getfield 40, 3) := by decide +kernel
theorem dX0_goBack_98 : decode cX0_goBack 98 = .ok (.getfield 224, 3) := by decide +kernel
theorem dX0_goBack_101 : decode cX0_goBack 101 = .ok (.if_icmp .ge 50, 3) := by decide +kernel
theorem dX0_goBack_104 : decode cX0_goBack 104 = .ok (.aload_n 0, 1) := by decide +kernel
theorem dX0_goBack_105 : decode cX0_goBack 105 = .ok (.getfield 40, 3) := by decide +kernel
theorem dX0_goBack_108 : decode cX0_goBack 108 = .ok (.iload 6, 2) := by decide +kernel
theorem dX0_goBack_110 : decode cX0_goBack 110 = .ok (.iload_n 2, 1) := by decide +kernel
theorem dX0_goBack_111 : decode cX0_goBack 111 = .ok (.invokevirtual 173, 3) := by decide +kernel
theorem dX0_goBack_114 : decode cX0_goBack 114 = .ok (.ifCond .eq 37, 3) := by decide +kernel
theorem dX0_goBack_117 : decode cX0_goBack 117 = .ok (.aload_n 0, 1) := by decide +kernel
theorem dX0_goBack_118 : decode cX0_goBack 118 = .ok (.getfield 40, 3) := by decide +kernel
theorem dX0_goBack_121 : decode cX0_goBack 121 = .ok (.iload 8, 2) := by decide +kernel
theorem dX0_goBack_123 : decode cX0_goBack 123 = .ok (.iload 7, 2) := by decide +kernel
theorem dX0_goBack_125 : decode cX0_goBack 125 = .ok (.iconst 1, 1) := by decide +kernel
theorem dX0_goBack_126 : decode cX0_goBack 126 = .ok (.ishr, 1) := by decide +kernel
theorem dX0_goBack_127 : decode cX0_goBack 127 = .ok (.invokevirtual 227, 3) := by decide +kernel
theorem dX0_goBack_130 : decode cX0_goBack 130 = .ok (.ifCond .eq 15, 3) := by decide +kernel
theorem dX0_goBack_133 : decode cX0_goBack 133 = .ok (.aload_n 0, 1) := by decide +kernel
theorem dX0_goBack_134 : decode cX0_goBack 134 = .ok (.iload 6, 2) := by decide +kernel
theorem dX0_goBack_136 : decode cX0_goBack 136 = .ok (.iconst 2, 1) := by decide +kernel
theorem dX0_goBack_137 : decode cX0_goBack 137 = .ok (.iload 8, 2) := by decide +kernel
theorem dX0_goBack_139 : decode cX0_goBack 139 = .ok (.imul, 1) := by decide +kernel
theorem dX0_goBack_140 : decode cX0_goBack 140 = .ok (.iload_n 2, 1) := by decide +kernel
theorem dX0_goBack_141 : decode cX0_goBack 141 = .ok (.iadd, 1) := by decide +kernel
theorem dX0_goBack_142 : decode cX0_goBack 142 = .ok (.invokevirtual 220, 3) := by decide +kernel
theorem dX0_goBack_145 : decode cX0_goBack 145 = .ok (.iinc 8 1, 3) := by decide +kernel
theorem dX0_goBack_148 : decode cX0_goBack 148 = .ok (.goto (-56), 3) := by decide +kernel
theorem dX0_goBack_151 : decode cX0_goBack 151 = .ok (.iinc 5 1, 3) := by decide +kernel
theorem dX0_goBack_154 : decode cX0_goBack 154 = .ok (.goto (-110), 3) := by decide +kernel
theorem dX0_goBack_157 : decode cX0_goBack 157 = .ok (.return_, 1) := by decide +kernel
set_option maxRecDepth 20000 in
theorem moX0_goBack_157 {o : Hp} {F : Nat} {h : Hp} (hE : sX0_goBack_157 F h  = some o) : Le h o := by
  exact le_some1 hE
set_option maxRecDepth 20000 in
theorem moX0_goBack_151 {o : Hp} {k_44 : Hp → Nat → Int32 → Int64 → Int32 → Option (Hp)} {F : Nat} (mk_44 : ∀ (h : Hp) (x0 : Nat) (x2 : Int32) (x3 : Int64) (x5 : Int32), k_44 h x0 x2 x3 x5 = some o → Le h o) {h : Hp} {x0 : Nat} {x2 : Int32} {x3 : Int64} {x5 : Int32} (hE : sX0_goBack_151 F k_44 h x0 x2 x3 x5 = some o) : Le h o := by
  obtain ⟨v_1, ev_1, hE⟩ := nm_e2 hE
  exact mk_44 _ _ _ _ _ hE
set_option maxRecDepth 20000 in
theorem moX0_goBack_145 {o : Hp} {k_44 : Hp → Nat → Int32 → Int64 → Int32 → Option (Hp)} {k_92 : Hp → Nat → Int32 → Int64 → Int32 → Int32 → Int32 → Int32 → Option (Hp)} {F : Nat} (mk_44 : ∀ (h : Hp) (x0 : Nat) (x2 : Int32) (x3 : Int64) (x5 : Int32), k_44 h x0 x2 x3 x5 = some o → Le h o) (mk_92 : ∀ (h : Hp) (x0 : Nat) (x2 : Int32) (x3 : Int64) (x5 : Int32) (x6 : Int32) (x7 : Int32) (x8 : Int32), k_92 h x0 x2 x3 x5 x6 x7 x8 = some o → Le h o) {h : Hp} {x0 : Nat} {x2 : Int32} {x3 : Int64} {x5 : Int32} {x6 : Int32} {x7 : Int32} {x8 : Int32} (hE : sX0_goBack_145 F k_44 k_92 h x0 x2 x3 x5 x6 x7 x8 = some o) : Le h o := by
  obtain ⟨v_1, ev_1, hE⟩ := nm_e2 hE
  exact mk_92 _ _ _ _ _ _ _ _ hE
set_option maxRecDepth 20000 in
theorem moX0_goBack_92 {o : Hp} {k_44 : Hp → Nat → Int32 → Int64 → Int32 → Option (Hp)} {F : Nat} (mk_44 : ∀ (h : Hp) (x0 : Nat) (x2 : Int32) (x3 : Int64) (x5 : Int32), k_44 h x0 x2 x3 x5 = some o → Le h o) : ∀ (f : Nat) {h : Hp} {x0 : Nat} {x2 : Int32} {x3 : Int64} {x5 : Int32} {x6 : Int32} {x7 : Int32} {x8 : Int32}, sX0_goBack_92 F k_44 f h x0 x2 x3 x5 x6 x7 x8 = some o → Le h o := by
  intro f
  induction f with
  | zero =>
    intro h x0 x2 x3 x5 x6 x7 x8 hE
    rw [sX0_goBack_92] at hE
    cases hE
  | succ f ih =>
    intro h x0 x2 x3 x5 x6 x7 x8 hE
    rw [sX0_goBack_92] at hE
    have mk_92 : ∀ (h : Hp) (x0 : Nat) (x2 : Int32) (x3 : Int64) (x5 : Int32) (x6 : Int32) (x7 : Int32) (x8 : Int32), sX0_goBack_92 F k_44 f h x0 x2 x3 x5 x6 x7 x8 = some o → Le h o := fun h x0 x2 x3 x5 x6 x7 x8 hE => ih hE
    obtain ⟨r_1, er_1, hE⟩ := cl_e hE
    rcases br_e hE with ⟨_, hE⟩ | ⟨_, hE⟩
    · exact moX0_goBack_151 mk_44 hE
    · obtain ⟨r_3, er_3, hE⟩ := cl_e hE
      obtain ⟨o_4, eo_4, hE⟩ := cl_e hE
      refine (moX1_isLast eo_4).tr ?_
      rcases br_e hE with ⟨_, hE⟩ | ⟨_, hE⟩
      · exact moX0_goBack_151 mk_44 hE
      · obtain ⟨r_6, er_6, hE⟩ := cl_e hE
        obtain ⟨o_7, eo_7, hE⟩ := cl_e hE
        refine (moX1_becomesThis eo_7).tr ?_
        rcases br_e hE with ⟨_, hE⟩ | ⟨_, hE⟩
        · exact moX0_goBack_145 mk_44 mk_92 hE
        · obtain ⟨o_9, eo_9, hE⟩ := cl_e hE
          refine (moX0_takeBack eo_9).tr ?_
          exact moX0_goBack_145 mk_44 mk_92 hE
set_option maxRecDepth 20000 in
theorem moX0_goBack_44 {o : Hp} {F : Nat} : ∀ (f : Nat) {h : Hp} {x0 : Nat} {x2 : Int32} {x3 : Int64} {x5 : Int32}, sX0_goBack_44 F f h x0 x2 x3 x5 = some o → Le h o := by
  intro f
  induction f with
  | zero =>
    intro h x0 x2 x3 x5 hE
    rw [sX0_goBack_44] at hE
    cases hE
  | succ f ih =>
    intro h x0 x2 x3 x5 hE
    rw [sX0_goBack_44] at hE
    have mk_44 : ∀ (h : Hp) (x0 : Nat) (x2 : Int32) (x3 : Int64) (x5 : Int32), sX0_goBack_44 F f h x0 x2 x3 x5 = some o → Le h o := fun h x0 x2 x3 x5 hE => ih hE
    rcases br_e hE with ⟨_, hE⟩ | ⟨_, hE⟩
    · exact moX0_goBack_157 hE
    · rcases br_e hE with ⟨_, hE⟩ | ⟨_, hE⟩
      · exact moX0_goBack_157 hE
      · obtain ⟨o_3, eo_3, hE⟩ := cl_e hE
        refine (moX11_lowest eo_3).tr ?_
        obtain ⟨v_4, ev_4, hE⟩ := nm_e2 hE
        obtain ⟨r_5, er_5, hE⟩ := cl_e hE
        obtain ⟨r_6, er_6, hE⟩ := cl_e hE
        obtain ⟨g_7, hE⟩ := gd_e hE
        obtain ⟨v_8, ev_8, hE⟩ := nm_e2 hE
        obtain ⟨o_9, eo_9, hE⟩ := cl_e hE
        refine (moX0_takeBack eo_9).tr ?_
        exact moX0_goBack_92 mk_44 _ hE
set_option maxRecDepth 20000 in
theorem moX0_goBack_31 {o : Hp} {F : Nat} {h : Hp} {x0 : Nat} {x2 : Int32} (hE : sX0_goBack_31 F h x0 x2 = some o) : Le h o := by
  obtain ⟨r_1, er_1, hE⟩ := cl_e hE
  obtain ⟨r_2, er_2, hE⟩ := cl_e hE
  obtain ⟨g_3, hE⟩ := gd_e hE
  obtain ⟨v_4, ev_4, hE⟩ := nm_e2 hE
  exact moX0_goBack_44 _ hE
set_option maxRecDepth 20000 in
theorem moX0_goBack {o : Hp} {F : Nat} {h : Hp} {x0 : Nat} {x1 : Int32} (hE : sX0_goBack F h x0 x1 = some o) : Le h o := by
  obtain ⟨v_1, ev_1, hE⟩ := nm_e2 hE
  obtain ⟨r_2, er_2, hE⟩ := cl_e hE
  obtain ⟨o_3, eo_3, hE⟩ := cl_e hE
  refine (moX1_has eo_3).tr ?_
  rcases br_e hE with ⟨_, hE⟩ | ⟨_, hE⟩
  · exact moX0_goBack_31 hE
  · obtain ⟨r_5, er_5, hE⟩ := cl_e hE
    obtain ⟨r_6, er_6, hE⟩ := cl_e hE
    obtain ⟨o_7, eo_7, hE⟩ := cl_e hE
    refine (moX5_isRoyalHit eo_7).tr ?_
    rcases br_e hE with ⟨_, hE⟩ | ⟨_, hE⟩
    · exact moX0_goBack_31 hE
    · exact le_some1 hE
set_option maxRecDepth 20000 in
theorem bX0_goBack_157 {p : Program} {l : Launch} {e : Env} {s : State} {m : MethodId} {args : Array Value} {below : List Frame} {meth : Method} {c : Code} {X : Ec} {h0 : Hp} {o : Hp} {F : Nat} (C : Cx X p s m args meth c RX0 cX0_goBack 9 none "goBack") {h : Hp} {H : Heap} {locs : List Loc} (hkm : Km h0 h) (hW : Wx X h H) (hZ : va_S (aA (eB X)) s.heap H locs) (ls : Array Slot) (hl : lv_has ls 9 []) (hE : sX0_goBack_157 F h  = some o) : W p l e (rm 4 117) s m args below meth c H locs 0 0 (MQ below (QV X h0 o) args s 0 0 (aA (eB X))) (F0 m 157 ls []) := by
  exact x_vret C rfl hW hZ hkm hE dX0_goBack_157
set_option maxRecDepth 20000 in
theorem bX0_goBack_151 {p : Program} {l : Launch} {e : Env} {s : State} {m : MethodId} {args : Array Value} {below : List Frame} {meth : Method} {c : Code} {X : Ec} {h0 : Hp} {o : Hp} {k_44 : Hp → Nat → Int32 → Int64 → Int32 → Option (Hp)} {F : Nat} (C : Cx X p s m args meth c RX0 cX0_goBack 9 none "goBack") (hk_44 : ∀ (h : Hp) (x0 : Nat) (x2 : Int32) (x3 : Int64) (x5 : Int32) (H : Heap) (locs : List Loc), hK h x0 = 0 → Km h0 h → Wx X h H → va_S (aA (eB X)) s.heap H locs → ∀ (ls : Array Slot), lv_has ls 9 [(0, .ref x0), (2, .int x2), (3, .long x3), (5, .int x5)] → k_44 h x0 x2 x3 x5 = some o → W p l e (rm 4 117) s m args below meth c H locs 0 0 (MQ below (QV X h0 o) args s 0 0 (aA (eB X))) (F0 m 44 ls [])) {h : Hp} {x0 : Nat} {x2 : Int32} {x3 : Int64} {x5 : Int32} {H : Heap} {locs : List Loc} (k_x0 : hK h x0 = 0) (hkm : Km h0 h) (hW : Wx X h H) (hZ : va_S (aA (eB X)) s.heap H locs) (ls : Array Slot) (hl : lv_has ls 9 [(0, .ref x0), (2, .int x2), (3, .long x3), (5, .int x5)]) (hE : sX0_goBack_151 F k_44 h x0 x2 x3 x5 = some o) : W p l e (rm 4 117) s m args below meth c H locs 0 0 (MQ below (QV X h0 o) args s 0 0 (aA (eB X))) (F0 m 151 ls []) := by
  obtain ⟨v_1, ev_1, hE⟩ := nm_e2 hE
  refine lv_iinc (v := v_1) (lv' := [(5, .int v_1), (0, .ref x0), (2, .int x2), (3, .long x3)]) C.1 C.2.1 dX0_goBack_151 hl (k := 3) rfl (by rw [ev_1]; rfl) (by decide) rfl (fun ls hl => ?_)
  refine lv_goto (tgt := 44) C.1 C.2.1 dX0_goBack_154 (by decide) ?_
  exact hk_44 _ _ _ _ _ _ _ k_x0 hkm hW hZ _ (lv_sub hl [1, 2, 3, 0] rfl) hE
set_option maxRecDepth 20000 in
theorem bX0_goBack_145 {p : Program} {l : Launch} {e : Env} {s : State} {m : MethodId} {args : Array Value} {below : List Frame} {meth : Method} {c : Code} {X : Ec} {h0 : Hp} {o : Hp} {k_44 : Hp → Nat → Int32 → Int64 → Int32 → Option (Hp)} {k_92 : Hp → Nat → Int32 → Int64 → Int32 → Int32 → Int32 → Int32 → Option (Hp)} {F : Nat} (C : Cx X p s m args meth c RX0 cX0_goBack 9 none "goBack") (hk_44 : ∀ (h : Hp) (x0 : Nat) (x2 : Int32) (x3 : Int64) (x5 : Int32) (H : Heap) (locs : List Loc), hK h x0 = 0 → Km h0 h → Wx X h H → va_S (aA (eB X)) s.heap H locs → ∀ (ls : Array Slot), lv_has ls 9 [(0, .ref x0), (2, .int x2), (3, .long x3), (5, .int x5)] → k_44 h x0 x2 x3 x5 = some o → W p l e (rm 4 117) s m args below meth c H locs 0 0 (MQ below (QV X h0 o) args s 0 0 (aA (eB X))) (F0 m 44 ls [])) (hk_92 : ∀ (h : Hp) (x0 : Nat) (x2 : Int32) (x3 : Int64) (x5 : Int32) (x6 : Int32) (x7 : Int32) (x8 : Int32) (H : Heap) (locs : List Loc), hK h x0 = 0 → Km h0 h → Wx X h H → va_S (aA (eB X)) s.heap H locs → ∀ (ls : Array Slot), lv_has ls 9 [(0, .ref x0), (2, .int x2), (3, .long x3), (5, .int x5), (6, .int x6), (7, .int x7), (8, .int x8)] → k_92 h x0 x2 x3 x5 x6 x7 x8 = some o → W p l e (rm 4 117) s m args below meth c H locs 0 0 (MQ below (QV X h0 o) args s 0 0 (aA (eB X))) (F0 m 92 ls [])) {h : Hp} {x0 : Nat} {x2 : Int32} {x3 : Int64} {x5 : Int32} {x6 : Int32} {x7 : Int32} {x8 : Int32} {H : Heap} {locs : List Loc} (k_x0 : hK h x0 = 0) (hkm : Km h0 h) (hW : Wx X h H) (hZ : va_S (aA (eB X)) s.heap H locs) (ls : Array Slot) (hl : lv_has ls 9 [(0, .ref x0), (2, .int x2), (3, .long x3), (5, .int x5), (6, .int x6), (7, .int x7), (8, .int x8)]) (hE : sX0_goBack_145 F k_44 k_92 h x0 x2 x3 x5 x6 x7 x8 = some o) : W p l e (rm 4 117) s m args below meth c H locs 0 0 (MQ below (QV X h0 o) args s 0 0 (aA (eB X))) (F0 m 145 ls []) := by
  obtain ⟨v_1, ev_1, hE⟩ := nm_e2 hE
  refine lv_iinc (v := v_1) (lv' := [(8, .int v_1), (0, .ref x0), (2, .int x2), (3, .long x3), (5, .int x5), (6, .int x6), (7, .int x7)]) C.1 C.2.1 dX0_goBack_145 hl (k := 6) rfl (by rw [ev_1]; rfl) (by decide) rfl (fun ls hl => ?_)
  refine lv_goto (tgt := 92) C.1 C.2.1 dX0_goBack_148 (by decide) ?_
  exact hk_92 _ _ _ _ _ _ _ _ _ _ k_x0 hkm hW hZ _ (lv_sub hl [1, 2, 3, 4, 5, 6, 0] rfl) hE
set_option maxRecDepth 20000 in
theorem bX0_goBack_92 {p : Program} {l : Launch} {e : Env} {s : State} {m : MethodId} {args : Array Value} {below : List Frame} {meth : Method} {c : Code} {X : Ec} {h0 : Hp} {o : Hp} {k_44 : Hp → Nat → Int32 → Int64 → Int32 → Option (Hp)} {F : Nat} (C : Cx X p s m args meth c RX0 cX0_goBack 9 none "goBack") (hk_44 : ∀ (h : Hp) (x0 : Nat) (x2 : Int32) (x3 : Int64) (x5 : Int32) (H : Heap) (locs : List Loc), hK h x0 = 0 → Km h0 h → Wx X h H → va_S (aA (eB X)) s.heap H locs → ∀ (ls : Array Slot), lv_has ls 9 [(0, .ref x0), (2, .int x2), (3, .long x3), (5, .int x5)] → k_44 h x0 x2 x3 x5 = some o → W p l e (rm 4 117) s m args below meth c H locs 0 0 (MQ below (QV X h0 o) args s 0 0 (aA (eB X))) (F0 m 44 ls [])) : ∀ (f : Nat) {h : Hp} {x0 : Nat} {x2 : Int32} {x3 : Int64} {x5 : Int32} {x6 : Int32} {x7 : Int32} {x8 : Int32} {H : Heap} {locs : List Loc} (k_x0 : hK h x0 = 0), Km h0 h → Wx X h H → va_S (aA (eB X)) s.heap H locs → ∀ (ls : Array Slot), lv_has ls 9 [(0, .ref x0), (2, .int x2), (3, .long x3), (5, .int x5), (6, .int x6), (7, .int x7), (8, .int x8)] → sX0_goBack_92 F k_44 f h x0 x2 x3 x5 x6 x7 x8 = some o → W p l e (rm 4 117) s m args below meth c H locs 0 0 (MQ below (QV X h0 o) args s 0 0 (aA (eB X))) (F0 m 92 ls []) := by
  intro f
  induction f with
  | zero =>
    intro h x0 x2 x3 x5 x6 x7 x8 H locs k_x0 hkm hW hZ ls hl hE
    rw [sX0_goBack_92] at hE
    cases hE
  | succ f ih =>
    intro h x0 x2 x3 x5 x6 x7 x8 H locs k_x0 hkm hW hZ ls hl hE
    rw [sX0_goBack_92] at hE
    have hk_92 : ∀ (h : Hp) (x0 : Nat) (x2 : Int32) (x3 : Int64) (x5 : Int32) (x6 : Int32) (x7 : Int32) (x8 : Int32) (H : Heap) (locs : List Loc), hK h x0 = 0 → Km h0 h → Wx X h H → va_S (aA (eB X)) s.heap H locs → ∀ (ls : Array Slot), lv_has ls 9 [(0, .ref x0), (2, .int x2), (3, .long x3), (5, .int x5), (6, .int x6), (7, .int x7), (8, .int x8)] → sX0_goBack_92 F k_44 f h x0 x2 x3 x5 x6 x7 x8 = some o → W p l e (rm 4 117) s m args below meth c H locs 0 0 (MQ below (QV X h0 o) args s 0 0 (aA (eB X))) (F0 m 92 ls []) := fun h x0 x2 x3 x5 x6 x7 x8 H locs k_x0 a b c ls hl hE => ih k_x0 a b c ls hl hE
    refine lv_iload C.1 C.2.1 dX0_goBack_92 (lv_at hl 6 rfl) ?_
    refine lv_aload_n C.1 C.2.1 dX0_goBack_94 rfl (lv_at hl 0 rfl) ?_
    obtain ⟨r_1, er_1, hE⟩ := cl_e hE
    refine gf_X0_40 C hW k_x0 er_1 dX0_goBack_95 (fun k_r_1 => ?_)
    refine gf_X0_224 C hW k_r_1 dX0_goBack_98 ?_
    refine lv_icmp_ge (tgt := 151) C.1 C.2.1 dX0_goBack_101 (by decide) (fun c_2 => ?_) (fun c_2 => ?_)
    · have hE := br_p hE c_2
      exact bX0_goBack_151 C hk_44 k_x0 hkm hW hZ _ (lv_sub hl [0, 1, 2, 3] rfl) hE
    · have hE := br_n hE c_2
      refine lv_aload_n C.1 C.2.1 dX0_goBack_104 rfl (lv_at hl 0 rfl) ?_
      obtain ⟨r_3, er_3, hE⟩ := cl_e hE
      refine gf_X0_40 C hW k_x0 er_3 dX0_goBack_105 (fun k_r_3 => ?_)
      refine lv_iload C.1 C.2.1 dX0_goBack_108 (lv_at hl 4 rfl) ?_
      refine lv_iload_n C.1 C.2.1 dX0_goBack_110 rfl (lv_at hl 1 rfl) ?_
      obtain ⟨o_4, eo_4, hE⟩ := cl_e hE
      refine x_kI (o := o_4) (z_runV (As := [.int x6, .int x2]) (rest := []) C (ct_X1_isLast l X k_r_3 eo_4) cw_X0_173 hW hZ k_r_3 (by decide) rfl rfl rfl hl.1 (Nat.le_of_ble_eq_true rfl) rfl dX0_goBack_111 ⟨Nat.le_of_ble_eq_true rfl, Nat.le_of_ble_eq_true rfl⟩ ⟨Nat.le_refl _, Nat.le_refl _⟩) hZ (fun _ _ hW km hZ => ?_)
      replace hkm := hkm.tr km
      replace k_x0 := km.at k_x0 (by decide)
      refine lv_if_eq (tgt := 151) C.1 C.2.1 dX0_goBack_114 (by decide) (fun c_5 => ?_) (fun c_5 => ?_)
      · have hE := br_p hE c_5
        exact bX0_goBack_151 C hk_44 k_x0 hkm hW hZ _ (lv_sub hl [0, 1, 2, 3] rfl) hE
      · have hE := br_n hE c_5
        refine lv_aload_n C.1 C.2.1 dX0_goBack_117 rfl (lv_at hl 0 rfl) ?_
        obtain ⟨r_6, er_6, hE⟩ := cl_e hE
        refine gf_X0_40 C hW k_x0 er_6 dX0_goBack_118 (fun k_r_6 => ?_)
        refine lv_iload C.1 C.2.1 dX0_goBack_121 (lv_at hl 6 rfl) ?_
        refine lv_iload C.1 C.2.1 dX0_goBack_123 (lv_at hl 5 rfl) ?_
        refine lv_iconst (v := (1 : Int32)) C.1 C.2.1 dX0_goBack_125 (by decide) ?_
        refine lv_ishr C.1 C.2.1 dX0_goBack_126 ?_
        obtain ⟨o_7, eo_7, hE⟩ := cl_e hE
        refine x_kI (o := o_7) (z_runV (As := [.int x8, .int (x7 >>> ((1 : Int32) &&& 31))]) (rest := []) C (ct_X1_becomesThis l X F k_r_6 eo_7) cw_X0_227 hW hZ k_r_6 (by decide) rfl rfl rfl hl.1 (Nat.le_of_ble_eq_true rfl) rfl dX0_goBack_127 ⟨Nat.le_of_ble_eq_true rfl, Nat.le_of_ble_eq_true rfl⟩ ⟨Nat.le_refl _, Nat.le_refl _⟩) hZ (fun _ _ hW km hZ => ?_)
        replace hkm := hkm.tr km
        replace k_x0 := km.at k_x0 (by decide)
        refine lv_if_eq (tgt := 145) C.1 C.2.1 dX0_goBack_130 (by decide) (fun c_8 => ?_) (fun c_8 => ?_)
        · have hE := br_p hE c_8
          exact bX0_goBack_145 C hk_44 hk_92 k_x0 hkm hW hZ _ (lv_sub hl [0, 1, 2, 3, 4, 5, 6] rfl) hE
        · have hE := br_n hE c_8
          refine lv_aload_n C.1 C.2.1 dX0_goBack_133 rfl (lv_at hl 0 rfl) ?_
          refine lv_iload C.1 C.2.1 dX0_goBack_134 (lv_at hl 4 rfl) ?_
          refine lv_iconst (v := (2 : Int32)) C.1 C.2.1 dX0_goBack_136 (by decide) ?_
          refine lv_iload C.1 C.2.1 dX0_goBack_137 (lv_at hl 6 rfl) ?_
          refine lv_imul C.1 C.2.1 dX0_goBack_139 ?_
          refine lv_iload_n C.1 C.2.1 dX0_goBack_140 rfl (lv_at hl 1 rfl) ?_
          refine lv_iadd C.1 C.2.1 dX0_goBack_141 ?_
          obtain ⟨o_9, eo_9, hE⟩ := cl_e hE
          refine x_kV (o := o_9) (z_runV (As := [.int x6, .int (((2 : Int32) * x8) + x2)]) (rest := []) C (ct_X0_takeBack l X F k_x0 eo_9) cw_X0_220 hW hZ k_x0 (by decide) rfl rfl rfl hl.1 (Nat.le_of_ble_eq_true rfl) rfl dX0_goBack_142 ⟨Nat.le_of_ble_eq_true rfl, Nat.le_of_ble_eq_true rfl⟩ ⟨Nat.le_refl _, Nat.le_refl _⟩) hZ (fun _ _ hW km hZ => ?_)
          replace hkm := hkm.tr km
          replace k_x0 := km.at k_x0 (by decide)
          exact bX0_goBack_145 C hk_44 hk_92 k_x0 hkm hW hZ _ (lv_sub hl [0, 1, 2, 3, 4, 5, 6] rfl) hE
set_option maxRecDepth 20000 in
theorem bX0_goBack_44 {p : Program} {l : Launch} {e : Env} {s : State} {m : MethodId} {args : Array Value} {below : List Frame} {meth : Method} {c : Code} {X : Ec} {h0 : Hp} {o : Hp} {F : Nat} (C : Cx X p s m args meth c RX0 cX0_goBack 9 none "goBack") : ∀ (f : Nat) {h : Hp} {x0 : Nat} {x2 : Int32} {x3 : Int64} {x5 : Int32} {H : Heap} {locs : List Loc} (k_x0 : hK h x0 = 0), Km h0 h → Wx X h H → va_S (aA (eB X)) s.heap H locs → ∀ (ls : Array Slot), lv_has ls 9 [(0, .ref x0), (2, .int x2), (3, .long x3), (5, .int x5)] → sX0_goBack_44 F f h x0 x2 x3 x5 = some o → W p l e (rm 4 117) s m args below meth c H locs 0 0 (MQ below (QV X h0 o) args s 0 0 (aA (eB X))) (F0 m 44 ls []) := by
  intro f
  induction f with
  | zero =>
    intro h x0 x2 x3 x5 H locs k_x0 hkm hW hZ ls hl hE
    rw [sX0_goBack_44] at hE
    cases hE
  | succ f ih =>
    intro h x0 x2 x3 x5 H locs k_x0 hkm hW hZ ls hl hE
    rw [sX0_goBack_44] at hE
    have hk_44 : ∀ (h : Hp) (x0 : Nat) (x2 : Int32) (x3 : Int64) (x5 : Int32) (H : Heap) (locs : List Loc), hK h x0 = 0 → Km h0 h → Wx X h H → va_S (aA (eB X)) s.heap H locs → ∀ (ls : Array Slot), lv_has ls 9 [(0, .ref x0), (2, .int x2), (3, .long x3), (5, .int x5)] → sX0_goBack_44 F f h x0 x2 x3 x5 = some o → W p l e (rm 4 117) s m args below meth c H locs 0 0 (MQ below (QV X h0 o) args s 0 0 (aA (eB X))) (F0 m 44 ls []) := fun h x0 x2 x3 x5 H locs k_x0 a b c ls hl hE => ih k_x0 a b c ls hl hE
    refine lv_iload C.1 C.2.1 dX0_goBack_44 (lv_at hl 3 rfl) ?_
    refine lv_bipush (v := (64 : Int32)) C.1 C.2.1 dX0_goBack_46 (by decide) ?_
    refine lv_icmp_ge (tgt := 157) C.1 C.2.1 dX0_goBack_48 (by decide) (fun c_1 => ?_) (fun c_1 => ?_)
    · have hE := br_p hE c_1
      exact bX0_goBack_157 C hkm hW hZ _ (lv_sub hl [] rfl) hE
    · have hE := br_n hE c_1
      refine lv_lload_n C.1 C.2.1 dX0_goBack_51 rfl (lv_at hl 2 rfl) ?_
      refine lv_lconst (v := (0 : Int64)) C.1 C.2.1 dX0_goBack_52 (by decide) ?_
      refine W.lcmp C.1 C.2.1 dX0_goBack_53 ?_
      refine lv_if_eq (tgt := 157) C.1 C.2.1 dX0_goBack_54 (by decide) (fun c_2 => ?_) (fun c_2 => ?_)
      · have hE := br_p hE c_2
        exact bX0_goBack_157 C hkm hW hZ _ (lv_sub hl [] rfl) hE
      · have hE := br_n hE c_2
        refine lv_lload_n C.1 C.2.1 dX0_goBack_57 rfl (lv_at hl 2 rfl) ?_
        obtain ⟨o_3, eo_3, hE⟩ := cl_e hE
        refine x_kI (o := o_3) (x_runSN (As := [.long x3]) (rest := []) C (ct_X11_lowest l X eo_3) cn_X0_161 hW hZ rfl hl.1 (Nat.le_of_ble_eq_true rfl) rfl dX0_goBack_58 ⟨Nat.le_of_ble_eq_true rfl, Nat.le_of_ble_eq_true rfl⟩ ⟨Nat.le_refl _, Nat.le_refl _⟩) hZ (fun _ _ hW km hZ => ?_)
        replace hkm := hkm.tr km
        replace k_x0 := km.at k_x0 (by decide)
        refine lv_istore (lv' := [(6, .int o_3.1), (0, .ref x0), (2, .int x2), (3, .long x3), (5, .int x5)]) C.1 C.2.1 dX0_goBack_61 hl (by decide) rfl (fun ls hl => ?_)
        refine lv_lload_n C.1 C.2.1 dX0_goBack_63 rfl (lv_at hl 3 rfl) ?_
        refine lv_lload_n C.1 C.2.1 dX0_goBack_64 rfl (lv_at hl 3 rfl) ?_
        refine lv_lconst (v := (1 : Int64)) C.1 C.2.1 dX0_goBack_65 (by decide) ?_
        refine lv_lsub C.1 C.2.1 dX0_goBack_66 ?_
        refine lv_land C.1 C.2.1 dX0_goBack_67 ?_
        obtain ⟨v_4, ev_4, hE⟩ := nm_e2 hE
        refine x_nmJ ev_4 ?_
        refine lv_lstore_n (lv' := [(3, .long v_4), (6, .int o_3.1), (0, .ref x0), (2, .int x2), (5, .int x5)]) C.1 C.2.1 dX0_goBack_68 rfl hl (by decide) rfl (fun ls hl => ?_)
        refine lv_aload_n C.1 C.2.1 dX0_goBack_69 rfl (lv_at hl 2 rfl) ?_
        obtain ⟨r_5, er_5, hE⟩ := cl_e hE
        refine gf_X0_14 C hW k_x0 er_5 dX0_goBack_70 (fun k_r_5 => ?_)
        obtain ⟨r_6, er_6, hE⟩ := cl_e hE
        refine gf_X0_176 C hW k_r_5 er_6 dX0_goBack_73 (fun k_r_6 => ?_)
        refine lv_iload C.1 C.2.1 dX0_goBack_76 (lv_at hl 1 rfl) ?_
        obtain ⟨g_7, hE⟩ := gd_e hE
        refine y_bald C hW k_r_6 g_7 dX0_goBack_78 ?_
        obtain ⟨v_8, ev_8, hE⟩ := nm_e2 hE
        refine x_nmI ev_8 ?_
        refine lv_istore (lv' := [(7, .int v_8), (3, .long v_4), (6, .int o_3.1), (0, .ref x0), (2, .int x2), (5, .int x5)]) C.1 C.2.1 dX0_goBack_79 hl (by decide) rfl (fun ls hl => ?_)
        refine lv_aload_n C.1 C.2.1 dX0_goBack_81 rfl (lv_at hl 3 rfl) ?_
        refine lv_iload C.1 C.2.1 dX0_goBack_82 (lv_at hl 2 rfl) ?_
        refine lv_iload C.1 C.2.1 dX0_goBack_84 (lv_at hl 0 rfl) ?_
        obtain ⟨o_9, eo_9, hE⟩ := cl_e hE
        refine x_kV (o := o_9) (z_runV (As := [.int o_3.1, .int v_8]) (rest := []) C (ct_X0_takeBack l X F k_x0 eo_9) cw_X0_220 hW hZ k_x0 (by decide) rfl rfl rfl hl.1 (Nat.le_of_ble_eq_true rfl) rfl dX0_goBack_86 ⟨Nat.le_of_ble_eq_true rfl, Nat.le_of_ble_eq_true rfl⟩ ⟨Nat.le_refl _, Nat.le_refl _⟩) hZ (fun _ _ hW km hZ => ?_)
        replace hkm := hkm.tr km
        replace k_x0 := km.at k_x0 (by decide)
        refine lv_iconst (v := (0 : Int32)) C.1 C.2.1 dX0_goBack_89 (by decide) ?_
        refine lv_istore (lv' := [(8, .int (0 : Int32)), (7, .int v_8), (3, .long v_4), (6, .int o_3.1), (0, .ref x0), (2, .int x2), (5, .int x5)]) C.1 C.2.1 dX0_goBack_90 hl (by decide) rfl (fun ls hl => ?_)
        exact bX0_goBack_92 C hk_44 F k_x0 hkm hW hZ _ (lv_sub hl [4, 5, 2, 6, 3, 1, 0] rfl) hE
set_option maxRecDepth 20000 in
theorem bX0_goBack_31 {p : Program} {l : Launch} {e : Env} {s : State} {m : MethodId} {args : Array Value} {below : List Frame} {meth : Method} {c : Code} {X : Ec} {h0 : Hp} {o : Hp} {F : Nat} (C : Cx X p s m args meth c RX0 cX0_goBack 9 none "goBack") {h : Hp} {x0 : Nat} {x2 : Int32} {H : Heap} {locs : List Loc} (k_x0 : hK h x0 = 0) (hkm : Km h0 h) (hW : Wx X h H) (hZ : va_S (aA (eB X)) s.heap H locs) (ls : Array Slot) (hl : lv_has ls 9 [(0, .ref x0), (2, .int x2)]) (hE : sX0_goBack_31 F h x0 x2 = some o) : W p l e (rm 4 117) s m args below meth c H locs 0 0 (MQ below (QV X h0 o) args s 0 0 (aA (eB X))) (F0 m 31 ls []) := by
  refine lv_aload_n C.1 C.2.1 dX0_goBack_31 rfl (lv_at hl 0 rfl) ?_
  obtain ⟨r_1, er_1, hE⟩ := cl_e hE
  refine gf_X0_14 C hW k_x0 er_1 dX0_goBack_32 (fun k_r_1 => ?_)
  obtain ⟨r_2, er_2, hE⟩ := cl_e hE
  refine gf_X0_216 C hW k_r_1 er_2 dX0_goBack_35 (fun k_r_2 => ?_)
  refine lv_iload_n C.1 C.2.1 dX0_goBack_38 rfl (lv_at hl 1 rfl) ?_
  obtain ⟨g_3, hE⟩ := gd_e hE
  refine y_lald C hW k_r_2 g_3 dX0_goBack_39 ?_
  obtain ⟨v_4, ev_4, hE⟩ := nm_e2 hE
  refine x_nmJ ev_4 ?_
  refine lv_lstore_n (lv' := [(3, .long v_4), (0, .ref x0), (2, .int x2)]) C.1 C.2.1 dX0_goBack_40 rfl hl (by decide) rfl (fun ls hl => ?_)
  refine lv_iconst (v := (0 : Int32)) C.1 C.2.1 dX0_goBack_41 (by decide) ?_
  refine lv_istore (lv' := [(5, .int (0 : Int32)), (3, .long v_4), (0, .ref x0), (2, .int x2)]) C.1 C.2.1 dX0_goBack_42 hl (by decide) rfl (fun ls hl => ?_)
  exact bX0_goBack_44 C F k_x0 hkm hW hZ _ (lv_sub hl [2, 3, 1, 0] rfl) hE
set_option maxRecDepth 20000 in
theorem ct_X0_goBack (l : Launch) (X : Ec) (F : Nat) {h : Hp} {x0 : Nat} {x1 : Int32} {o : Hp} (k_x0 : hK h x0 = 0) (hE : sX0_goBack F h x0 x1 = some o) : MetV l yX0_goBack cX0_goBack 9 none 4 117 X [.ref x0, .int x1] h o := by
  refine x_met (by decide) (Nat.le_of_ble_eq_true rfl) ?_
  intro p e s m below meth c ls C hl hW hZ
  have hl : lv_has ls 9 [(0, .ref x0), (1, .int x1)] := hl
  have hkm : Km h h := Km.rf h
  refine lv_iconst (v := (1 : Int32)) C.1 C.2.1 dX0_goBack_0 (by decide) ?_
  refine lv_iload_n C.1 C.2.1 dX0_goBack_1 rfl (lv_at hl 1 rfl) ?_
  refine lv_isub C.1 C.2.1 dX0_goBack_2 ?_
  obtain ⟨v_1, ev_1, hE⟩ := nm_e2 hE
  refine x_nmI ev_1 ?_
  refine lv_istore_n (lv' := [(2, .int v_1), (0, .ref x0), (1, .int x1)]) C.1 C.2.1 dX0_goBack_3 rfl hl (by decide) rfl (fun ls hl => ?_)
  refine lv_aload_n C.1 C.2.1 dX0_goBack_4 rfl (lv_at hl 1 rfl) ?_
  obtain ⟨r_2, er_2, hE⟩ := cl_e hE
  refine gf_X0_40 C hW k_x0 er_2 dX0_goBack_5 (fun k_r_2 => ?_)
  refine lv_iconst (v := (4 : Int32)) C.1 C.2.1 dX0_goBack_8 (by decide) ?_
  obtain ⟨o_3, eo_3, hE⟩ := cl_e hE
  refine x_kI (o := o_3) (z_runV (As := [.int (4 : Int32)]) (rest := []) C (ct_X1_has l X k_r_2 eo_3) cw_X0_212 hW hZ k_r_2 (by decide) rfl rfl rfl hl.1 (Nat.le_of_ble_eq_true rfl) rfl dX0_goBack_9 ⟨Nat.le_of_ble_eq_true rfl, Nat.le_of_ble_eq_true rfl⟩ ⟨Nat.le_refl _, Nat.le_refl _⟩) hZ (fun _ _ hW km hZ => ?_)
  replace hkm := hkm.tr km
  replace k_x0 := km.at k_x0 (by decide)
  refine lv_if_eq (tgt := 31) C.1 C.2.1 dX0_goBack_12 (by decide) (fun c_4 => ?_) (fun c_4 => ?_)
  · have hE := br_p hE c_4
    exact bX0_goBack_31 C k_x0 hkm hW hZ _ (lv_sub hl [1, 0] rfl) hE
  · have hE := br_n hE c_4
    refine lv_aload_n C.1 C.2.1 dX0_goBack_15 rfl (lv_at hl 1 rfl) ?_
    obtain ⟨r_5, er_5, hE⟩ := cl_e hE
    refine gf_X0_48 C hW k_x0 er_5 dX0_goBack_16 (fun k_r_5 => ?_)
    refine lv_aload_n C.1 C.2.1 dX0_goBack_19 rfl (lv_at hl 1 rfl) ?_
    obtain ⟨r_6, er_6, hE⟩ := cl_e hE
    refine gf_X0_14 C hW k_x0 er_6 dX0_goBack_20 (fun k_r_6 => ?_)
    refine lv_iload_n C.1 C.2.1 dX0_goBack_23 rfl (lv_at hl 2 rfl) ?_
    obtain ⟨o_7, eo_7, hE⟩ := cl_e hE
    refine x_kI (o := o_7) (z_runV (As := [.ref r_6, .int x1]) (rest := []) C (ct_X5_isRoyalHit l X F k_r_5 k_r_6 eo_7) cw_X0_187 hW hZ k_r_5 (by decide) rfl rfl rfl hl.1 (Nat.le_of_ble_eq_true rfl) rfl dX0_goBack_24 ⟨Nat.le_of_ble_eq_true rfl, Nat.le_of_ble_eq_true rfl⟩ ⟨Nat.le_refl _, Nat.le_refl _⟩) hZ (fun _ _ hW km hZ => ?_)
    replace hkm := hkm.tr km
    replace k_x0 := km.at k_x0 (by decide)
    refine lv_if_eq (tgt := 31) C.1 C.2.1 dX0_goBack_27 (by decide) (fun c_8 => ?_) (fun c_8 => ?_)
    · have hE := br_p hE c_8
      exact bX0_goBack_31 C k_x0 hkm hW hZ _ (lv_sub hl [1, 0] rfl) hE
    · have hE := br_n hE c_8
      exact x_vret C rfl hW hZ hkm hE dX0_goBack_30
