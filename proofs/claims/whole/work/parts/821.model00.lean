set_option maxRecDepth 100000 in
theorem m_2111 : Cond.fieldLink RX15 7 (TX15 0).1 (TX15 0).2.1 (TX15 0).2.2.1 ∈ W0 := w0_in (List.mem_append_right _ (List.mem_of_getElem? (i := 2111) rfl)) rfl
set_option maxRecDepth 100000 in
theorem m_2112 : Cond.fieldLink RX15 1 (TX15 1).1 (TX15 1).2.1 (TX15 1).2.2.1 ∈ W0 := w0_in (List.mem_append_right _ (List.mem_of_getElem? (i := 2112) rfl)) rfl
theorem i_X15 : ∀ w ∈ u_ws RX15 TX15 71, w ∈ W0 := by
  intro w hw
  exact w0_in (List.mem_append_right _ (cl_in15 w hw)) ((by decide +kernel : ∀ w ∈ u_ws RX15 TX15 71, goodWord w = true) w hw)
section
variable {p : Program} {l : Launch} {e : Env} {R : Room} {s : State} {m : MethodId} {args : Array Value} {below : List Frame} {meth : Method} {c : Code} {H : Heap} {locs : List Loc} {cells slots : Nat} {Q : State → Prop}
variable {cc : ByteArray} {pc : Nat} {ls : Array Slot} {rest : List Value} {X : Ec} {h h1 : Hp} {nL : Nat} {rt : Option FieldType} {mn : String}
theorem gf_X15_7 {a r : Nat} (C : Cx X p s m args meth c RX15 cc nL rt mn) (hW : Wx X h H) (ha : hK h a = 15) (hr : hR h a 0 = some r) (hdg : decode cc pc = .ok (.getfield 7, 3)) (kk : hK h r = 16 → W p l e R s m args below meth c H locs cells slots Q (F0 m (pc + 3) ls (.ref r :: rest))) : W p l e R s m args below meth c H locs cells slots Q (F0 m pc ls (.ref a :: rest)) :=
  y_getr C hW ha i_X15 (by decide) rfl (by decide) m_2111 rfl rfl hr hdg kk
theorem gf_X15_1 {a : Nat} (C : Cx X p s m args meth c RX15 cc nL rt mn) (hW : Wx X h H) (ha : hK h a = 15) (hdg : decode cc pc = .ok (.getfield 1, 3)) (kk : W p l e R s m args below meth c H locs cells slots Q (F0 m (pc + 3) ls (.int (hI h a 1) :: rest))) : W p l e R s m args below meth c H locs cells slots Q (F0 m pc ls (.ref a :: rest)) :=
  y_geti C hW ha i_X15 (by decide) rfl (by decide) m_2112 rfl hdg kk
theorem pf_X15_1 {a : Nat} {v : Int32} (C : Cx X p s m args meth c RX15 cc nL rt mn) (hW : Wx X h H) (hZ : va_S (aA (eB X)) s.heap H locs) (ha : hK h a = 15) (eh : h1 = wI h a 1 v) (hdg : decode cc pc = .ok (.putfield 1, 3)) (kk : ∀ (H1 : Heap) (locs1 : List Loc), Wx X h1 H1 → Km h h1 → va_S (aA (eB X)) s.heap H1 locs1 → W p l e R s m args below meth c H1 locs1 cells slots Q (F0 m (pc + 3) ls rest)) : W p l e R s m args below meth c H locs cells slots Q (F0 m pc ls (.int v :: .ref a :: rest)) :=
  y_puti (ty := .int) C hW hZ ha i_X15 tyX15 tyX15_ok nmX15 (by decide) rfl rfl (by decide) m_2112 rfl (by decide +kernel) rfl rfl rfl eh hdg kk
end
theorem dX15_feed_0 : decode cX15_feed 0 = .ok (.aload_n 0, 1) := by decide +kernel
theorem dX15_feed_1 : decode cX15_feed 1 = .ok (.getfield 1, 3) := by decide +kernel
theorem dX15_feed_4 : decode cX15_feed 4 = .ok (.bipush 20, 2) := by decide +kernel
theorem dX15_feed_6 : decode cX15_feed 6 = .ok (.iadd, 1) := by decide +kernel
theorem dX15_feed_7 : decode cX15_feed 7 = .ok (.sipush 1200, 3) := by decide +kernel
theorem dX15_feed_10 : decode cX15_feed 10 = .ok (.if_icmp .le 6, 3) := by decide +kernel
theorem dX15_feed_13 : decode cX15_feed 13 = .ok (.bipush (-104), 2) := by decide +kernel
theorem dX15_feed_15 : decode cX15_feed 15 = .ok (.ireturn, 1) := by decide +kernel
theorem dX15_feed_16 : decode cX15_feed 16 = .ok (.iconst 0, 1) := by decide +kernel
theorem dX15_feed_17 : decode cX15_feed 17 = .ok (.istore 6, 2) := by decide +kernel
theorem dX15_feed_19 : decode cX15_feed 19 = .ok (.iload 6, 2) := by decide +kernel
theorem dX15_feed_21 : decode cX15_feed 21 = .ok (.bipush 20, 2) := by decide +kernel
theorem dX15_feed_23 : decode cX15_feed 23 = .ok (.if_icmp .ge 90, 3) := by decide +kernel
theorem dX15_feed_26 : decode cX15_feed 26 = .ok (.iload 6, 2) := by decide +kernel
theorem dX15_feed_28 : decode cX15_feed 28 = .ok (.iconst 4, 1) := by decide +kernel
theorem dX15_feed_29 : decode cX15_feed 29 = .ok (.if_icmp .ge 7, 3) := by decide +kernel
theorem dX15_feed_32 : decode cX15_feed 32 = .ok (.iload_n 1, 1) := by decide +kernel
theorem dX15_feed_33 : decode cX15_feed 33 = .ok (.goto 39, 3) := by decide +kernel
theorem dX15_feed_36 : decode cX15_feed 36 = .ok (.iload 6, 2) := by decide +kernel
theorem dX15_feed_38 : decode cX15_feed 38 = .ok (.bipush 8, 2) := by decide +kernel
theorem dX15_feed_40 : decode cX15_feed 40 = .ok (.if_icmp .ge 7, 3) := by decide +kernel
theorem dX15_feed_43 : decode cX15_feed 43 = .ok (.iload_n 2, 1) := by decide +kernel
theorem dX15_feed_44 : decode cX15_feed 44 = .ok (.goto 28, 3) := by decide +kernel
theorem dX15_feed_47 : decode cX15_feed 47 = .ok (.iload 6, 2) := by decide +kernel
theorem dX15_feed_49 : decode cX15_feed 49 = .ok (.bipush 12, 2) := by decide +kernel
theorem dX15_feed_51 : decode cX15_feed 51 = .ok (.if_icmp .ge 7, 3) := by decide +kernel
theorem dX15_feed_54 : decode cX15_feed 54 = .ok (.iload_n 3, 1) := by decide +kernel
theorem dX15_feed_55 : decode cX15_feed 55 = .ok (.goto 17, 3) := by decide +kernel
theorem dX15_feed_58 : decode cX15_feed 58 = .ok (.iload 6, 2) := by decide +kernel
theorem dX15_feed_60 : decode cX15_feed 60 = .ok (.bipush 16, 2) := by decide +kernel
theorem dX15_feed_62 : decode cX15_feed 62 = .ok (.if_icmp .ge 8, 3) := by decide +kernel
theorem dX15_feed_65 : decode cX15_feed 65 = .ok (.iload 4, 2) := by decide +kernel
theorem dX15_feed_67 : decode cX15_feed 67 = .ok (.goto 5, 3) := by decide +kernel
theorem dX15_feed_70 : decode cX15_feed 70 = .ok (.iload 5, 2) := by decide +kernel
theorem dX15_feed_72 : decode cX15_feed 72 = .ok (.istore 7, 2) := by decide +kernel
theorem dX15_feed_74 : decode cX15_feed 74 = .ok (.aload_n 0, 1) := by decide +kernel
theorem dX15_feed_75 : decode cX15_feed 75 = .ok (.getfield 7, 3) := by decide +kernel
theorem dX15_feed_78 : decode cX15_feed 78 = .ok (.aload_n 0, 1) := by decide +kernel
theorem dX15_feed_79 : decode cX15_feed 79 = .ok (.getfield 1, 3) := by decide +kernel
theorem dX15_feed_82 : decode cX15_feed 82 = .ok (.iload 7, 2) := by decide +kernel
theorem dX15_feed_84 : decode cX15_feed 84 = .ok (.bipush 24, 2) := by decide +kernel
theorem dX15_feed_86 : decode cX15_feed 86 = .ok (.bipush 8, 2) := by decide +kernel
theorem dX15_feed_88 : decode cX15_feed 88 = .ok (.iload 6, 2) := by decide +kernel
theorem dX15_feed_90 : decode cX15_feed 90 = .ok (.iconst 3, 1) := by decide +kernel
theorem dX15_feed_91 : decode cX15_feed 91 = .ok (.iand, 1) := by decide +kernel
theorem dX15_feed_92 : decode cX15_feed 92 = .ok (.imul, 1) := by decide +kernel
theorem dX15_feed_93 : decode cX15_feed 93 = .ok (.isub, 1) := by decide +kernel
theorem dX15_feed_94 : decode cX15_feed 94 = .ok (.ishr, 1) := by decide +kernel
theorem dX15_feed_95 : decode cX15_feed 95 = .ok (.i2b, 1) := by decide +kernel
theorem dX15_feed_96 : decode cX15_feed 96 = .ok (.bastore, 1) := by decide +kernel
theorem dX15_feed_97 : decode cX15_feed 97 = .ok (.aload_n 0, 1) := by decide +kernel
theorem dX15_feed_98 : decode cX15_feed 98 = .ok (.dup, 1) := by decide +kernel
theorem dX15_feed_99 : decode cX15_feed 99 = .ok (.getfield 1, 3) := by decide +kernel
theorem dX15_feed_102 : decode cX15_feed 102 = .ok (.iconst 1, 1) := by decide +kernel
theorem dX15_feed_103 : decode cX15_feed 103 = .ok (.iadd, 1) := by decide +kernel
theorem dX15_feed_104 : decode cX15_feed 104 = .ok (.putfield 1, 3) := by decide +kernel
theorem dX15_feed_107 : decode cX15_feed 107 = .ok (.iinc 6 1, 3) := by decide +kernel
theorem dX15_feed_110 : decode cX15_feed 110 = .ok (.goto (-91), 3) := by decide +kernel
theorem dX15_feed_113 : decode cX15_feed 113 = .ok (.aload_n 0, 1) := by decide +kernel
theorem dX15_feed_114 : decode cX15_feed 114 = .ok (.getfield 1, 3) := by decide +kernel
theorem dX15_feed_117 : decode cX15_feed 117 = .ok (.ireturn, 1) := by decide +kernel
set_option maxRecDepth 20000 in
theorem moX15_feed_72 {o : Int32 × Hp} {k_19 : Hp → Nat → Int32 → Int32 → Int32 → Int32 → Int32 → Int32 → Option (Int32 × Hp)} {F : Nat} (mk_19 : ∀ (h : Hp) (x0 : Nat) (x1 : Int32) (x2 : Int32) (x3 : Int32) (x4 : Int32) (x5 : Int32) (x6 : Int32), k_19 h x0 x1 x2 x3 x4 x5 x6 = some o → Le h o.2) {h : Hp} {x0 : Nat} {x1 : Int32} {x2 : Int32} {x3 : Int32} {x4 : Int32} {x5 : Int32} {x6 : Int32} {t0 : Int32} (hE : sX15_feed_72 F k_19 h x0 x1 x2 x3 x4 x5 x6 t0 = some o) : Le h o.2 := by
  obtain ⟨r_1, er_1, hE⟩ := cl_e hE
  obtain ⟨g_2, hE⟩ := gd_e hE
  obtain ⟨h_3, eh_3, hE⟩ := nm_e2 hE
  refine (le_I eh_3).tr ?_
  obtain ⟨h_4, eh_4, hE⟩ := nm_e2 hE
  refine (le_I eh_4).tr ?_
  obtain ⟨v_5, ev_5, hE⟩ := nm_e2 hE
  exact mk_19 _ _ _ _ _ _ _ _ hE
set_option maxRecDepth 20000 in
theorem moX15_feed_19 {o : Int32 × Hp} {F : Nat} : ∀ (f : Nat) {h : Hp} {x0 : Nat} {x1 : Int32} {x2 : Int32} {x3 : Int32} {x4 : Int32} {x5 : Int32} {x6 : Int32}, sX15_feed_19 F f h x0 x1 x2 x3 x4 x5 x6 = some o → Le h o.2 := by
  intro f
  induction f with
  | zero =>
    intro h x0 x1 x2 x3 x4 x5 x6 hE
    rw [sX15_feed_19] at hE
    cases hE
  | succ f ih =>
    intro h x0 x1 x2 x3 x4 x5 x6 hE
    rw [sX15_feed_19] at hE
    have mk_19 : ∀ (h : Hp) (x0 : Nat) (x1 : Int32) (x2 : Int32) (x3 : Int32) (x4 : Int32) (x5 : Int32) (x6 : Int32), sX15_feed_19 F f h x0 x1 x2 x3 x4 x5 x6 = some o → Le h o.2 := fun h x0 x1 x2 x3 x4 x5 x6 hE => ih hE
    rcases br_e hE with ⟨_, hE⟩ | ⟨_, hE⟩
    · exact le_some2 hE
    · rcases br_e hE with ⟨_, hE⟩ | ⟨_, hE⟩
      · rcases br_e hE with ⟨_, hE⟩ | ⟨_, hE⟩
        · rcases br_e hE with ⟨_, hE⟩ | ⟨_, hE⟩
          · rcases br_e hE with ⟨_, hE⟩ | ⟨_, hE⟩
            · exact moX15_feed_72 mk_19 hE
            · exact moX15_feed_72 mk_19 hE
          · exact moX15_feed_72 mk_19 hE
        · exact moX15_feed_72 mk_19 hE
      · exact moX15_feed_72 mk_19 hE
set_option maxRecDepth 20000 in
theorem moX15_feed {o : Int32 × Hp} {F : Nat} {h : Hp} {x0 : Nat} {x1 : Int32} {x2 : Int32} {x3 : Int32} {x4 : Int32} {x5 : Int32} (hE : sX15_feed F h x0 x1 x2 x3 x4 x5 = some o) : Le h o.2 := by
  rcases br_e hE with ⟨_, hE⟩ | ⟨_, hE⟩
  · exact moX15_feed_19 _ hE
  · exact le_some2 hE
set_option maxRecDepth 20000 in
theorem bX15_feed_72 {p : Program} {l : Launch} {e : Env} {s : State} {m : MethodId} {args : Array Value} {below : List Frame} {meth : Method} {c : Code} {X : Ec} {h0 : Hp} {o : Int32 × Hp} {k_19 : Hp → Nat → Int32 → Int32 → Int32 → Int32 → Int32 → Int32 → Option (Int32 × Hp)} {F : Nat} (C : Cx X p s m args meth c RX15 cX15_feed 8 (some .int) "feed") (hk_19 : ∀ (h : Hp) (x0 : Nat) (x1 : Int32) (x2 : Int32) (x3 : Int32) (x4 : Int32) (x5 : Int32) (x6 : Int32) (H : Heap) (locs : List Loc), hK h x0 = 15 → Km h0 h → Wx X h H → va_S (aA (eB X)) s.heap H locs → ∀ (ls : Array Slot), lv_has ls 8 [(0, .ref x0), (1, .int x1), (2, .int x2), (3, .int x3), (4, .int x4), (5, .int x5), (6, .int x6)] → k_19 h x0 x1 x2 x3 x4 x5 x6 = some o → W p l e (rm 0 0) s m args below meth c H locs 0 0 (MQ below (QI X h0 o.1 o.2) args s 0 0 (aA (eB X))) (F0 m 19 ls [])) {h : Hp} {x0 : Nat} {x1 : Int32} {x2 : Int32} {x3 : Int32} {x4 : Int32} {x5 : Int32} {x6 : Int32} {t0 : Int32} {H : Heap} {locs : List Loc} (k_x0 : hK h x0 = 15) (hkm : Km h0 h) (hW : Wx X h H) (hZ : va_S (aA (eB X)) s.heap H locs) (ls : Array Slot) (hl : lv_has ls 8 [(0, .ref x0), (1, .int x1), (2, .int x2), (3, .int x3), (4, .int x4), (5, .int x5), (6, .int x6)]) (hE : sX15_feed_72 F k_19 h x0 x1 x2 x3 x4 x5 x6 t0 = some o) : W p l e (rm 0 0) s m args below meth c H locs 0 0 (MQ below (QI X h0 o.1 o.2) args s 0 0 (aA (eB X))) (F0 m 72 ls [.int t0]) := by
  refine lv_istore (lv' := [(7, .int t0), (0, .ref x0), (1, .int x1), (2, .int x2), (3, .int x3), (4, .int x4), (5, .int x5), (6, .int x6)]) C.1 C.2.1 dX15_feed_72 hl (by decide) rfl (fun ls hl => ?_)
  refine lv_aload_n C.1 C.2.1 dX15_feed_74 rfl (lv_at hl 1 rfl) ?_
  obtain ⟨r_1, er_1, hE⟩ := cl_e hE
  refine gf_X15_7 C hW k_x0 er_1 dX15_feed_75 (fun k_r_1 => ?_)
  refine lv_aload_n C.1 C.2.1 dX15_feed_78 rfl (lv_at hl 1 rfl) ?_
  refine gf_X15_1 C hW k_x0 dX15_feed_79 ?_
  refine lv_iload C.1 C.2.1 dX15_feed_82 (lv_at hl 0 rfl) ?_
  refine lv_bipush (v := (24 : Int32)) C.1 C.2.1 dX15_feed_84 (by decide) ?_
  refine lv_bipush (v := (8 : Int32)) C.1 C.2.1 dX15_feed_86 (by decide) ?_
  refine lv_iload C.1 C.2.1 dX15_feed_88 (lv_at hl 7 rfl) ?_
  refine lv_iconst (v := (3 : Int32)) C.1 C.2.1 dX15_feed_90 (by decide) ?_
  refine lv_iand C.1 C.2.1 dX15_feed_91 ?_
  refine lv_imul C.1 C.2.1 dX15_feed_92 ?_
  refine lv_isub C.1 C.2.1 dX15_feed_93 ?_
  refine lv_ishr C.1 C.2.1 dX15_feed_94 ?_
  refine lv_i2b C.1 C.2.1 dX15_feed_95 rfl ?_
  obtain ⟨g_2, hE⟩ := gd_e hE
  obtain ⟨h_3, eh_3, hE⟩ := nm_e2 hE
  refine y_bast C hW hZ k_r_1 g_2 eh_3 dX15_feed_96 (fun _ _ hW km hZ => ?_)
  replace hkm := hkm.tr km
  replace k_x0 := km.at k_x0 (by decide)
  refine lv_aload_n C.1 C.2.1 dX15_feed_97 rfl (lv_at hl 1 rfl) ?_
  refine lv_dup C.1 C.2.1 dX15_feed_98 rfl ?_
  refine gf_X15_1 C hW k_x0 dX15_feed_99 ?_
  refine lv_iconst (v := (1 : Int32)) C.1 C.2.1 dX15_feed_102 (by decide) ?_
  refine lv_iadd C.1 C.2.1 dX15_feed_103 ?_
  obtain ⟨h_4, eh_4, hE⟩ := nm_e2 hE
  refine pf_X15_1 C hW hZ k_x0 eh_4 dX15_feed_104 (fun _ _ hW km hZ => ?_)
  replace hkm := hkm.tr km
  replace k_x0 := km.at k_x0 (by decide)
  obtain ⟨v_5, ev_5, hE⟩ := nm_e2 hE
  refine lv_iinc (v := v_5) (lv' := [(6, .int v_5), (7, .int t0), (0, .ref x0), (1, .int x1), (2, .int x2), (3, .int x3), (4, .int x4), (5, .int x5)]) C.1 C.2.1 dX15_feed_107 hl (k := 7) rfl (by rw [ev_5]; rfl) (by decide) rfl (fun ls hl => ?_)
  refine lv_goto (tgt := 19) C.1 C.2.1 dX15_feed_110 (by decide) ?_
  exact hk_19 _ _ _ _ _ _ _ _ _ _ k_x0 hkm hW hZ _ (lv_sub hl [2, 3, 4, 5, 6, 7, 0] rfl) hE
set_option maxRecDepth 20000 in
theorem bX15_feed_19 {p : Program} {l : Launch} {e : Env} {s : State} {m : MethodId} {args : Array Value} {below : List Frame} {meth : Method} {c : Code} {X : Ec} {h0 : Hp} {o : Int32 × Hp} {F : Nat} (C : Cx X p s m args meth c RX15 cX15_feed 8 (some .int) "feed") : ∀ (f : Nat) {h : Hp} {x0 : Nat} {x1 : Int32} {x2 : Int32} {x3 : Int32} {x4 : Int32} {x5 : Int32} {x6 : Int32} {H : Heap} {locs : List Loc} (k_x0 : hK h x0 = 15), Km h0 h → Wx X h H → va_S (aA (eB X)) s.heap H locs → ∀ (ls : Array Slot), lv_has ls 8 [(0, .ref x0), (1, .int x1), (2, .int x2), (3, .int x3), (4, .int x4), (5, .int x5), (6, .int x6)] → sX15_feed_19 F f h x0 x1 x2 x3 x4 x5 x6 = some o → W p l e (rm 0 0) s m args below meth c H locs 0 0 (MQ below (QI X h0 o.1 o.2) args s 0 0 (aA (eB X))) (F0 m 19 ls []) := by
  intro f
  induction f with
  | zero =>
    intro h x0 x1 x2 x3 x4 x5 x6 H locs k_x0 hkm hW hZ ls hl hE
    rw [sX15_feed_19] at hE
    cases hE
  | succ f ih =>
    intro h x0 x1 x2 x3 x4 x5 x6 H locs k_x0 hkm hW hZ ls hl hE
    rw [sX15_feed_19] at hE
    have hk_19 : ∀ (h : Hp) (x0 : Nat) (x1 : Int32) (x2 : Int32) (x3 : Int32) (x4 : Int32) (x5 : Int32) (x6 : Int32) (H : Heap) (locs : List Loc), hK h x0 = 15 → Km h0 h → Wx X h H → va_S (aA (eB X)) s.heap H locs → ∀ (ls : Array Slot), lv_has ls 8 [(0, .ref x0), (1, .int x1), (2, .int x2), (3, .int x3), (4, .int x4), (5, .int x5), (6, .int x6)] → sX15_feed_19 F f h x0 x1 x2 x3 x4 x5 x6 = some o → W p l e (rm 0 0) s m args below meth c H locs 0 0 (MQ below (QI X h0 o.1 o.2) args s 0 0 (aA (eB X))) (F0 m 19 ls []) := fun h x0 x1 x2 x3 x4 x5 x6 H locs k_x0 a b c ls hl hE => ih k_x0 a b c ls hl hE
    refine lv_iload C.1 C.2.1 dX15_feed_19 (lv_at hl 6 rfl) ?_
    refine lv_bipush (v := (20 : Int32)) C.1 C.2.1 dX15_feed_21 (by decide) ?_
    refine lv_icmp_ge (tgt := 113) C.1 C.2.1 dX15_feed_23 (by decide) (fun c_1 => ?_) (fun c_1 => ?_)
    · have hE := br_p hE c_1
      refine lv_aload_n C.1 C.2.1 dX15_feed_113 rfl (lv_at hl 0 rfl) ?_
      refine gf_X15_1 C hW k_x0 dX15_feed_114 ?_
      exact x_iret C rfl rfl hW hZ hkm hE dX15_feed_117
    · have hE := br_n hE c_1
      refine lv_iload C.1 C.2.1 dX15_feed_26 (lv_at hl 6 rfl) ?_
      refine lv_iconst (v := (4 : Int32)) C.1 C.2.1 dX15_feed_28 (by decide) ?_
      refine lv_icmp_ge (tgt := 36) C.1 C.2.1 dX15_feed_29 (by decide) (fun c_2 => ?_) (fun c_2 => ?_)
      · have hE := br_p hE c_2
        refine lv_iload C.1 C.2.1 dX15_feed_36 (lv_at hl 6 rfl) ?_
        refine lv_bipush (v := (8 : Int32)) C.1 C.2.1 dX15_feed_38 (by decide) ?_
        refine lv_icmp_ge (tgt := 47) C.1 C.2.1 dX15_feed_40 (by decide) (fun c_3 => ?_) (fun c_3 => ?_)
        · have hE := br_p hE c_3
          refine lv_iload C.1 C.2.1 dX15_feed_47 (lv_at hl 6 rfl) ?_
          refine lv_bipush (v := (12 : Int32)) C.1 C.2.1 dX15_feed_49 (by decide) ?_
          refine lv_icmp_ge (tgt := 58) C.1 C.2.1 dX15_feed_51 (by decide) (fun c_4 => ?_) (fun c_4 => ?_)
          · have hE := br_p hE c_4
            refine lv_iload C.1 C.2.1 dX15_feed_58 (lv_at hl 6 rfl) ?_
            refine lv_bipush (v := (16 : Int32)) C.1 C.2.1 dX15_feed_60 (by decide) ?_
            refine lv_icmp_ge (tgt := 70) C.1 C.2.1 dX15_feed_62 (by decide) (fun c_5 => ?_) (fun c_5 => ?_)
            · have hE := br_p hE c_5
              refine lv_iload C.1 C.2.1 dX15_feed_70 (lv_at hl 5 rfl) ?_
              exact bX15_feed_72 C hk_19 k_x0 hkm hW hZ _ (lv_sub hl [0, 1, 2, 3, 4, 5, 6] rfl) hE
            · have hE := br_n hE c_5
              refine lv_iload C.1 C.2.1 dX15_feed_65 (lv_at hl 4 rfl) ?_
              refine lv_goto (tgt := 72) C.1 C.2.1 dX15_feed_67 (by decide) ?_
              exact bX15_feed_72 C hk_19 k_x0 hkm hW hZ _ (lv_sub hl [0, 1, 2, 3, 4, 5, 6] rfl) hE
          · have hE := br_n hE c_4
            refine lv_iload_n C.1 C.2.1 dX15_feed_54 rfl (lv_at hl 3 rfl) ?_
            refine lv_goto (tgt := 72) C.1 C.2.1 dX15_feed_55 (by decide) ?_
            exact bX15_feed_72 C hk_19 k_x0 hkm hW hZ _ (lv_sub hl [0, 1, 2, 3, 4, 5, 6] rfl) hE
        · have hE := br_n hE c_3
          refine lv_iload_n C.1 C.2.1 dX15_feed_43 rfl (lv_at hl 2 rfl) ?_
          refine lv_goto (tgt := 72) C.1 C.2.1 dX15_feed_44 (by decide) ?_
          exact bX15_feed_72 C hk_19 k_x0 hkm hW hZ _ (lv_sub hl [0, 1, 2, 3, 4, 5, 6] rfl) hE
      · have hE := br_n hE c_2
        refine lv_iload_n C.1 C.2.1 dX15_feed_32 rfl (lv_at hl 1 rfl) ?_
        refine lv_goto (tgt := 72) C.1 C.2.1 dX15_feed_33 (by decide) ?_
        exact bX15_feed_72 C hk_19 k_x0 hkm hW hZ _ (lv_sub hl [0, 1, 2, 3, 4, 5, 6] rfl) hE
set_option maxRecDepth 20000 in
theorem ct_X15_feed (l : Launch) (X : Ec) (F : Nat) {h : Hp} {x0 : Nat} {x1 : Int32} {x2 : Int32} {x3 : Int32} {x4 : Int32} {x5 : Int32} {o : Int32 × Hp} (k_x0 : hK h x0 = 15) (hE : sX15_feed F h x0 x1 x2 x3 x4 x5 = some o) : MetI l yX15_feed cX15_feed 8 (some .int) 0 0 X [.ref x0, .int x1, .int x2, .int x3, .int x4, .int x5] h o := by
  refine x_met (by decide) (Nat.le_of_ble_eq_true rfl) ?_
  intro p e s m below meth c ls C hl hW hZ
  have hl : lv_has ls 8 [(0, .ref x0), (1, .int x1), (2, .int x2), (3, .int x3), (4, .int x4), (5, .int x5)] := hl
  have hkm : Km h h := Km.rf h
  refine lv_aload_n C.1 C.2.1 dX15_feed_0 rfl (lv_at hl 0 rfl) ?_
  refine gf_X15_1 C hW k_x0 dX15_feed_1 ?_
  refine lv_bipush (v := (20 : Int32)) C.1 C.2.1 dX15_feed_4 (by decide) ?_
  refine lv_iadd C.1 C.2.1 dX15_feed_6 ?_
  refine lv_sipush (v := (1200 : Int32)) C.1 C.2.1 dX15_feed_7 (by decide) ?_
  refine lv_icmp_le (tgt := 16) C.1 C.2.1 dX15_feed_10 (by decide) (fun c_1 => ?_) (fun c_1 => ?_)
  · have hE := br_p hE c_1
    refine lv_iconst (v := (0 : Int32)) C.1 C.2.1 dX15_feed_16 (by decide) ?_
    refine lv_istore (lv' := [(6, .int (0 : Int32)), (0, .ref x0), (1, .int x1), (2, .int x2), (3, .int x3), (4, .int x4), (5, .int x5)]) C.1 C.2.1 dX15_feed_17 hl (by decide) rfl (fun ls hl => ?_)
    exact bX15_feed_19 C F k_x0 hkm hW hZ _ (lv_sub hl [1, 2, 3, 4, 5, 6, 0] rfl) hE
  · have hE := br_n hE c_1
    refine lv_bipush (v := (-104 : Int32)) C.1 C.2.1 dX15_feed_13 (by decide) ?_
    exact x_iret C rfl rfl hW hZ hkm hE dX15_feed_15
theorem dX15_end_0 : decode cX15_end 0 = .ok (.iload_n 1, 1) := by decide +kernel
theorem dX15_end_1 : decode cX15_end 1 = .ok (.ifCond .lt 11, 3) := by decide +kernel
theorem dX15_end_4 : decode cX15_end 4 = .ok (.iload_n 1, 1) := by decide +kernel
theorem dX15_end_5 : decode cX15_end 5 = .ok (.aload_n 0, 1) := by decide +kernel
theorem dX15_end_6 : decode cX15_end 6 = .ok (.getfield 1, 3) := by decide +kernel
theorem dX15_end_9 : decode cX15_end 9 = .ok (.if_icmp .le 6, 3) := by decide +kernel
theorem dX15_end_12 : decode cX15_end 12 = .ok (.bipush (-101), 2) := by decide +kernel
theorem dX15_end_14 : decode cX15_end 14 = .ok (.ireturn, 1) := by decide +kernel
theorem dX15_end_15 : decode cX15_end 15 = .ok (.aload_n 0, 1) := by decide +kernel
theorem dX15_end_16 : decode cX15_end 16 = .ok (.iload_n 1, 1) := by decide +kernel
theorem dX15_end_17 : decode cX15_end 17 = .ok (.putfield 1, 3) := by decide +kernel
theorem dX15_end_20 : decode cX15_end 20 = .ok (.iload_n 1, 1) := by decide +kernel
theorem dX15_end_21 : decode cX15_end 21 = .ok (.ireturn, 1) := by decide +kernel
set_option maxRecDepth 20000 in
theorem moX15_end_12 {o : Int32 × Hp} {h : Hp} (hE : sX15_end_12 h  = some o) : Le h o.2 := by
  exact le_some2 hE
set_option maxRecDepth 20000 in
theorem moX15_end {o : Int32 × Hp} {h : Hp} {x0 : Nat} {x1 : Int32} (hE : sX15_end h x0 x1 = some o) : Le h o.2 := by
  rcases br_e hE with ⟨_, hE⟩ | ⟨_, hE⟩
  · exact moX15_end_12 hE
  · rcases br_e hE with ⟨_, hE⟩ | ⟨_, hE⟩
    · obtain ⟨h_3, eh_3, hE⟩ := nm_e2 hE
      refine (le_I eh_3).tr ?_
      exact le_some2 hE
    · exact moX15_end_12 hE
set_option maxRecDepth 20000 in
theorem bX15_end_12 {p : Program} {l : Launch} {e : Env} {s : State} {m : MethodId} {args : Array Value} {below : List Frame} {meth : Method} {c : Code} {X : Ec} {h0 : Hp} {o : Int32 × Hp} (C : Cx X p s m args meth c RX15 cX15_end 2 (some .int) "end") {h : Hp} {H : Heap} {locs : List Loc} (hkm : Km h0 h) (hW : Wx X h H) (hZ : va_S (aA (eB X)) s.heap H locs) (ls : Array Slot) (hl : lv_has ls 2 []) (hE : sX15_end_12 h  = some o) : W p l e (rm 0 0) s m args below meth c H locs 0 0 (MQ below (QI X h0 o.1 o.2) args s 0 0 (aA (eB X))) (F0 m 12 ls []) := by
  refine lv_bipush (v := (-101 : Int32)) C.1 C.2.1 dX15_end_12 (by decide) ?_
  exact x_iret C rfl rfl hW hZ hkm hE dX15_end_14
set_option maxRecDepth 20000 in
theorem ct_X15_end (l : Launch) (X : Ec) {h : Hp} {x0 : Nat} {x1 : Int32} {o : Int32 × Hp} (k_x0 : hK h x0 = 15) (hE : sX15_end h x0 x1 = some o) : MetI l yX15_end cX15_end 2 (some .int) 0 0 X [.ref x0, .int x1] h o := by
  refine x_met (by decide) (Nat.le_of_ble_eq_true rfl) ?_
  intro p e s m below meth c ls C hl hW hZ
  have hl : lv_has ls 2 [(0, .ref x0), (1, .int x1)] := hl
  have hkm : Km h h := Km.rf h
  refine lv_iload_n C.1 C.2.1 dX15_end_0 rfl (lv_at hl 1 rfl) ?_
  refine lv_if_lt (tgt := 12) C.1 C.2.1 dX15_end_1 (by decide) (fun c_1 => ?_) (fun c_1 => ?_)
  · have hE := br_p hE c_1
    exact bX15_end_12 C hkm hW hZ _ (lv_sub hl [] rfl) hE
  · have hE := br_n hE c_1
    refine lv_iload_n C.1 C.2.1 dX15_end_4 rfl (lv_at hl 1 rfl) ?_
    refine lv_aload_n C.1 C.2.1 dX15_end_5 rfl (lv_at hl 0 rfl) ?_
    refine gf_X15_1 C hW k_x0 dX15_end_6 ?_
    refine lv_icmp_le (tgt := 15) C.1 C.2.1 dX15_end_9 (by decide) (fun c_2 => ?_) (fun c_2 => ?_)
    · have hE := br_p hE c_2
      refine lv_aload_n C.1 C.2.1 dX15_end_15 rfl (lv_at hl 0 rfl) ?_
      refine lv_iload_n C.1 C.2.1 dX15_end_16 rfl (lv_at hl 1 rfl) ?_
      obtain ⟨h_3, eh_3, hE⟩ := nm_e2 hE
      refine pf_X15_1 C hW hZ k_x0 eh_3 dX15_end_17 (fun _ _ hW km hZ => ?_)
      replace hkm := hkm.tr km
      replace k_x0 := km.at k_x0 (by decide)
      refine lv_iload_n C.1 C.2.1 dX15_end_20 rfl (lv_at hl 1 rfl) ?_
      exact x_iret C rfl rfl hW hZ hkm hE dX15_end_21
    · have hE := br_n hE c_2
      exact bX15_end_12 C hkm hW hZ _ (lv_sub hl [] rfl) hE
set_option maxRecDepth 100000 in
theorem m_2113 : Cond.fieldLink RX15 14 (TX15 2).1 (TX15 2).2.1 (TX15 2).2.2.1 ∈ W0 := w0_in (List.mem_append_right _ (List.mem_of_getElem? (i := 2113) rfl)) rfl
set_option maxRecDepth 100000 in
theorem m_2114 : Cond.fieldLink RX15 11 (TX15 3).1 (TX15 3).2.1 (TX15 3).2.2.1 ∈ W0 := w0_in (List.mem_append_right _ (List.mem_of_getElem? (i := 2114) rfl)) rfl
section
variable {p : Program} {l : Launch} {e : Env} {R : Room} {s : State} {m : MethodId} {args : Array Value} {below : List Frame} {meth : Method} {c : Code} {H : Heap} {locs : List Loc} {cells slots : Nat} {Q : State → Prop}
variable {cc : ByteArray} {pc : Nat} {ls : Array Slot} {rest : List Value} {X : Ec} {h h1 : Hp} {nL : Nat} {rt : Option FieldType} {mn : String}
theorem gf_X15_11 {a : Nat} (C : Cx X p s m args meth c RX15 cc nL rt mn) (hW : Wx X h H) (ha : hK h a = 15) (hdg : decode cc pc = .ok (.getfield 11, 3)) (kk : W p l e R s m args below meth c H locs cells slots Q (F0 m (pc + 3) ls (.int (hI h a 3) :: rest))) : W p l e R s m args below meth c H locs cells slots Q (F0 m pc ls (.ref a :: rest)) :=
  y_geti C hW ha i_X15 (by decide) rfl (by decide) m_2114 rfl hdg kk
theorem gf_X15_14 {a r : Nat} (C : Cx X p s m args meth c RX15 cc nL rt mn) (hW : Wx X h H) (ha : hK h a = 15) (hr : hR h a 2 = some r) (hdg : decode cc pc = .ok (.getfield 14, 3)) (kk : hK h r = 16 → W p l e R s m args below meth c H locs cells slots Q (F0 m (pc + 3) ls (.ref r :: rest))) : W p l e R s m args below meth c H locs cells slots Q (F0 m pc ls (.ref a :: rest)) :=
  y_getr C hW ha i_X15 (by decide) rfl (by decide) m_2113 rfl rfl hr hdg kk
end
theorem dX15_out_0 : decode cX15_out 0 = .ok (.iload_n 1, 1) := by decide +kernel
theorem dX15_out_1 : decode cX15_out 1 = .ok (.ifCond .lt 11, 3) := by decide +kernel
theorem dX15_out_4 : decode cX15_out 4 = .ok (.iload_n 1, 1) := by decide +kernel
theorem dX15_out_5 : decode cX15_out 5 = .ok (.aload_n 0, 1) := by decide +kernel
theorem dX15_out_6 : decode cX15_out 6 = .ok (.getfield 11, 3) := by decide +kernel
theorem dX15_out_9 : decode cX15_out 9 = .ok (.if_icmp .lt 7, 3) := by decide +kernel
theorem dX15_out_12 : decode cX15_out 12 = .ok (.iconst (-1), 1) := by decide +kernel
theorem dX15_out_13 : decode cX15_out 13 = .ok (.goto 9, 3) := by decide +kernel
theorem dX15_out_16 : decode cX15_out 16 = .ok (.aload_n 0, 1) := by decide +kernel
theorem dX15_out_17 : decode cX15_out 17 = .ok (.getfield 14, 3) := by decide +kernel
theorem dX15_out_20 : decode cX15_out 20 = .ok (.iload_n 1, 1) := by decide +kernel
theorem dX15_out_21 : decode cX15_out 21 = .ok (.baload, 1) := by decide +kernel
theorem dX15_out_22 : decode cX15_out 22 = .ok (.ireturn, 1) := by decide +kernel
set_option maxRecDepth 20000 in
theorem moX15_out_22 {o : Int32 × Hp} {h : Hp} {t0 : Int32} (hE : sX15_out_22 h  t0 = some o) : Le h o.2 := by
  exact le_some2 hE
set_option maxRecDepth 20000 in
theorem moX15_out_12 {o : Int32 × Hp} {h : Hp} (hE : sX15_out_12 h  = some o) : Le h o.2 := by
  exact moX15_out_22 hE
set_option maxRecDepth 20000 in
theorem moX15_out {o : Int32 × Hp} {h : Hp} {x0 : Nat} {x1 : Int32} (hE : sX15_out h x0 x1 = some o) : Le h o.2 := by
  rcases br_e hE with ⟨_, hE⟩ | ⟨_, hE⟩
  · exact moX15_out_12 hE
  · rcases br_e hE with ⟨_, hE⟩ | ⟨_, hE⟩
    · obtain ⟨r_3, er_3, hE⟩ := cl_e hE
      obtain ⟨g_4, hE⟩ := gd_e hE
      exact moX15_out_22 hE
    · exact moX15_out_12 hE
set_option maxRecDepth 20000 in
theorem bX15_out_22 {p : Program} {l : Launch} {e : Env} {s : State} {m : MethodId} {args : Array Value} {below : List Frame} {meth : Method} {c : Code} {X : Ec} {h0 : Hp} {o : Int32 × Hp} (C : Cx X p s m args meth c RX15 cX15_out 2 (some .int) "out") {h : Hp} {t0 : Int32} {H : Heap} {locs : List Loc} (hkm : Km h0 h) (hW : Wx X h H) (hZ : va_S (aA (eB X)) s.heap H locs) (ls : Array Slot) (hl : lv_has ls 2 []) (hE : sX15_out_22 h  t0 = some o) : W p l e (rm 0 0) s m args below meth c H locs 0 0 (MQ below (QI X h0 o.1 o.2) args s 0 0 (aA (eB X))) (F0 m 22 ls [.int t0]) := by
  exact x_iret C rfl rfl hW hZ hkm hE dX15_out_22
set_option maxRecDepth 20000 in
theorem bX15_out_12 {p : Program} {l : Launch} {e : Env} {s : State} {m : MethodId} {args : Array Value} {below : List Frame} {meth : Method} {c : Code} {X : Ec} {h0 : Hp} {o : Int32 × Hp} (C : Cx X p s m args meth c RX15 cX15_out 2 (some .int) "out") {h : Hp} {H : Heap} {locs : List Loc} (hkm : Km h0 h) (hW : Wx X h H) (hZ : va_S (aA (eB X)) s.heap H locs) (ls : Array Slot) (hl : lv_has ls 2 []) (hE : sX15_out_12 h  = some o) : W p l e (rm 0 0) s m args below meth c H locs 0 0 (MQ below (QI X h0 o.1 o.2) args s 0 0 (aA (eB X))) (F0 m 12 ls []) := by
  refine lv_iconst (v := (-1 : Int32)) C.1 C.2.1 dX15_out_12 (by decide) ?_
  refine lv_goto (tgt := 22) C.1 C.2.1 dX15_out_13 (by decide) ?_
  exact bX15_out_22 C hkm hW hZ _ (lv_sub hl [] rfl) hE
set_option maxRecDepth 20000 in
theorem ct_X15_out (l : Launch) (X : Ec) {h : Hp} {x0 : Nat} {x1 : Int32} {o : Int32 × Hp} (k_x0 : hK h x0 = 15) (hE : sX15_out h x0 x1 = some o) : MetI l yX15_out cX15_out 2 (some .int) 0 0 X [.ref x0, .int x1] h o := by
  refine x_met (by decide) (Nat.le_of_ble_eq_true rfl) ?_
  intro p e s m below meth c ls C hl hW hZ
  have hl : lv_has ls 2 [(0, .ref x0), (1, .int x1)] := hl
  have hkm : Km h h := Km.rf h
  refine lv_iload_n C.1 C.2.1 dX15_out_0 rfl (lv_at hl 1 rfl) ?_
  refine lv_if_lt (tgt := 12) C.1 C.2.1 dX15_out_1 (by decide) (fun c_1 => ?_) (fun c_1 => ?_)
  · have hE := br_p hE c_1
    exact bX15_out_12 C hkm hW hZ _ (lv_sub hl [] rfl) hE
  · have hE := br_n hE c_1
    refine lv_iload_n C.1 C.2.1 dX15_out_4 rfl (lv_at hl 1 rfl) ?_
    refine lv_aload_n C.1 C.2.1 dX15_out_5 rfl (lv_at hl 0 rfl) ?_
    refine gf_X15_11 C hW k_x0 dX15_out_6 ?_
    refine lv_icmp_lt (tgt := 16) C.1 C.2.1 dX15_out_9 (by decide) (fun c_2 => ?_) (fun c_2 => ?_)
    · have hE := br_p hE c_2
      refine lv_aload_n C.1 C.2.1 dX15_out_16 rfl (lv_at hl 0 rfl) ?_
      obtain ⟨r_3, er_3, hE⟩ := cl_e hE
      refine gf_X15_14 C hW k_x0 er_3 dX15_out_17 (fun k_r_3 => ?_)
      refine lv_iload_n C.1 C.2.1 dX15_out_20 rfl (lv_at hl 1 rfl) ?_
      obtain ⟨g_4, hE⟩ := gd_e hE
      refine y_bald C hW k_r_3 g_4 dX15_out_21 ?_
      exact bX15_out_22 C hkm hW hZ _ (lv_sub hl [] rfl) hE
    · have hE := br_n hE c_2
      exact bX15_out_12 C hkm hW hZ _ (lv_sub hl [] rfl) hE
theorem dX15_byteAt_0 : decode cX15_byteAt 0 = .ok (.iload_n 3, 1) := by decide +kernel
theorem dX15_byteAt_1 : decode cX15_byteAt 1 = .ok (.iload_n 2, 1) := by decide +kernel
theorem dX15_byteAt_2 : decode cX15_byteAt 2 = .ok (.if_icmp .ge 9, 3) := by decide +kernel
theorem dX15_byteAt_5 : decode cX15_byteAt 5 = .ok (.aload_n 1, 1) := by decide +kernel
theorem dX15_byteAt_6 : decode cX15_byteAt 6 = .ok (.iload_n 3, 1) := by decide +kernel
theorem dX15_byteAt_7 : decode cX15_byteAt 7 = .ok (.baload, 1) := by decide +kernel
theorem dX15_byteAt_8 : decode cX15_byteAt 8 = .ok (.goto 4, 3) := by decide +kernel
theorem dX15_byteAt_11 : decode cX15_byteAt 11 = .ok (.iconst (-1), 1) := by decide +kernel
theorem dX15_byteAt_12 : decode cX15_byteAt 12 = .ok (.ireturn, 1) := by decide +kernel
set_option maxRecDepth 20000 in
theorem moX15_byteAt_12 {o : Int32 × Hp} {h : Hp} {t0 : Int32} (hE : sX15_byteAt_12 h  t0 = some o) : Le h o.2 := by
  exact le_some2 hE
set_option maxRecDepth 20000 in
theorem moX15_byteAt {o : Int32 × Hp} {h : Hp} {x0 : Nat} {x1 : Nat} {x2 : Int32} {x3 : Int32} (hE : sX15_byteAt h x0 x1 x2 x3 = some o) : Le h o.2 := by
  rcases br_e hE with ⟨_, hE⟩ | ⟨_, hE⟩
  · exact moX15_byteAt_12 hE
  · obtain ⟨g_2, hE⟩ := gd_e hE
    exact moX15_byteAt_12 hE
set_option maxRecDepth 20000 in
theorem bX15_byteAt_12 {p : Program} {l : Launch} {e : Env} {s : State} {m : MethodId} {args : Array Value} {below : List Frame} {meth : Method} {c : Code} {X : Ec} {h0 : Hp} {o : Int32 × Hp} (C : Cx X p s m args meth c RX15 cX15_byteAt 4 (some .int) "byteAt") {h : Hp} {t0 : Int32} {H : Heap} {locs : List Loc} (hkm : Km h0 h) (hW : Wx X h H) (hZ : va_S (aA (eB X)) s.heap H locs) (ls : Array Slot) (hl : lv_has ls 4 []) (hE : sX15_byteAt_12 h  t0 = some o) : W p l e (rm 0 0) s m args below meth c H locs 0 0 (MQ below (QI X h0 o.1 o.2) args s 0 0 (aA (eB X))) (F0 m 12 ls [.int t0]) := by
  exact x_iret C rfl rfl hW hZ hkm hE dX15_byteAt_12
set_option maxRecDepth 20000 in
theorem ct_X15_byteAt (l : Launch) (X : Ec) {h : Hp} {x0 : Nat} {x1 : Nat} {x2 : Int32} {x3 : Int32} {o : Int32 × Hp} (k_x0 : hK h x0 = 15) (k_x1 : hK h x1 = 16) (hE : sX15_byteAt h x0 x1 x2 x3 = some o) : MetI l yX15_byteAt cX15_byteAt 4 (some .int) 0 0 X [.ref x0, .ref x1, .int x2, .int x3] h o := by
  refine x_met (by decide) (Nat.le_of_ble_eq_true rfl) ?_
  intro p e s m below meth c ls C hl hW hZ
  have hl : lv_has ls 4 [(0, .ref x0), (1, .ref x1), (2, .int x2), (3, .int x3)] := hl
  have hkm : Km h h := Km.rf h
  refine lv_iload_n C.1 C.2.1 dX15_byteAt_0 rfl (lv_at hl 3 rfl) ?_
  refine lv_iload_n C.1 C.2.1 dX15_byteAt_1 rfl (lv_at hl 2 rfl) ?_
  refine lv_icmp_ge (tgt := 11) C.1 C.2.1 dX15_byteAt_2 (by decide) (fun c_1 => ?_) (fun c_1 => ?_)
  · have hE := br_p hE c_1
    refine lv_iconst (v := (-1 : Int32)) C.1 C.2.1 dX15_byteAt_11 (by decide) ?_
    exact bX15_byteAt_12 C hkm hW hZ _ (lv_sub hl [] rfl) hE
  · have hE := br_n hE c_1
    refine lv_aload_n C.1 C.2.1 dX15_byteAt_5 rfl (lv_at hl 1 rfl) ?_
    refine lv_iload_n C.1 C.2.1 dX15_byteAt_6 rfl (lv_at hl 3 rfl) ?_
    obtain ⟨g_2, hE⟩ := gd_e hE
    refine y_bald C hW k_x1 g_2 dX15_byteAt_7 ?_
    refine lv_goto (tgt := 12) C.1 C.2.1 dX15_byteAt_8 (by decide) ?_
    exact bX15_byteAt_12 C hkm hW hZ _ (lv_sub hl [] rfl) hE
theorem dX15_isSmall_0 : decode cX15_isSmall 0 = .ok (.iload_n 0, 1) := by decide +kernel
theorem dX15_isSmall_1 : decode cX15_isSmall 1 = .ok (.bipush 97, 2) := by decide +kernel
theorem dX15_isSmall_3 : decode cX15_isSmall 3 = .ok (.if_icmp .lt 13, 3) := by decide +kernel
theorem dX15_isSmall_6 : decode cX15_isSmall 6 = .ok (.iload_n 0, 1) := by decide +kernel
theorem dX15_isSmall_7 : decode cX15_isSmall 7 = .ok (.bipush 122, 2) := by decide +kernel
theorem dX15_isSmall_9 : decode cX15_isSmall 9 = .ok (.if_icmp .gt 7, 3) := by decide +kernel
theorem dX15_isSmall_12 : decode cX15_isSmall 12 = .ok (.iconst 1, 1) := by decide +kernel
theorem dX15_isSmall_13 : decode cX15_isSmall 13 = .ok (.goto 4, 3) := by decide +kernel
theorem dX15_isSmall_16 : decode cX15_isSmall 16 = .ok (.iconst 0, 1) := by decide +kernel
theorem dX15_isSmall_17 : decode cX15_isSmall 17 = .ok (.ireturn, 1) := by decide +kernel
set_option maxRecDepth 20000 in
theorem moX15_isSmall_17 {o : Int32 × Hp} {h : Hp} {t0 : Int32} (hE : sX15_isSmall_17 h  t0 = some o) : Le h o.2 := by
  obtain ⟨g_1, hE⟩ := gd_e hE
  exact le_some2 hE
set_option maxRecDepth 20000 in
theorem moX15_isSmall_16 {o : Int32 × Hp} {h : Hp} (hE : sX15_isSmall_16 h  = some o) : Le h o.2 := by
  exact moX15_isSmall_17 hE
set_option maxRecDepth 20000 in
theorem moX15_isSmall {o : Int32 × Hp} {h : Hp} {x0 : Int32} (hE : sX15_isSmall h x0 = some o) : Le h o.2 := by
  rcases br_e hE with ⟨_, hE⟩ | ⟨_, hE⟩
  · exact moX15_isSmall_16 hE
  · rcases br_e hE with ⟨_, hE⟩ | ⟨_, hE⟩
    · exact moX15_isSmall_16 hE
    · exact moX15_isSmall_17 hE
set_option maxRecDepth 20000 in
theorem bX15_isSmall_17 {p : Program} {l : Launch} {e : Env} {s : State} {m : MethodId} {args : Array Value} {below : List Frame} {meth : Method} {c : Code} {X : Ec} {h0 : Hp} {o : Int32 × Hp} (C : Cx X p s m args meth c RX15 cX15_isSmall 1 (some .boolean) "isSmall") {h : Hp} {t0 : Int32} {H : Heap} {locs : List Loc} (hkm : Km h0 h) (hW : Wx X h H) (hZ : va_S (aA (eB X)) s.heap H locs) (ls : Array Slot) (hl : lv_has ls 1 []) (hE : sX15_isSmall_17 h  t0 = some o) : W p l e (rm 0 0) s m args below meth c H locs 0 0 (MQ below (QI X h0 o.1 o.2) args s 0 0 (aA (eB X))) (F0 m 17 ls [.int t0]) := by
  obtain ⟨g_1, hE⟩ := gd_e hE
  exact x_iret C rfl (narB g_1) hW hZ hkm hE dX15_isSmall_17
set_option maxRecDepth 20000 in
theorem bX15_isSmall_16 {p : Program} {l : Launch} {e : Env} {s : State} {m : MethodId} {args : Array Value} {below : List Frame} {meth : Method} {c : Code} {X : Ec} {h0 : Hp} {o : Int32 × Hp} (C : Cx X p s m args meth c RX15 cX15_isSmall 1 (some .boolean) "isSmall") {h : Hp} {H : Heap} {locs : List Loc} (hkm : Km h0 h) (hW : Wx X h H) (hZ : va_S (aA (eB X)) s.heap H locs) (ls : Array Slot) (hl : lv_has ls 1 []) (hE : sX15_isSmall_16 h  = some o) : W p l e (rm 0 0) s m args below meth c H locs 0 0 (MQ below (QI X h0 o.1 o.2) args s 0 0 (aA (eB X))) (F0 m 16 ls []) := by
  refine lv_iconst (v := (0 : Int32)) C.1 C.2.1 dX15_isSmall_16 (by decide) ?_
  exact bX15_isSmall_17 C hkm hW hZ _ (lv_sub hl [] rfl) hE
set_option maxRecDepth 20000 in
theorem ct_X15_isSmall (l : Launch) (X : Ec) {h : Hp} {x0 : Int32} {o : Int32 × Hp} (hE : sX15_isSmall h x0 = some o) : MetI l yX15_isSmall cX15_isSmall 1 (some .boolean) 0 0 X [.int x0] h o := by
  refine x_met (by decide) (Nat.le_of_ble_eq_true rfl) ?_
  intro p e s m below meth c ls C hl hW hZ
  have hl : lv_has ls 1 [(0, .int x0)] := hl
  have hkm : Km h h := Km.rf h
  refine lv_iload_n C.1 C.2.1 dX15_isSmall_0 rfl (lv_at hl 0 rfl) ?_
  refine lv_bipush (v := (97 : Int32)) C.1 C.2.1 dX15_isSmall_1 (by decide) ?_
  refine lv_icmp_lt (tgt := 16) C.1 C.2.1 dX15_isSmall_3 (by decide) (fun c_1 => ?_) (fun c_1 => ?_)
  · have hE := br_p hE c_1
    exact bX15_isSmall_16 C hkm hW hZ _ (lv_sub hl [] rfl) hE
  · have hE := br_n hE c_1
    refine lv_iload_n C.1 C.2.1 dX15_isSmall_6 rfl (lv_at hl 0 rfl) ?_
    refine lv_bipush (v := (122 : Int32)) C.1 C.2.1 dX15_isSmall_7 (by decide) ?_
    refine lv_icmp_gt (tgt := 16) C.1 C.2.1 dX15_isSmall_9 (by decide) (fun c_2 => ?_) (fun c_2 => ?_)
    · have hE := br_p hE c_2
      exact bX15_isSmall_16 C hkm hW hZ _ (lv_sub hl [] rfl) hE
    · have hE := br_n hE c_2
      refine lv_iconst (v := (1 : Int32)) C.1 C.2.1 dX15_isSmall_12 (by decide) ?_
      refine lv_goto (tgt := 17) C.1 C.2.1 dX15_isSmall_13 (by decide) ?_
      exact bX15_isSmall_17 C hkm hW hZ _ (lv_sub hl [] rfl) hE
theorem dX15_isDigit_0 : decode cX15_isDigit 0 = .ok (.iload_n 0, 1) := by decide +kernel
theorem dX15_isDigit_1 : decode cX15_isDigit 1 = .ok (.bipush 48, 2) := by decide +kernel
theorem dX15_isDigit_3 : decode cX15_isDigit 3 = .ok (.if_icmp .lt 13, 3) := by decide +kernel
theorem dX15_isDigit_6 : decode cX15_isDigit 6 = .ok (.iload_n 0, 1) := by decide +kernel
theorem dX15_isDigit_7 : decode cX15_isDigit 7 = .ok (.bipush 57, 2) := by decide +kernel
theorem dX15_isDigit_9 : decode cX15_isDigit 9 = .ok (.if_icmp .gt 7, 3) := by decide +kernel
theorem dX15_isDigit_12 : decode cX15_isDigit 12 = .ok (.iconst 1, 1) := by decide +kernel
theorem dX15_isDigit_13 : decode cX15_isDigit 13 = .ok (.goto 4, 3) := by decide +kernel
theorem dX15_isDigit_16 : decode cX15_isDigit 16 = .ok (.iconst 0, 1) := by decide +kernel
theorem dX15_isDigit_17 : decode cX15_isDigit 17 = .ok (.ireturn, 1) := by decide +kernel
set_option maxRecDepth 20000 in
theorem moX15_isDigit_17 {o : Int32 × Hp} {h : Hp} {t0 : Int32} (hE : sX15_isDigit_17 h  t0 = some o) : Le h o.2 := by
  obtain ⟨g_1, hE⟩ := gd_e hE
  exact le_some2 hE
set_option maxRecDepth 20000 in
theorem moX15_isDigit_16 {o : Int32 × Hp} {h : Hp} (hE : sX15_isDigit_16 h  = some o) : Le h o.2 := by
  exact moX15_isDigit_17 hE
set_option maxRecDepth 20000 in
theorem moX15_isDigit {o : Int32 × Hp} {h : Hp} {x0 : Int32} (hE : sX15_isDigit h x0 = some o) : Le h o.2 := by
  rcases br_e hE with ⟨_, hE⟩ | ⟨_, hE⟩
  · exact moX15_isDigit_16 hE
  · rcases br_e hE with ⟨_, hE⟩ | ⟨_, hE⟩
    · exact moX15_isDigit_16 hE
    · exact moX15_isDigit_17 hE
set_option maxRecDepth 20000 in
theorem bX15_isDigit_17 {p : Program} {l : Launch} {e : Env} {s : State} {m : MethodId} {args : Array Value} {below : List Frame} {meth : Method} {c : Code} {X : Ec} {h0 : Hp} {o : Int32 × Hp} (C : Cx X p s m args meth c RX15 cX15_isDigit 1 (some .boolean) "isDigit") {h : Hp} {t0 : Int32} {H : Heap} {locs : List Loc} (hkm : Km h0 h) (hW : Wx X h H) (hZ : va_S (aA (eB X)) s.heap H locs) (ls : Array Slot) (hl : lv_has ls 1 []) (hE : sX15_isDigit_17 h  t0 = some o) : W p l e (rm 0 0) s m args below meth c H locs 0 0 (MQ below (QI X h0 o.1 o.2) args s 0 0 (aA (eB X))) (F0 m 17 ls [.int t0]) := by
  obtain ⟨g_1, hE⟩ := gd_e hE
  exact x_iret C rfl (narB g_1) hW hZ hkm hE dX15_isDigit_17
set_option maxRecDepth 20000 in
theorem bX15_isDigit_16 {p : Program} {l : Launch} {e : Env} {s : State} {m : MethodId} {args : Array Value} {below : List Frame} {meth : Method} {c : Code} {X : Ec} {h0 : Hp} {o : Int32 × Hp} (C : Cx X p s m args meth c RX15 cX15_isDigit 1 (some .boolean) "isDigit") {h : Hp} {H : Heap} {locs : List Loc} (hkm : Km h0 h) (hW : Wx X h H) (hZ : va_S (aA (eB X)) s.heap H locs) (ls : Array Slot) (hl : lv_has ls 1 []) (hE : sX15_isDigit_16 h  = some o) : W p l e (rm 0 0) s m args below meth c H locs 0 0 (MQ below (QI X h0 o.1 o.2) args s 0 0 (aA (eB X))) (F0 m 16 ls []) := by
  refine lv_iconst (v := (0 : Int32)) C.1 C.2.1 dX15_isDigit_16 (by decide) ?_
  exact bX15_isDigit_17 C hkm hW hZ _ (lv_sub hl [] rfl) hE
set_option maxRecDepth 20000 in
theorem ct_X15_isDigit (l : Launch) (X : Ec) {h : Hp} {x0 : Int32} {o : Int32 × Hp} (hE : sX15_isDigit h x0 = some o) : MetI l yX15_isDigit cX15_isDigit 1 (some .boolean) 0 0 X [.int x0] h o := by
  refine x_met (by decide) (Nat.le_of_ble_eq_true rfl) ?_
  intro p e s m below meth c ls C hl hW hZ
  have hl : lv_has ls 1 [(0, .int x0)] := hl
  have hkm : Km h h := Km.rf h
  refine lv_iload_n C.1 C.2.1 dX15_isDigit_0 rfl (lv_at hl 0 rfl) ?_
  refine lv_bipush (v := (48 : Int32)) C.1 C.2.1 dX15_isDigit_1 (by decide) ?_
  refine lv_icmp_lt (tgt := 16) C.1 C.2.1 dX15_isDigit_3 (by decide) (fun c_1 => ?_) (fun c_1 => ?_)
  · have hE := br_p hE c_1
    exact bX15_isDigit_16 C hkm hW hZ _ (lv_sub hl [] rfl) hE
  · have hE := br_n hE c_1
    refine lv_iload_n C.1 C.2.1 dX15_isDigit_6 rfl (lv_at hl 0 rfl) ?_
    refine lv_bipush (v := (57 : Int32)) C.1 C.2.1 dX15_isDigit_7 (by decide) ?_
    refine lv_icmp_gt (tgt := 16) C.1 C.2.1 dX15_isDigit_9 (by decide) (fun c_2 => ?_) (fun c_2 => ?_)
    · have hE := br_p hE c_2
      exact bX15_isDigit_16 C hkm hW hZ _ (lv_sub hl [] rfl) hE
    · have hE := br_n hE c_2
      refine lv_iconst (v := (1 : Int32)) C.1 C.2.1 dX15_isDigit_12 (by decide) ?_
      refine lv_goto (tgt := 17) C.1 C.2.1 dX15_isDigit_13 (by decide) ?_
      exact bX15_isDigit_17 C hkm hW hZ _ (lv_sub hl [] rfl) hE
set_option maxRecDepth 100000 in
theorem ms_115 : Cond.selects RX15 yX15_byteAt yX15_byteAt ∈ W0 := w0_in (List.mem_append_left _ (List.mem_of_getElem? (i := 115) rfl)) rfl
set_option maxRecDepth 100000 in
theorem m_19 : Cond.initialized RX15 ∈ W0 := w0_in (List.mem_append_right _ (List.mem_of_getElem? (i := 19) rfl)) rfl
set_option maxRecDepth 100000 in
theorem m_1998 : Cond.methodLink RX15 30 yX15_byteAt ∈ W0 := w0_in (List.mem_append_right _ (List.mem_of_getElem? (i := 1998) rfl)) rfl
set_option maxRecDepth 100000 in
theorem m_2000 : Cond.instanceMethod yX15_byteAt ∈ W0 := w0_in (List.mem_append_right _ (List.mem_of_getElem? (i := 2000) rfl)) rfl
set_option maxRecDepth 100000 in
theorem m_2001 : Cond.code yX15_byteAt cX15_byteAt 4 (some .int) ∈ W0 := w0_in (List.mem_append_right _ (List.mem_of_getElem? (i := 2001) rfl)) rfl
set_option maxRecDepth 100000 in
theorem m_2002 : Cond.methodLink RX15 37 yX15_isSmall ∈ W0 := w0_in (List.mem_append_right _ (List.mem_of_getElem? (i := 2002) rfl)) rfl
set_option maxRecDepth 100000 in
theorem m_2003 : Cond.static yX15_isSmall ∈ W0 := w0_in (List.mem_append_right _ (List.mem_of_getElem? (i := 2003) rfl)) rfl
set_option maxRecDepth 100000 in
theorem m_2004 : Cond.code yX15_isSmall cX15_isSmall 1 (some .boolean) ∈ W0 := w0_in (List.mem_append_right _ (List.mem_of_getElem? (i := 2004) rfl)) rfl
set_option maxRecDepth 100000 in
theorem m_2005 : Cond.methodLink RX15 41 yX15_isDigit ∈ W0 := w0_in (List.mem_append_right _ (List.mem_of_getElem? (i := 2005) rfl)) rfl
set_option maxRecDepth 100000 in
theorem m_2006 : Cond.static yX15_isDigit ∈ W0 := w0_in (List.mem_append_right _ (List.mem_of_getElem? (i := 2006) rfl)) rfl
set_option maxRecDepth 100000 in
theorem m_2007 : Cond.code yX15_isDigit cX15_isDigit 1 (some .boolean) ∈ W0 := w0_in (List.mem_append_right _ (List.mem_of_getElem? (i := 2007) rfl)) rfl
set_option maxRecDepth 100000 in
theorem m_2117 : Cond.fieldLink RX15 34 (TX15 6).1 (TX15 6).2.1 (TX15 6).2.2.1 ∈ W0 := w0_in (List.mem_append_right _ (List.mem_of_getElem? (i := 2117) rfl)) rfl
set_option maxRecDepth 100000 in
theorem m_2118 : Cond.fieldLink RX15 27 (TX15 7).1 (TX15 7).2.1 (TX15 7).2.2.1 ∈ W0 := w0_in (List.mem_append_right _ (List.mem_of_getElem? (i := 2118) rfl)) rfl
set_option maxRecDepth 100000 in
theorem m_2119 : Cond.fieldLink RX15 24 (TX15 8).1 (TX15 8).2.1 (TX15 8).2.2.1 ∈ W0 := w0_in (List.mem_append_right _ (List.mem_of_getElem? (i := 2119) rfl)) rfl
set_option maxRecDepth 100000 in
theorem m_2120 : Cond.fieldLink RX15 44 (TX15 9).1 (TX15 9).2.1 (TX15 9).2.2.1 ∈ W0 := w0_in (List.mem_append_right _ (List.mem_of_getElem? (i := 2120) rfl)) rfl
section
variable {p : Program} {l : Launch} {e : Env} {R : Room} {s : State} {m : MethodId} {args : Array Value} {below : List Frame} {meth : Method} {c : Code} {H : Heap} {locs : List Loc} {cells slots : Nat} {Q : State → Prop}
variable {cc : ByteArray} {pc : Nat} {ls : Array Slot} {rest : List Value} {X : Ec} {h h1 : Hp} {nL : Nat} {rt : Option FieldType} {mn : String}
theorem pf_X15_44 {a : Nat} {v : Int32} (C : Cx X p s m args meth c RX15 cc nL rt mn) (hW : Wx X h H) (hZ : va_S (aA (eB X)) s.heap H locs) (ha : hK h a = 15) (eh : h1 = wI h a 9 v) (hdg : decode cc pc = .ok (.putfield 44, 3)) (kk : ∀ (H1 : Heap) (locs1 : List Loc), Wx X h1 H1 → Km h h1 → va_S (aA (eB X)) s.heap H1 locs1 → W p l e R s m args below meth c H1 locs1 cells slots Q (F0 m (pc + 3) ls rest)) : W p l e R s m args below meth c H locs cells slots Q (F0 m pc ls (.int v :: .ref a :: rest)) :=
  y_puti (ty := .int) C hW hZ ha i_X15 tyX15 tyX15_ok nmX15 (by decide) rfl rfl (by decide) m_2120 rfl (by decide +kernel) rfl rfl rfl eh hdg kk
theorem pf_X15_24 {a : Nat} {v : Int32} (C : Cx X p s m args meth c RX15 cc nL rt mn) (hW : Wx X h H) (hZ : va_S (aA (eB X)) s.heap H locs) (ha : hK h a = 15) (eh : h1 = wI h a 8 v) (hdg : decode cc pc = .ok (.putfield 24, 3)) (kk : ∀ (H1 : Heap) (locs1 : List Loc), Wx X h1 H1 → Km h h1 → va_S (aA (eB X)) s.heap H1 locs1 → W p l e R s m args below meth c H1 locs1 cells slots Q (F0 m (pc + 3) ls rest)) : W p l e R s m args below meth c H locs cells slots Q (F0 m pc ls (.int v :: .ref a :: rest)) :=
  y_puti (ty := .int) C hW hZ ha i_X15 tyX15 tyX15_ok nmX15 (by decide) rfl rfl (by decide) m_2119 rfl (by decide +kernel) rfl rfl rfl eh hdg kk
theorem gf_X15_44 {a : Nat} (C : Cx X p s m args meth c RX15 cc nL rt mn) (hW : Wx X h H) (ha : hK h a = 15) (hdg : decode cc pc = .ok (.getfield 44, 3)) (kk : W p l e R s m args below meth c H locs cells slots Q (F0 m (pc + 3) ls (.int (hI h a 9) :: rest))) : W p l e R s m args below meth c H locs cells slots Q (F0 m pc ls (.ref a :: rest)) :=
  y_geti C hW ha i_X15 (by decide) rfl (by decide) m_2120 rfl hdg kk
theorem pf_X15_34 {a : Nat} {v : Int32} (C : Cx X p s m args meth c RX15 cc nL rt mn) (hW : Wx X h H) (hZ : va_S (aA (eB X)) s.heap H locs) (ha : hK h a = 15) (eh : h1 = wI h a 6 v) (hdg : decode cc pc = .ok (.putfield 34, 3)) (kk : ∀ (H1 : Heap) (locs1 : List Loc), Wx X h1 H1 → Km h h1 → va_S (aA (eB X)) s.heap H1 locs1 → W p l e R s m args below meth c H1 locs1 cells slots Q (F0 m (pc + 3) ls rest)) : W p l e R s m args below meth c H locs cells slots Q (F0 m pc ls (.int v :: .ref a :: rest)) :=
  y_puti (ty := .int) C hW hZ ha i_X15 tyX15 tyX15_ok nmX15 (by decide) rfl rfl (by decide) m_2117 rfl (by decide +kernel) rfl rfl rfl eh hdg kk
theorem pf_X15_27 {a : Nat} {v : Int32} (C : Cx X p s m args meth c RX15 cc nL rt mn) (hW : Wx X h H) (hZ : va_S (aA (eB X)) s.heap H locs) (ha : hK h a = 15) (eh : h1 = wI h a 7 v) (hdg : decode cc pc = .ok (.putfield 27, 3)) (kk : ∀ (H1 : Heap) (locs1 : List Loc), Wx X h1 H1 → Km h h1 → va_S (aA (eB X)) s.heap H1 locs1 → W p l e R s m args below meth c H1 locs1 cells slots Q (F0 m (pc + 3) ls rest)) : W p l e R s m args below meth c H locs cells slots Q (F0 m pc ls (.int v :: .ref a :: rest)) :=
  y_puti (ty := .int) C hW hZ ha i_X15 tyX15 tyX15_ok nmX15 (by decide) rfl rfl (by decide) m_2118 rfl (by decide +kernel) rfl rfl rfl eh hdg kk
theorem gf_X15_24 {a : Nat} (C : Cx X p s m args meth c RX15 cc nL rt mn) (hW : Wx X h H) (ha : hK h a = 15) (hdg : decode cc pc = .ok (.getfield 24, 3)) (kk : W p l e R s m args below meth c H locs cells slots Q (F0 m (pc + 3) ls (.int (hI h a 8) :: rest))) : W p l e R s m args below meth c H locs cells slots Q (F0 m pc ls (.ref a :: rest)) :=
  y_geti C hW ha i_X15 (by decide) rfl (by decide) m_2119 rfl hdg kk
end
theorem cw_X15_30 : cwd RX15 30 yX15_byteAt cX15_byteAt 4 (some .int) false 3 := ⟨m_2001, m_1998, m_19, ⟨m_2000, ms_115⟩, by decide, by decide, by decide +kernel⟩
theorem cw_X15_41 : cwd RX15 41 yX15_isDigit cX15_isDigit 1 (some .boolean) true 1 := ⟨m_2007, m_2005, m_19, m_2006, by decide, by decide, by decide +kernel⟩
theorem cw_X15_37 : cwd RX15 37 yX15_isSmall cX15_isSmall 1 (some .boolean) true 1 := ⟨m_2004, m_2002, m_19, m_2003, by decide, by decide, by decide +kernel⟩
theorem dX15_nextToken_0 : decode cX15_nextToken 0 = .ok (.aload_n 0, 1) := by decide +kernel
theorem dX15_nextToken_1 : decode cX15_nextToken 1 = .ok (.getfield 24, 3) := by decide +kernel
theorem dX15_nextToken_4 : decode cX15_nextToken 4 = .ok (.istore_n 3, 1) := by decide +kernel
theorem dX15_nextToken_5 : decode cX15_nextToken 5 = .ok (.iload_n 3, 1) := by decide +kernel
theorem dX15_nextToken_6 : decode cX15_nextToken 6 = .ok (.iload_n 2, 1) := by decide +kernel
theorem dX15_nextToken_7 : decode cX15_nextToken 7 = .ok (.if_icmp .ge 25, 3) := by decide +kernel
theorem dX15_nextToken_10 : decode cX15_nextToken 10 = .ok (.aload_n 1, 1) := by decide +kernel
theorem dX15_nextToken_11 : decode cX15_nextToken 11 = .ok (.iload_n 3, 1) := by decide +kernel
theorem dX15_nextToken_12 : decode cX15_nextToken 12 = .ok (.baload, 1) := by decide +kernel
theorem dX15_nextToken_13 : decode cX15_nextToken 13 = .ok (.bipush 32, 2) := by decide +kernel
theorem dX15_nextToken_15 : decode cX15_nextToken 15 = .ok (.if_icmp .eq 11, 3) := by decide +kernel
theorem dX15_nextToken_18 : decode cX15_nextToken 18 = .ok (.aload_n 1, 1) := by decide +kernel
theorem dX15_nextToken_19 : decode cX15_nextToken 19 = .ok (.iload_n 3, 1) := by decide +kernel
theorem dX15_nextToken_20 : decode cX15_nextToken 20 = .ok (.baload, 1) := by decide +kernel
theorem dX15_nextToken_21 : decode cX15_nextToken 21 = .ok (.bipush 10, 2) := by decide +kernel
theorem dX15_nextToken_23 : decode cX15_nextToken 23 = .ok (.if_icmp .ne 9, 3) := by decide +kernel
theorem dX15_nextToken_26 : decode cX15_nextToken 26 = .ok (.iinc 3 1, 3) := by decide +kernel
theorem dX15_nextToken_29 : decode cX15_nextToken 29 = .ok (.goto (-24), 3) := by decide +kernel
theorem dX15_nextToken_32 : decode cX15_nextToken 32 = .ok (.aload_n 0, 1) := by decide +kernel
theorem dX15_nextToken_33 : decode cX15_nextToken 33 = .ok (.iload_n 3, 1) := by decide +kernel
theorem dX15_nextToken_34 : decode cX15_nextToken 34 = .ok (.putfield 27, 3) := by decide +kernel
theorem dX15_nextToken_37 : decode cX15_nextToken 37 = .ok (.aload_n 0, 1) := by decide +kernel
theorem dX15_nextToken_38 : decode cX15_nextToken 38 = .ok (.aload_n 1, 1) := by decide +kernel
theorem dX15_nextToken_39 : decode cX15_nextToken 39 = .ok (.iload_n 2, 1) := by decide +kernel
theorem dX15_nextToken_40 : decode cX15_nextToken 40 = .ok (.iload_n 3, 1) := by decide +kernel
theorem dX15_nextToken_41 : decode cX15_nextToken 41 = .ok (.invokevirtual 30, 3) := by decide +kernel
theorem dX15_nextToken_44 : decode cX15_nextToken 44 = .ok (.istore 4, 2) := by decide +kernel
theorem dX15_nextToken_46 : decode cX15_nextToken 46 = .ok (.iload_n 3, 1) := by decide +kernel
theorem dX15_nextToken_47 : decode cX15_nextToken 47 = .ok (.iload_n 2, 1) := by decide +kernel
theorem dX15_nextToken_48 : decode cX15_nextToken 48 = .ok (.if_icmp .lt 21, 3) := by decide +kernel
theorem dX15_nextToken_51 : decode cX15_nextToken 51 = .ok (.aload_n 0, 1) := by decide +kernel
theorem dX15_nextToken_52 : decode cX15_nextToken 52 = .ok (.iload_n 2, 1) := by decide +kernel
theorem dX15_nextToken_53 : decode cX15_nextToken 53 = .ok (.putfield 27, 3) := by decide +kernel
theorem dX15_nextToken_56 : decode cX15_nextToken 56 = .ok (.aload_n 0, 1) := by decide +kernel
theorem dX15_nextToken_57 : decode cX15_nextToken 57 = .ok (.iload_n 2, 1) := by decide +kernel
theorem dX15_nextToken_58 : decode cX15_nextToken 58 = .ok (.putfield 24, 3) := by decide +kernel
theorem dX15_nextToken_61 : decode cX15_nextToken 61 = .ok (.aload_n 0, 1) := by decide +kernel
theorem dX15_nextToken_62 : decode cX15_nextToken 62 = .ok (.iconst 4, 1) := by decide +kernel
theorem dX15_nextToken_63 : decode cX15_nextToken 63 = .ok (.putfield 34, 3) := by decide +kernel
theorem dX15_nextToken_66 : decode cX15_nextToken 66 = .ok (.goto 242, 3) := by decide +kernel
theorem dX15_nextToken_69 : decode cX15_nextToken 69 = .ok (.iload 4, 2) := by decide +kernel
theorem dX15_nextToken_71 : decode cX15_nextToken 71 = .ok (.invokestatic 37, 3) := by decide +kernel
theorem dX15_nextToken_74 : decode cX15_nextToken 74 = .ok (.ifCond .eq 35, 3) := by decide +kernel
theorem dX15_nextToken_77 : decode cX15_nextToken 77 = .ok (.aload_n 0, 1) := by decide +kernel
theorem dX15_nextToken_78 : decode cX15_nextToken 78 = .ok (.aload_n 1, 1) := by decide +kernel
theorem dX15_nextToken_79 : decode cX15_nextToken 79 = .ok (.iload_n 2, 1) := by decide +kernel
theorem dX15_nextToken_80 : decode cX15_nextToken 80 = .ok (.iload_n 3, 1) := by decide +kernel
theorem dX15_nextToken_81 : decode cX15_nextToken 81 = .ok (.invokevirtual 30, 3) := by decide +kernel
theorem dX15_nextToken_84 : decode cX15_nextToken 84 = .ok (.invokestatic 37, 3) := by decide +kernel
theorem dX15_nextToken_87 : decode cX15_nextToken 87 = .ok (.ifCond .eq 9, 3) := by decide +kernel
theorem dX15_nextToken_90 : decode cX15_nextToken 90 = .ok (.iinc 3 1, 3) := by decide +kernel
theorem dX15_nextToken_93 : decode cX15_nextToken 93 = .ok (.goto (-16), 3) := by decide +kernel
theorem dX15_nextToken_96 : decode cX15_nextToken 96 = .ok (.aload_n 0, 1) := by decide +kernel
theorem dX15_nextToken_97 : decode cX15_nextToken 97 = .ok (.iconst 1, 1) := by decide +kernel
theorem dX15_nextToken_98 : decode cX15_nextToken 98 = .ok (.putfield 34, 3) := by decide +kernel
theorem dX15_nextToken_101 : decode cX15_nextToken 101 = .ok (.aload_n 0, 1) := by decide +kernel
theorem dX15_nextToken_102 : decode cX15_nextToken 102 = .ok (.iload_n 3, 1) := by decide +kernel
theorem dX15_nextToken_103 : decode cX15_nextToken 103 = .ok (.putfield 24, 3) := by decide +kernel
theorem dX15_nextToken_106 : decode cX15_nextToken 106 = .ok (.goto 202, 3) := by decide +kernel
theorem dX15_nextToken_109 : decode cX15_nextToken 109 = .ok (.iload 4, 2) := by decide +kernel
theorem dX15_nextToken_111 : decode cX15_nextToken 111 = .ok (.invokestatic 41, 3) := by decide +kernel
theorem dX15_nextToken_114 : decode cX15_nextToken 114 = .ok (.ifCond .ne 25, 3) := by decide +kernel
theorem dX15_nextToken_117 : decode cX15_nextToken 117 = .ok (.iload 4, 2) := by decide +kernel
theorem dX15_nextToken_119 : decode cX15_nextToken 119 = .ok (.bipush 45, 2) := by decide +kernel
theorem dX15_nextToken_121 : decode cX15_nextToken 121 = .ok (.if_icmp .ne 157, 3) := by decide +kernel
theorem dX15_nextToken_124 : decode cX15_nextToken 124 = .ok (.aload_n 0, 1) := by decide +kernel
theorem dX15_nextToken_125 : decode cX15_nextToken 125 = .ok (.aload_n 1, 1) := by decide +kernel
theorem dX15_nextToken_126 : decode cX15_nextToken 126 = .ok (.iload_n 2, 1) := by decide +kernel
theorem dX15_nextToken_127 : decode cX15_nextToken 127 = .ok (.iload_n 3, 1) := by decide +kernel
theorem dX15_nextToken_128 : decode cX15_nextToken 128 = .ok (.iconst 1, 1) := by decide +kernel
theorem dX15_nextToken_129 : decode cX15_nextToken 129 = .ok (.iadd, 1) := by decide +kernel
theorem dX15_nextToken_130 : decode cX15_nextToken 130 = .ok (.invokevirtual 30, 3) := by decide +kernel
theorem dX15_nextToken_133 : decode cX15_nextToken 133 = .ok (.invokestatic 41, 3) := by decide +kernel
theorem dX15_nextToken_136 : decode cX15_nextToken 136 = .ok (.ifCond .eq 142, 3) := by decide +kernel
theorem dX15_nextToken_139 : decode cX15_nextToken 139 = .ok (.iload 4, 2) := by decide +kernel
theorem dX15_nextToken_141 : decode cX15_nextToken 141 = .ok (.bipush 45, 2) := by decide +kernel
theorem dX15_nextToken_143 : decode cX15_nextToken 143 = .ok (.if_icmp .ne 9, 3) := by decide +kernel
theorem dX15_nextToken_146 : decode cX15_nextToken 146 = .ok (.iload_n 3, 1) := by decide +kernel
theorem dX15_nextToken_147 : decode cX15_nextToken 147 = .ok (.iconst 1, 1) := by decide +kernel
theorem dX15_nextToken_148 : decode cX15_nextToken 148 = .ok (.iadd, 1) := by decide +kernel
theorem dX15_nextToken_149 : decode cX15_nextToken 149 = .ok (.goto 4, 3) := by decide +kernel
theorem dX15_nextToken_152 : decode cX15_nextToken 152 = .ok (.iload_n 3, 1) := by decide +kernel
theorem dX15_nextToken_153 : decode cX15_nextToken 153 = .ok (.istore 5, 2) := by decide +kernel
theorem dX15_nextToken_155 : decode cX15_nextToken 155 = .ok (.iload 5, 2) := by decide +kernel
theorem dX15_nextToken_157 : decode cX15_nextToken 157 = .ok (.istore 6, 2) := by decide +kernel
theorem dX15_nextToken_159 : decode cX15_nextToken 159 = .ok (.aload_n 0, 1) := by decide +kernel
theorem dX15_nextToken_160 : decode cX15_nextToken 160 = .ok (.aload_n 1, 1) := by decide +kernel
theorem dX15_nextToken_161 : decode cX15_nextToken 161 = .ok (.iload_n 2, 1) := by decide +kernel
theorem dX15_nextToken_162 : decode cX15_nextToken 162 = .ok (.iload 6, 2) := by decide +kernel
theorem dX15_nextToken_164 : decode cX15_nextToken 164 = .ok (.invokevirtual 30, 3) := by decide +kernel
theorem dX15_nextToken_167 : decode cX15_nextToken 167 = .ok (.invokestatic 41, 3) := by decide +kernel
theorem dX15_nextToken_170 : decode cX15_nextToken 170 = .ok (.ifCond .eq 9, 3) := by decide +kernel
theorem dX15_nextToken_173 : decode cX15_nextToken 173 = .ok (.iinc 6 1, 3) := by decide +kernel
theorem dX15_nextToken_176 : decode cX15_nextToken 176 = .ok (.goto (-17), 3) := by decide +kernel
theorem dX15_nextToken_179 : decode cX15_nextToken 179 = .ok (.aload_n 0, 1) := by decide +kernel
theorem dX15_nextToken_180 : decode cX15_nextToken 180 = .ok (.iload 6, 2) := by decide +kernel
theorem dX15_nextToken_182 : decode cX15_nextToken 182 = .ok (.iload 5, 2) := by decide +kernel
theorem dX15_nextToken_184 : decode cX15_nextToken 184 = .ok (.isub, 1) := by decide +kernel
theorem dX15_nextToken_185 : decode cX15_nextToken 185 = .ok (.iconst 2, 1) := by decide +kernel
theorem dX15_nextToken_186 : decode cX15_nextToken 186 = .ok (.if_icmp .gt 7, 3) := by decide +kernel
theorem dX15_nextToken_189 : decode cX15_nextToken 189 = .ok (.iconst 2, 1) := by decide +kernel
theorem dX15_nextToken_190 : decode cX15_nextToken 190 = .ok (.goto 4, 3) := by decide +kernel
theorem dX15_nextToken_193 : decode cX15_nextToken 193 = .ok (.iconst 5, 1) := by decide +kernel
theorem dX15_nextToken_194 : decode cX15_nextToken 194 = .ok (.putfield 34, 3) := by decide +kernel
theorem dX15_nextToken_197 : decode cX15_nextToken 197 = .ok (.aload_n 0, 1) := by decide +kernel
theorem dX15_nextToken_198 : decode cX15_nextToken 198 = .ok (.aload_n 1, 1) := by decide +kernel
theorem dX15_nextToken_199 : decode cX15_nextToken 199 = .ok (.iload 5, 2) := by decide +kernel
theorem dX15_nextToken_201 : decode cX15_nextToken 201 = .ok (.baload, 1) := by decide +kernel
theorem dX15_nextToken_202 : decode cX15_nextToken 202 = .ok (.bipush 48, 2) := by decide +kernel
theorem dX15_nextToken_204 : decode cX15_nextToken 204 = .ok (.isub, 1) := by decide +kernel
theorem dX15_nextToken_205 : decode cX15_nextToken 205 = .ok (.putfield 44, 3) := by decide +kernel
theorem dX15_nextToken_208 : decode cX15_nextToken 208 = .ok (.aload_n 0, 1) := by decide +kernel
theorem dX15_nextToken_209 : decode cX15_nextToken 209 = .ok (.iload 6, 2) := by decide +kernel
theorem dX15_nextToken_211 : decode cX15_nextToken 211 = .ok (.iload 5, 2) := by decide +kernel
theorem dX15_nextToken_213 : decode cX15_nextToken 213 = .ok (.isub, 1) := by decide +kernel
theorem dX15_nextToken_214 : decode cX15_nextToken 214 = .ok (.iconst 2, 1) := by decide +kernel
theorem dX15_nextToken_215 : decode cX15_nextToken 215 = .ok (.if_icmp .ne 23, 3) := by decide +kernel
theorem dX15_nextToken_218 : decode cX15_nextToken 218 = .ok (.bipush 10, 2) := by decide +kernel
theorem dX15_nextToken_220 : decode cX15_nextToken 220 = .ok (.aload_n 0, 1) := by decide +kernel
theorem dX15_nextToken_221 : decode cX15_nextToken 221 = .ok (.getfield 44, 3) := by decide +kernel
theorem dX15_nextToken_224 : decode cX15_nextToken 224 = .ok (.imul, 1) := by decide +kernel
theorem dX15_nextToken_225 : decode cX15_nextToken 225 = .ok (.aload_n 1, 1) := by decide +kernel
theorem dX15_nextToken_226 : decode cX15_nextToken 226 = .ok (.iload 5, 2) := by decide +kernel
theorem dX15_nextToken_228 : decode cX15_nextToken 228 = .ok (.iconst 1, 1) := by decide +kernel
theorem dX15_nextToken_229 : decode cX15_nextToken 229 = .ok (.iadd, 1) := by decide +kernel
theorem dX15_nextToken_230 : decode cX15_nextToken 230 = .ok (.baload, 1) := by decide +kernel
theorem dX15_nextToken_231 : decode cX15_nextToken 231 = .ok (.iadd, 1) := by decide +kernel
theorem dX15_nextToken_232 : decode cX15_nextToken 232 = .ok (.bipush 48, 2) := by decide +kernel
theorem dX15_nextToken_234 : decode cX15_nextToken 234 = .ok (.isub, 1) := by decide +kernel
theorem dX15_nextToken_235 : decode cX15_nextToken 235 = .ok (.goto 7, 3) := by decide +kernel
theorem dX15_nextToken_238 : decode cX15_nextToken 238 = .ok (.aload_n 0, 1) := by decide +kernel
theorem dX15_nextToken_239 : decode cX15_nextToken 239 = .ok (.getfield 44, 3) := by decide +kernel
theorem dX15_nextToken_242 : decode cX15_nextToken 242 = .ok (.putfield 44, 3) := by decide +kernel
theorem dX15_nextToken_245 : decode cX15_nextToken 245 = .ok (.aload_n 0, 1) := by decide +kernel
theorem dX15_nextToken_246 : decode cX15_nextToken 246 = .ok (.iload 4, 2) := by decide +kernel
theorem dX15_nextToken_248 : decode cX15_nextToken 248 = .ok (.bipush 45, 2) := by decide +kernel
theorem dX15_nextToken_250 : decode cX15_nextToken 250 = .ok (.if_icmp .ne 12, 3) := by decide +kernel
theorem dX15_nextToken_253 : decode cX15_nextToken 253 = .ok (.iconst 0, 1) := by decide +kernel
theorem dX15_nextToken_254 : decode cX15_nextToken 254 = .ok (.aload_n 0, 1) := by decide +kernel
theorem dX15_nextToken_255 : decode cX15_nextToken 255 = .ok (.getfield 44, 3) := by decide +kernel
theorem dX15_nextToken_258 : decode cX15_nextToken 258 = .ok (.isub, 1) := by decide +kernel
theorem dX15_nextToken_259 : decode cX15_nextToken 259 = .ok (.goto 7, 3) := by decide +kernel
theorem dX15_nextToken_262 : decode cX15_nextToken 262 = .ok (.aload_n 0, 1) := by decide +kernel
theorem dX15_nextToken_263 : decode cX15_nextToken 263 = .ok (.getfield 44, 3) := by decide +kernel
theorem dX15_nextToken_266 : decode cX15_nextToken 266 = .ok (.putfield 44, 3) := by decide +kernel
theorem dX15_nextToken_269 : decode cX15_nextToken 269 = .ok (.aload_n 0, 1) := by decide +kernel
theorem dX15_nextToken_270 : decode cX15_nextToken 270 = .ok (.iload 6, 2) := by decide +kernel
theorem dX15_nextToken_272 : decode cX15_nextToken 272 = .ok (.putfield 24, 3) := by decide +kernel
theorem dX15_nextToken_275 : decode cX15_nextToken 275 = .ok (.goto 33, 3) := by decide +kernel
theorem dX15_nextToken_278 : decode cX15_nextToken 278 = .ok (.aload_n 0, 1) := by decide +kernel
theorem dX15_nextToken_279 : decode cX15_nextToken 279 = .ok (.iload 4, 2) := by decide +kernel
theorem dX15_nextToken_281 : decode cX15_nextToken 281 = .ok (.bipush 59, 2) := by decide +kernel
theorem dX15_nextToken_283 : decode cX15_nextToken 283 = .ok (.if_icmp .eq 10, 3) := by decide +kernel
theorem dX15_nextToken_286 : decode cX15_nextToken 286 = .ok (.iload 4, 2) := by decide +kernel
theorem dX15_nextToken_288 : decode cX15_nextToken 288 = .ok (.bipush 44, 2) := by decide +kernel
theorem dX15_nextToken_290 : decode cX15_nextToken 290 = .ok (.if_icmp .ne 7, 3) := by decide +kernel
theorem dX15_nextToken_293 : decode cX15_nextToken 293 = .ok (.iconst 3, 1) := by decide +kernel
theorem dX15_nextToken_294 : decode cX15_nextToken 294 = .ok (.goto 4, 3) := by decide +kernel
theorem dX15_nextToken_297 : decode cX15_nextToken 297 = .ok (.iconst 5, 1) := by decide +kernel
theorem dX15_nextToken_298 : decode cX15_nextToken 298 = .ok (.putfield 34, 3) := by decide +kernel
theorem dX15_nextToken_301 : decode cX15_nextToken 301 = .ok (.aload_n 0, 1) := by decide +kernel
theorem dX15_nextToken_302 : decode cX15_nextToken 302 = .ok (.iload_n 3, 1) := by decide +kernel
theorem dX15_nextToken_303 : decode cX15_nextToken 303 = .ok (.iconst 1, 1) := by decide +kernel
theorem dX15_nextToken_304 : decode cX15_nextToken 304 = .ok (.iadd, 1) := by decide +kernel
theorem dX15_nextToken_305 : decode cX15_nextToken 305 = .ok (.putfield 24, 3) := by decide +kernel
theorem dX15_nextToken_308 : decode cX15_nextToken 308 = .ok (.return_, 1) := by decide +kernel
set_option maxRecDepth 20000 in
theorem moX15_nextToken_308 {o : Hp} {F : Nat} {h : Hp} (hE : sX15_nextToken_308 F h  = some o) : Le h o := by
  exact le_some1 hE
set_option maxRecDepth 20000 in
theorem moX15_nextToken_266 {o : Hp} {F : Nat} {h : Hp} {x0 : Nat} {x6 : Int32} {t0 : Int32} {t1 : Nat} (hE : sX15_nextToken_266 F h x0 x6 t0 t1 = some o) : Le h o := by
  obtain ⟨h_1, eh_1, hE⟩ := nm_e2 hE
  refine (le_I eh_1).tr ?_
  obtain ⟨h_2, eh_2, hE⟩ := nm_e2 hE
  refine (le_I eh_2).tr ?_
  exact moX15_nextToken_308 hE
set_option maxRecDepth 20000 in
theorem moX15_nextToken_242 {o : Hp} {F : Nat} {h : Hp} {x0 : Nat} {x4 : Int32} {x6 : Int32} {t0 : Int32} {t1 : Nat} (hE : sX15_nextToken_242 F h x0 x4 x6 t0 t1 = some o) : Le h o := by
  obtain ⟨h_1, eh_1, hE⟩ := nm_e2 hE
  refine (le_I eh_1).tr ?_
  rcases br_e hE with ⟨_, hE⟩ | ⟨_, hE⟩
  · exact moX15_nextToken_266 hE
  · exact moX15_nextToken_266 hE
set_option maxRecDepth 20000 in
theorem moX15_nextToken_194 {o : Hp} {F : Nat} {h : Hp} {x0 : Nat} {x1 : Nat} {x4 : Int32} {x5 : Int32} {x6 : Int32} {t0 : Int32} {t1 : Nat} (hE : sX15_nextToken_194 F h x0 x1 x4 x5 x6 t0 t1 = some o) : Le h o := by
  obtain ⟨h_1, eh_1, hE⟩ := nm_e2 hE
  refine (le_I eh_1).tr ?_
  obtain ⟨g_2, hE⟩ := gd_e hE
  obtain ⟨h_3, eh_3, hE⟩ := nm_e2 hE
  refine (le_I eh_3).tr ?_
  rcases br_e hE with ⟨_, hE⟩ | ⟨_, hE⟩
  · obtain ⟨g_5, hE⟩ := gd_e hE
    exact moX15_nextToken_242 hE
  · exact moX15_nextToken_242 hE
set_option maxRecDepth 20000 in
theorem moX15_nextToken_159 {o : Hp} {F : Nat} : ∀ (f : Nat) {h : Hp} {x0 : Nat} {x1 : Nat} {x2 : Int32} {x4 : Int32} {x5 : Int32} {x6 : Int32}, sX15_nextToken_159 F f h x0 x1 x2 x4 x5 x6 = some o → Le h o := by
  intro f
  induction f with
  | zero =>
    intro h x0 x1 x2 x4 x5 x6 hE
    rw [sX15_nextToken_159] at hE
    cases hE
  | succ f ih =>
    intro h x0 x1 x2 x4 x5 x6 hE
    rw [sX15_nextToken_159] at hE
    have mk_159 : ∀ (h : Hp) (x0 : Nat) (x1 : Nat) (x2 : Int32) (x4 : Int32) (x5 : Int32) (x6 : Int32), sX15_nextToken_159 F f h x0 x1 x2 x4 x5 x6 = some o → Le h o := fun h x0 x1 x2 x4 x5 x6 hE => ih hE
    obtain ⟨o_1, eo_1, hE⟩ := cl_e hE
    refine (moX15_byteAt eo_1).tr ?_
    obtain ⟨o_2, eo_2, hE⟩ := cl_e hE
    refine (moX15_isDigit eo_2).tr ?_
    rcases br_e hE with ⟨_, hE⟩ | ⟨_, hE⟩
    · rcases br_e hE with ⟨_, hE⟩ | ⟨_, hE⟩
      · exact moX15_nextToken_194 hE
      · exact moX15_nextToken_194 hE
    · obtain ⟨v_5, ev_5, hE⟩ := nm_e2 hE
      exact mk_159 _ _ _ _ _ _ _ hE
set_option maxRecDepth 20000 in
theorem moX15_nextToken_153 {o : Hp} {F : Nat} {h : Hp} {x0 : Nat} {x1 : Nat} {x2 : Int32} {x4 : Int32} {t0 : Int32} (hE : sX15_nextToken_153 F h x0 x1 x2 x4 t0 = some o) : Le h o := by
  exact moX15_nextToken_159 _ hE
set_option maxRecDepth 20000 in
theorem moX15_nextToken_139 {o : Hp} {F : Nat} {h : Hp} {x0 : Nat} {x1 : Nat} {x2 : Int32} {x3 : Int32} {x4 : Int32} (hE : sX15_nextToken_139 F h x0 x1 x2 x3 x4 = some o) : Le h o := by
  rcases br_e hE with ⟨_, hE⟩ | ⟨_, hE⟩
  · exact moX15_nextToken_153 hE
  · exact moX15_nextToken_153 hE
set_option maxRecDepth 20000 in
theorem moX15_nextToken_298 {o : Hp} {F : Nat} {h : Hp} {x0 : Nat} {x3 : Int32} {t0 : Int32} {t1 : Nat} (hE : sX15_nextToken_298 F h x0 x3 t0 t1 = some o) : Le h o := by
  obtain ⟨h_1, eh_1, hE⟩ := nm_e2 hE
  refine (le_I eh_1).tr ?_
  obtain ⟨h_2, eh_2, hE⟩ := nm_e2 hE
  refine (le_I eh_2).tr ?_
  exact moX15_nextToken_308 hE
set_option maxRecDepth 20000 in
theorem moX15_nextToken_293 {o : Hp} {F : Nat} {h : Hp} {x0 : Nat} {x3 : Int32} {t0 : Nat} (hE : sX15_nextToken_293 F h x0 x3 t0 = some o) : Le h o := by
  exact moX15_nextToken_298 hE
set_option maxRecDepth 20000 in
theorem moX15_nextToken_278 {o : Hp} {F : Nat} {h : Hp} {x0 : Nat} {x3 : Int32} {x4 : Int32} (hE : sX15_nextToken_278 F h x0 x3 x4 = some o) : Le h o := by
  rcases br_e hE with ⟨_, hE⟩ | ⟨_, hE⟩
  · exact moX15_nextToken_293 hE
  · rcases br_e hE with ⟨_, hE⟩ | ⟨_, hE⟩
    · exact moX15_nextToken_293 hE
    · exact moX15_nextToken_298 hE
set_option maxRecDepth 20000 in
theorem moX15_nextToken_77 {o : Hp} {F : Nat} : ∀ (f : Nat) {h : Hp} {x0 : Nat} {x1 : Nat} {x2 : Int32} {x3 : Int32}, sX15_nextToken_77 F f h x0 x1 x2 x3 = some o → Le h o := by
  intro f
  induction f with
  | zero =>
    intro h x0 x1 x2 x3 hE
    rw [sX15_nextToken_77] at hE
    cases hE
  | succ f ih =>
    intro h x0 x1 x2 x3 hE
    rw [sX15_nextToken_77] at hE
    have mk_77 : ∀ (h : Hp) (x0 : Nat) (x1 : Nat) (x2 : Int32) (x3 : Int32), sX15_nextToken_77 F f h x0 x1 x2 x3 = some o → Le h o := fun h x0 x1 x2 x3 hE => ih hE
    obtain ⟨o_1, eo_1, hE⟩ := cl_e hE
    refine (moX15_byteAt eo_1).tr ?_
    obtain ⟨o_2, eo_2, hE⟩ := cl_e hE
    refine (moX15_isSmall eo_2).tr ?_
    rcases br_e hE with ⟨_, hE⟩ | ⟨_, hE⟩
    · obtain ⟨h_4, eh_4, hE⟩ := nm_e2 hE
      refine (le_I eh_4).tr ?_
      obtain ⟨h_5, eh_5, hE⟩ := nm_e2 hE
      refine (le_I eh_5).tr ?_
      exact moX15_nextToken_308 hE
    · obtain ⟨v_6, ev_6, hE⟩ := nm_e2 hE
      exact mk_77 _ _ _ _ _ hE
set_option maxRecDepth 20000 in
theorem moX15_nextToken_32 {o : Hp} {F : Nat} {h : Hp} {x0 : Nat} {x1 : Nat} {x2 : Int32} {x3 : Int32} (hE : sX15_nextToken_32 F h x0 x1 x2 x3 = some o) : Le h o := by
  obtain ⟨h_1, eh_1, hE⟩ := nm_e2 hE
  refine (le_I eh_1).tr ?_
  obtain ⟨o_2, eo_2, hE⟩ := cl_e hE
  refine (moX15_byteAt eo_2).tr ?_
  rcases br_e hE with ⟨_, hE⟩ | ⟨_, hE⟩
  · obtain ⟨o_4, eo_4, hE⟩ := cl_e hE
    refine (moX15_isSmall eo_4).tr ?_
    rcases br_e hE with ⟨_, hE⟩ | ⟨_, hE⟩
    · obtain ⟨o_6, eo_6, hE⟩ := cl_e hE
      refine (moX15_isDigit eo_6).tr ?_
      rcases br_e hE with ⟨_, hE⟩ | ⟨_, hE⟩
      · rcases br_e hE with ⟨_, hE⟩ | ⟨_, hE⟩
        · obtain ⟨o_9, eo_9, hE⟩ := cl_e hE
          refine (moX15_byteAt eo_9).tr ?_
          obtain ⟨o_10, eo_10, hE⟩ := cl_e hE
          refine (moX15_isDigit eo_10).tr ?_
          rcases br_e hE with ⟨_, hE⟩ | ⟨_, hE⟩
          · exact moX15_nextToken_278 hE
          · exact moX15_nextToken_139 hE
        · exact moX15_nextToken_278 hE
      · exact moX15_nextToken_139 hE
    · exact moX15_nextToken_77 _ hE
  · obtain ⟨h_12, eh_12, hE⟩ := nm_e2 hE
    refine (le_I eh_12).tr ?_
    obtain ⟨h_13, eh_13, hE⟩ := nm_e2 hE
    refine (le_I eh_13).tr ?_
    obtain ⟨h_14, eh_14, hE⟩ := nm_e2 hE
    refine (le_I eh_14).tr ?_
    exact moX15_nextToken_308 hE
set_option maxRecDepth 20000 in
theorem moX15_nextToken_26 {o : Hp} {k_5 : Hp → Nat → Nat → Int32 → Int32 → Option (Hp)} {F : Nat} (mk_5 : ∀ (h : Hp) (x0 : Nat) (x1 : Nat) (x2 : Int32) (x3 : Int32), k_5 h x0 x1 x2 x3 = some o → Le h o) {h : Hp} {x0 : Nat} {x1 : Nat} {x2 : Int32} {x3 : Int32} (hE : sX15_nextToken_26 F k_5 h x0 x1 x2 x3 = some o) : Le h o := by
  obtain ⟨v_1, ev_1, hE⟩ := nm_e2 hE
  exact mk_5 _ _ _ _ _ hE
set_option maxRecDepth 20000 in
theorem moX15_nextToken_5 {o : Hp} {F : Nat} : ∀ (f : Nat) {h : Hp} {x0 : Nat} {x1 : Nat} {x2 : Int32} {x3 : Int32}, sX15_nextToken_5 F f h x0 x1 x2 x3 = some o → Le h o := by
  intro f
  induction f with
  | zero =>
    intro h x0 x1 x2 x3 hE
    rw [sX15_nextToken_5] at hE
    cases hE
  | succ f ih =>
    intro h x0 x1 x2 x3 hE
    rw [sX15_nextToken_5] at hE
    have mk_5 : ∀ (h : Hp) (x0 : Nat) (x1 : Nat) (x2 : Int32) (x3 : Int32), sX15_nextToken_5 F f h x0 x1 x2 x3 = some o → Le h o := fun h x0 x1 x2 x3 hE => ih hE
    rcases br_e hE with ⟨_, hE⟩ | ⟨_, hE⟩
    · exact moX15_nextToken_32 hE
    · obtain ⟨g_2, hE⟩ := gd_e hE
      rcases br_e hE with ⟨_, hE⟩ | ⟨_, hE⟩
      · exact moX15_nextToken_26 mk_5 hE
      · obtain ⟨g_4, hE⟩ := gd_e hE
        rcases br_e hE with ⟨_, hE⟩ | ⟨_, hE⟩
        · exact moX15_nextToken_26 mk_5 hE
        · exact moX15_nextToken_32 hE
set_option maxRecDepth 20000 in
theorem moX15_nextToken {o : Hp} {F : Nat} {h : Hp} {x0 : Nat} {x1 : Nat} {x2 : Int32} (hE : sX15_nextToken F h x0 x1 x2 = some o) : Le h o := by
  obtain ⟨v_1, ev_1, hE⟩ := nm_e2 hE
  exact moX15_nextToken_5 _ hE
set_option maxRecDepth 20000 in
theorem bX15_nextToken_308 {p : Program} {l : Launch} {e : Env} {s : State} {m : MethodId} {args : Array Value} {below : List Frame} {meth : Method} {c : Code} {X : Ec} {h0 : Hp} {o : Hp} {F : Nat} (C : Cx X p s m args meth c RX15 cX15_nextToken 7 none "nextToken") {h : Hp} {H : Heap} {locs : List Loc} (hkm : Km h0 h) (hW : Wx X h H) (hZ : va_S (aA (eB X)) s.heap H locs) (ls : Array Slot) (hl : lv_has ls 7 []) (hE : sX15_nextToken_308 F h  = some o) : W p l e (rm 1 23) s m args below meth c H locs 0 0 (MQ below (QV X h0 o) args s 0 0 (aA (eB X))) (F0 m 308 ls []) := by
  exact x_vret C rfl hW hZ hkm hE dX15_nextToken_308
set_option maxRecDepth 20000 in
theorem bX15_nextToken_266 {p : Program} {l : Launch} {e : Env} {s : State} {m : MethodId} {args : Array Value} {below : List Frame} {meth : Method} {c : Code} {X : Ec} {h0 : Hp} {o : Hp} {F : Nat} (C : Cx X p s m args meth c RX15 cX15_nextToken 7 none "nextToken") {h : Hp} {x0 : Nat} {x6 : Int32} {t0 : Int32} {t1 : Nat} {H : Heap} {locs : List Loc} (k_x0 : hK h x0 = 15) (k_t1 : hK h t1 = 15) (hkm : Km h0 h) (hW : Wx X h H) (hZ : va_S (aA (eB X)) s.heap H locs) (ls : Array Slot) (hl : lv_has ls 7 [(0, .ref x0), (6, .int x6)]) (hE : sX15_nextToken_266 F h x0 x6 t0 t1 = some o) : W p l e (rm 1 23) s m args below meth c H locs 0 0 (MQ below (QV X h0 o) args s 0 0 (aA (eB X))) (F0 m 266 ls [.int t0, .ref t1]) := by
  obtain ⟨h_1, eh_1, hE⟩ := nm_e2 hE
  refine pf_X15_44 C hW hZ k_t1 eh_1 dX15_nextToken_266 (fun _ _ hW km hZ => ?_)
  replace hkm := hkm.tr km
  replace k_x0 := km.at k_x0 (by decide)
  refine lv_aload_n C.1 C.2.1 dX15_nextToken_269 rfl (lv_at hl 0 rfl) ?_
  refine lv_iload C.1 C.2.1 dX15_nextToken_270 (lv_at hl 1 rfl) ?_
  obtain ⟨h_2, eh_2, hE⟩ := nm_e2 hE
  refine pf_X15_24 C hW hZ k_x0 eh_2 dX15_nextToken_272 (fun _ _ hW km hZ => ?_)
  replace hkm := hkm.tr km
  replace k_x0 := km.at k_x0 (by decide)
  refine lv_goto (tgt := 308) C.1 C.2.1 dX15_nextToken_275 (by decide) ?_
  exact bX15_nextToken_308 C hkm hW hZ _ (lv_sub hl [] rfl) hE
set_option maxRecDepth 20000 in
theorem bX15_nextToken_242 {p : Program} {l : Launch} {e : Env} {s : State} {m : MethodId} {args : Array Value} {below : List Frame} {meth : Method} {c : Code} {X : Ec} {h0 : Hp} {o : Hp} {F : Nat} (C : Cx X p s m args meth c RX15 cX15_nextToken 7 none "nextToken") {h : Hp} {x0 : Nat} {x4 : Int32} {x6 : Int32} {t0 : Int32} {t1 : Nat} {H : Heap} {locs : List Loc} (k_x0 : hK h x0 = 15) (k_t1 : hK h t1 = 15) (hkm : Km h0 h) (hW : Wx X h H) (hZ : va_S (aA (eB X)) s.heap H locs) (ls : Array Slot) (hl : lv_has ls 7 [(0, .ref x0), (4, .int x4), (6, .int x6)]) (hE : sX15_nextToken_242 F h x0 x4 x6 t0 t1 = some o) : W p l e (rm 1 23) s m args below meth c H locs 0 0 (MQ below (QV X h0 o) args s 0 0 (aA (eB X))) (F0 m 242 ls [.int t0, .ref t1]) := by
  obtain ⟨h_1, eh_1, hE⟩ := nm_e2 hE
  refine pf_X15_44 C hW hZ k_t1 eh_1 dX15_nextToken_242 (fun _ _ hW km hZ => ?_)
  replace hkm := hkm.tr km
  replace k_x0 := km.at k_x0 (by decide)
  refine lv_aload_n C.1 C.2.1 dX15_nextToken_245 rfl (lv_at hl 0 rfl) ?_
  refine lv_iload C.1 C.2.1 dX15_nextToken_246 (lv_at hl 1 rfl) ?_
  refine lv_bipush (v := (45 : Int32)) C.1 C.2.1 dX15_nextToken_248 (by decide) ?_
  refine lv_icmp_ne (tgt := 262) C.1 C.2.1 dX15_nextToken_250 (by decide) (fun c_2 => ?_) (fun c_2 => ?_)
  · have hE := br_n hE c_2
    refine lv_aload_n C.1 C.2.1 dX15_nextToken_262 rfl (lv_at hl 0 rfl) ?_
    refine gf_X15_44 C hW k_x0 dX15_nextToken_263 ?_
    exact bX15_nextToken_266 C k_x0 k_x0 hkm hW hZ _ (lv_sub hl [0, 2] rfl) hE
  · have hE := br_p hE c_2
    refine lv_iconst (v := (0 : Int32)) C.1 C.2.1 dX15_nextToken_253 (by decide) ?_
    refine lv_aload_n C.1 C.2.1 dX15_nextToken_254 rfl (lv_at hl 0 rfl) ?_
    refine gf_X15_44 C hW k_x0 dX15_nextToken_255 ?_
    refine lv_isub C.1 C.2.1 dX15_nextToken_258 ?_
    refine lv_goto (tgt := 266) C.1 C.2.1 dX15_nextToken_259 (by decide) ?_
    exact bX15_nextToken_266 C k_x0 k_x0 hkm hW hZ _ (lv_sub hl [0, 2] rfl) hE
set_option maxRecDepth 20000 in
theorem bX15_nextToken_194 {p : Program} {l : Launch} {e : Env} {s : State} {m : MethodId} {args : Array Value} {below : List Frame} {meth : Method} {c : Code} {X : Ec} {h0 : Hp} {o : Hp} {F : Nat} (C : Cx X p s m args meth c RX15 cX15_nextToken 7 none "nextToken") {h : Hp} {x0 : Nat} {x1 : Nat} {x4 : Int32} {x5 : Int32} {x6 : Int32} {t0 : Int32} {t1 : Nat} {H : Heap} {locs : List Loc} (k_x0 : hK h x0 = 15) (k_x1 : hK h x1 = 16) (k_t1 : hK h t1 = 15) (hkm : Km h0 h) (hW : Wx X h H) (hZ : va_S (aA (eB X)) s.heap H locs) (ls : Array Slot) (hl : lv_has ls 7 [(0, .ref x0), (1, .ref x1), (4, .int x4), (5, .int x5), (6, .int x6)]) (hE : sX15_nextToken_194 F h x0 x1 x4 x5 x6 t0 t1 = some o) : W p l e (rm 1 23) s m args below meth c H locs 0 0 (MQ below (QV X h0 o) args s 0 0 (aA (eB X))) (F0 m 194 ls [.int t0, .ref t1]) := by
  obtain ⟨h_1, eh_1, hE⟩ := nm_e2 hE
  refine pf_X15_34 C hW hZ k_t1 eh_1 dX15_nextToken_194 (fun _ _ hW km hZ => ?_)
  replace hkm := hkm.tr km
  replace k_x0 := km.at k_x0 (by decide)
  replace k_x1 := km.at k_x1 (by decide)
  refine lv_aload_n C.1 C.2.1 dX15_nextToken_197 rfl (lv_at hl 0 rfl) ?_
  refine lv_aload_n C.1 C.2.1 dX15_nextToken_198 rfl (lv_at hl 1 rfl) ?_
  refine lv_iload C.1 C.2.1 dX15_nextToken_199 (lv_at hl 3 rfl) ?_
  obtain ⟨g_2, hE⟩ := gd_e hE
  refine y_bald C hW k_x1 g_2 dX15_nextToken_201 ?_
  refine lv_bipush (v := (48 : Int32)) C.1 C.2.1 dX15_nextToken_202 (by decide) ?_
  refine lv_isub C.1 C.2.1 dX15_nextToken_204 ?_
  obtain ⟨h_3, eh_3, hE⟩ := nm_e2 hE
  refine pf_X15_44 C hW hZ k_x0 eh_3 dX15_nextToken_205 (fun _ _ hW km hZ => ?_)
  replace hkm := hkm.tr km
  replace k_x0 := km.at k_x0 (by decide)
  replace k_x1 := km.at k_x1 (by decide)
  refine lv_aload_n C.1 C.2.1 dX15_nextToken_208 rfl (lv_at hl 0 rfl) ?_
  refine lv_iload C.1 C.2.1 dX15_nextToken_209 (lv_at hl 4 rfl) ?_
  refine lv_iload C.1 C.2.1 dX15_nextToken_211 (lv_at hl 3 rfl) ?_
  refine lv_isub C.1 C.2.1 dX15_nextToken_213 ?_
  refine lv_iconst (v := (2 : Int32)) C.1 C.2.1 dX15_nextToken_214 (by decide) ?_
  refine lv_icmp_ne (tgt := 238) C.1 C.2.1 dX15_nextToken_215 (by decide) (fun c_4 => ?_) (fun c_4 => ?_)
  · have hE := br_n hE c_4
    refine lv_aload_n C.1 C.2.1 dX15_nextToken_238 rfl (lv_at hl 0 rfl) ?_
    refine gf_X15_44 C hW k_x0 dX15_nextToken_239 ?_
    exact bX15_nextToken_242 C k_x0 k_x0 hkm hW hZ _ (lv_sub hl [0, 2, 4] rfl) hE
  · have hE := br_p hE c_4
    refine lv_bipush (v := (10 : Int32)) C.1 C.2.1 dX15_nextToken_218 (by decide) ?_
    refine lv_aload_n C.1 C.2.1 dX15_nextToken_220 rfl (lv_at hl 0 rfl) ?_
    refine gf_X15_44 C hW k_x0 dX15_nextToken_221 ?_
    refine lv_imul C.1 C.2.1 dX15_nextToken_224 ?_
    refine lv_aload_n C.1 C.2.1 dX15_nextToken_225 rfl (lv_at hl 1 rfl) ?_
    refine lv_iload C.1 C.2.1 dX15_nextToken_226 (lv_at hl 3 rfl) ?_
    refine lv_iconst (v := (1 : Int32)) C.1 C.2.1 dX15_nextToken_228 (by decide) ?_
    refine lv_iadd C.1 C.2.1 dX15_nextToken_229 ?_
    obtain ⟨g_5, hE⟩ := gd_e hE
    refine y_bald C hW k_x1 g_5 dX15_nextToken_230 ?_
    refine lv_iadd C.1 C.2.1 dX15_nextToken_231 ?_
    refine lv_bipush (v := (48 : Int32)) C.1 C.2.1 dX15_nextToken_232 (by decide) ?_
    refine lv_isub C.1 C.2.1 dX15_nextToken_234 ?_
    refine lv_goto (tgt := 242) C.1 C.2.1 dX15_nextToken_235 (by decide) ?_
    exact bX15_nextToken_242 C k_x0 k_x0 hkm hW hZ _ (lv_sub hl [0, 2, 4] rfl) hE
set_option maxRecDepth 20000 in
theorem bX15_nextToken_159 {p : Program} {l : Launch} {e : Env} {s : State} {m : MethodId} {args : Array Value} {below : List Frame} {meth : Method} {c : Code} {X : Ec} {h0 : Hp} {o : Hp} {F : Nat} (C : Cx X p s m args meth c RX15 cX15_nextToken 7 none "nextToken") : ∀ (f : Nat) {h : Hp} {x0 : Nat} {x1 : Nat} {x2 : Int32} {x4 : Int32} {x5 : Int32} {x6 : Int32} {H : Heap} {locs : List Loc} (k_x0 : hK h x0 = 15) (k_x1 : hK h x1 = 16), Km h0 h → Wx X h H → va_S (aA (eB X)) s.heap H locs → ∀ (ls : Array Slot), lv_has ls 7 [(0, .ref x0), (1, .ref x1), (2, .int x2), (4, .int x4), (5, .int x5), (6, .int x6)] → sX15_nextToken_159 F f h x0 x1 x2 x4 x5 x6 = some o → W p l e (rm 1 23) s m args below meth c H locs 0 0 (MQ below (QV X h0 o) args s 0 0 (aA (eB X))) (F0 m 159 ls []) := by
  intro f
  induction f with
  | zero =>
    intro h x0 x1 x2 x4 x5 x6 H locs k_x0 k_x1 hkm hW hZ ls hl hE
    rw [sX15_nextToken_159] at hE
    cases hE
  | succ f ih =>
    intro h x0 x1 x2 x4 x5 x6 H locs k_x0 k_x1 hkm hW hZ ls hl hE
    rw [sX15_nextToken_159] at hE
    have hk_159 : ∀ (h : Hp) (x0 : Nat) (x1 : Nat) (x2 : Int32) (x4 : Int32) (x5 : Int32) (x6 : Int32) (H : Heap) (locs : List Loc), hK h x0 = 15 → hK h x1 = 16 → Km h0 h → Wx X h H → va_S (aA (eB X)) s.heap H locs → ∀ (ls : Array Slot), lv_has ls 7 [(0, .ref x0), (1, .ref x1), (2, .int x2), (4, .int x4), (5, .int x5), (6, .int x6)] → sX15_nextToken_159 F f h x0 x1 x2 x4 x5 x6 = some o → W p l e (rm 1 23) s m args below meth c H locs 0 0 (MQ below (QV X h0 o) args s 0 0 (aA (eB X))) (F0 m 159 ls []) := fun h x0 x1 x2 x4 x5 x6 H locs k_x0 k_x1 a b c ls hl hE => ih k_x0 k_x1 a b c ls hl hE
    refine lv_aload_n C.1 C.2.1 dX15_nextToken_159 rfl (lv_at hl 0 rfl) ?_
    refine lv_aload_n C.1 C.2.1 dX15_nextToken_160 rfl (lv_at hl 1 rfl) ?_
    refine lv_iload_n C.1 C.2.1 dX15_nextToken_161 rfl (lv_at hl 2 rfl) ?_
    refine lv_iload C.1 C.2.1 dX15_nextToken_162 (lv_at hl 5 rfl) ?_
    obtain ⟨o_1, eo_1, hE⟩ := cl_e hE
    refine x_kI (o := o_1) (z_runV (As := [.ref x1, .int x2, .int x6]) (rest := []) C (ct_X15_byteAt l X k_x0 k_x1 eo_1) cw_X15_30 hW hZ k_x0 (by decide) rfl rfl rfl hl.1 (Nat.le_of_ble_eq_true rfl) rfl dX15_nextToken_164 ⟨Nat.le_of_ble_eq_true rfl, Nat.le_of_ble_eq_true rfl⟩ ⟨Nat.le_refl _, Nat.le_refl _⟩) hZ (fun _ _ hW km hZ => ?_)
    replace hkm := hkm.tr km
    replace k_x0 := km.at k_x0 (by decide)
    replace k_x1 := km.at k_x1 (by decide)
    obtain ⟨o_2, eo_2, hE⟩ := cl_e hE
    refine x_kI (o := o_2) (z_runS (As := [.int o_1.1]) (rest := []) C (ct_X15_isDigit l X eo_2) cw_X15_41 hW hZ rfl hl.1 (Nat.le_of_ble_eq_true rfl) rfl dX15_nextToken_167 ⟨Nat.le_of_ble_eq_true rfl, Nat.le_of_ble_eq_true rfl⟩ ⟨Nat.le_refl _, Nat.le_refl _⟩) hZ (fun _ _ hW km hZ => ?_)
    replace hkm := hkm.tr km
    replace k_x0 := km.at k_x0 (by decide)
    replace k_x1 := km.at k_x1 (by decide)
    refine lv_if_eq (tgt := 179) C.1 C.2.1 dX15_nextToken_170 (by decide) (fun c_3 => ?_) (fun c_3 => ?_)
    · have hE := br_p hE c_3
      refine lv_aload_n C.1 C.2.1 dX15_nextToken_179 rfl (lv_at hl 0 rfl) ?_
      refine lv_iload C.1 C.2.1 dX15_nextToken_180 (lv_at hl 5 rfl) ?_
      refine lv_iload C.1 C.2.1 dX15_nextToken_182 (lv_at hl 4 rfl) ?_
      refine lv_isub C.1 C.2.1 dX15_nextToken_184 ?_
      refine lv_iconst (v := (2 : Int32)) C.1 C.2.1 dX15_nextToken_185 (by decide) ?_
      refine lv_icmp_gt (tgt := 193) C.1 C.2.1 dX15_nextToken_186 (by decide) (fun c_4 => ?_) (fun c_4 => ?_)
      · have hE := br_p hE c_4
        refine lv_iconst (v := (5 : Int32)) C.1 C.2.1 dX15_nextToken_193 (by decide) ?_
        exact bX15_nextToken_194 C k_x0 k_x1 k_x0 hkm hW hZ _ (lv_sub hl [0, 1, 3, 4, 5] rfl) hE
      · have hE := br_n hE c_4
        refine lv_iconst (v := (2 : Int32)) C.1 C.2.1 dX15_nextToken_189 (by decide) ?_
        refine lv_goto (tgt := 194) C.1 C.2.1 dX15_nextToken_190 (by decide) ?_
        exact bX15_nextToken_194 C k_x0 k_x1 k_x0 hkm hW hZ _ (lv_sub hl [0, 1, 3, 4, 5] rfl) hE
    · have hE := br_n hE c_3
      obtain ⟨v_5, ev_5, hE⟩ := nm_e2 hE
      refine lv_iinc (v := v_5) (lv' := [(6, .int v_5), (0, .ref x0), (1, .ref x1), (2, .int x2), (4, .int x4), (5, .int x5)]) C.1 C.2.1 dX15_nextToken_173 hl (k := 5) rfl (by rw [ev_5]; rfl) (by decide) rfl (fun ls hl => ?_)
      refine lv_goto (tgt := 159) C.1 C.2.1 dX15_nextToken_176 (by decide) ?_
      exact hk_159 _ _ _ _ _ _ _ _ _ k_x0 k_x1 hkm hW hZ _ (lv_sub hl [1, 2, 3, 4, 5, 0] rfl) hE
set_option maxRecDepth 20000 in
theorem bX15_nextToken_153 {p : Program} {l : Launch} {e : Env} {s : State} {m : MethodId} {args : Array Value} {below : List Frame} {meth : Method} {c : Code} {X : Ec} {h0 : Hp} {o : Hp} {F : Nat} (C : Cx X p s m args meth c RX15 cX15_nextToken 7 none "nextToken") {h : Hp} {x0 : Nat} {x1 : Nat} {x2 : Int32} {x4 : Int32} {t0 : Int32} {H : Heap} {locs : List Loc} (k_x0 : hK h x0 = 15) (k_x1 : hK h x1 = 16) (hkm : Km h0 h) (hW : Wx X h H) (hZ : va_S (aA (eB X)) s.heap H locs) (ls : Array Slot) (hl : lv_has ls 7 [(0, .ref x0), (1, .ref x1), (2, .int x2), (4, .int x4)]) (hE : sX15_nextToken_153 F h x0 x1 x2 x4 t0 = some o) : W p l e (rm 1 23) s m args below meth c H locs 0 0 (MQ below (QV X h0 o) args s 0 0 (aA (eB X))) (F0 m 153 ls [.int t0]) := by
  refine lv_istore (lv' := [(5, .int t0), (0, .ref x0), (1, .ref x1), (2, .int x2), (4, .int x4)]) C.1 C.2.1 dX15_nextToken_153 hl (by decide) rfl (fun ls hl => ?_)
  refine lv_iload C.1 C.2.1 dX15_nextToken_155 (lv_at hl 0 rfl) ?_
  refine lv_istore (lv' := [(6, .int t0), (5, .int t0), (0, .ref x0), (1, .ref x1), (2, .int x2), (4, .int x4)]) C.1 C.2.1 dX15_nextToken_157 hl (by decide) rfl (fun ls hl => ?_)
  exact bX15_nextToken_159 C F k_x0 k_x1 hkm hW hZ _ (lv_sub hl [2, 3, 4, 5, 1, 0] rfl) hE
set_option maxRecDepth 20000 in
theorem bX15_nextToken_139 {p : Program} {l : Launch} {e : Env} {s : State} {m : MethodId} {args : Array Value} {below : List Frame} {meth : Method} {c : Code} {X : Ec} {h0 : Hp} {o : Hp} {F : Nat} (C : Cx X p s m args meth c RX15 cX15_nextToken 7 none "nextToken") {h : Hp} {x0 : Nat} {x1 : Nat} {x2 : Int32} {x3 : Int32} {x4 : Int32} {H : Heap} {locs : List Loc} (k_x0 : hK h x0 = 15) (k_x1 : hK h x1 = 16) (hkm : Km h0 h) (hW : Wx X h H) (hZ : va_S (aA (eB X)) s.heap H locs) (ls : Array Slot) (hl : lv_has ls 7 [(0, .ref x0), (1, .ref x1), (2, .int x2), (3, .int x3), (4, .int x4)]) (hE : sX15_nextToken_139 F h x0 x1 x2 x3 x4 = some o) : W p l e (rm 1 23) s m args below meth c H locs 0 0 (MQ below (QV X h0 o) args s 0 0 (aA (eB X))) (F0 m 139 ls []) := by
  refine lv_iload C.1 C.2.1 dX15_nextToken_139 (lv_at hl 4 rfl) ?_
  refine lv_bipush (v := (45 : Int32)) C.1 C.2.1 dX15_nextToken_141 (by decide) ?_
  refine lv_icmp_ne (tgt := 152) C.1 C.2.1 dX15_nextToken_143 (by decide) (fun c_1 => ?_) (fun c_1 => ?_)
  · have hE := br_n hE c_1
    refine lv_iload_n C.1 C.2.1 dX15_nextToken_152 rfl (lv_at hl 3 rfl) ?_
    exact bX15_nextToken_153 C k_x0 k_x1 hkm hW hZ _ (lv_sub hl [0, 1, 2, 4] rfl) hE
  · have hE := br_p hE c_1
    refine lv_iload_n C.1 C.2.1 dX15_nextToken_146 rfl (lv_at hl 3 rfl) ?_
    refine lv_iconst (v := (1 : Int32)) C.1 C.2.1 dX15_nextToken_147 (by decide) ?_
    refine lv_iadd C.1 C.2.1 dX15_nextToken_148 ?_
    refine lv_goto (tgt := 153) C.1 C.2.1 dX15_nextToken_149 (by decide) ?_
    exact bX15_nextToken_153 C k_x0 k_x1 hkm hW hZ _ (lv_sub hl [0, 1, 2, 4] rfl) hE
set_option maxRecDepth 20000 in
theorem bX15_nextToken_298 {p : Program} {l : Launch} {e : Env} {s : State} {m : MethodId} {args : Array Value} {below : List Frame} {meth : Method} {c : Code} {X : Ec} {h0 : Hp} {o : Hp} {F : Nat} (C : Cx X p s m args meth c RX15 cX15_nextToken 7 none "nextToken") {h : Hp} {x0 : Nat} {x3 : Int32} {t0 : Int32} {t1 : Nat} {H : Heap} {locs : List Loc} (k_x0 : hK h x0 = 15) (k_t1 : hK h t1 = 15) (hkm : Km h0 h) (hW : Wx X h H) (hZ : va_S (aA (eB X)) s.heap H locs) (ls : Array Slot) (hl : lv_has ls 7 [(0, .ref x0), (3, .int x3)]) (hE : sX15_nextToken_298 F h x0 x3 t0 t1 = some o) : W p l e (rm 1 23) s m args below meth c H locs 0 0 (MQ below (QV X h0 o) args s 0 0 (aA (eB X))) (F0 m 298 ls [.int t0, .ref t1]) := by
  obtain ⟨h_1, eh_1, hE⟩ := nm_e2 hE
  refine pf_X15_34 C hW hZ k_t1 eh_1 dX15_nextToken_298 (fun _ _ hW km hZ => ?_)
  replace hkm := hkm.tr km
  replace k_x0 := km.at k_x0 (by decide)
  refine lv_aload_n C.1 C.2.1 dX15_nextToken_301 rfl (lv_at hl 0 rfl) ?_
  refine lv_iload_n C.1 C.2.1 dX15_nextToken_302 rfl (lv_at hl 1 rfl) ?_
  refine lv_iconst (v := (1 : Int32)) C.1 C.2.1 dX15_nextToken_303 (by decide) ?_
  refine lv_iadd C.1 C.2.1 dX15_nextToken_304 ?_
  obtain ⟨h_2, eh_2, hE⟩ := nm_e2 hE
  refine pf_X15_24 C hW hZ k_x0 eh_2 dX15_nextToken_305 (fun _ _ hW km hZ => ?_)
  replace hkm := hkm.tr km
  replace k_x0 := km.at k_x0 (by decide)
  exact bX15_nextToken_308 C hkm hW hZ _ (lv_sub hl [] rfl) hE
set_option maxRecDepth 20000 in
theorem bX15_nextToken_293 {p : Program} {l : Launch} {e : Env} {s : State} {m : MethodId} {args : Array Value} {below : List Frame} {meth : Method} {c : Code} {X : Ec} {h0 : Hp} {o : Hp} {F : Nat} (C : Cx X p s m args meth c RX15 cX15_nextToken 7 none "nextToken") {h : Hp} {x0 : Nat} {x3 : Int32} {t0 : Nat} {H : Heap} {locs : List Loc} (k_x0 : hK h x0 = 15) (k_t0 : hK h t0 = 15) (hkm : Km h0 h) (hW : Wx X h H) (hZ : va_S (aA (eB X)) s.heap H locs) (ls : Array Slot) (hl : lv_has ls 7 [(0, .ref x0), (3, .int x3)]) (hE : sX15_nextToken_293 F h x0 x3 t0 = some o) : W p l e (rm 1 23) s m args below meth c H locs 0 0 (MQ below (QV X h0 o) args s 0 0 (aA (eB X))) (F0 m 293 ls [.ref t0]) := by
  refine lv_iconst (v := (3 : Int32)) C.1 C.2.1 dX15_nextToken_293 (by decide) ?_
  refine lv_goto (tgt := 298) C.1 C.2.1 dX15_nextToken_294 (by decide) ?_
  exact bX15_nextToken_298 C k_x0 k_t0 hkm hW hZ _ (lv_sub hl [0, 1] rfl) hE
set_option maxRecDepth 20000 in
theorem bX15_nextToken_278 {p : Program} {l : Launch} {e : Env} {s : State} {m : MethodId} {args : Array Value} {below : List Frame} {meth : Method} {c : Code} {X : Ec} {h0 : Hp} {o : Hp} {F : Nat} (C : Cx X p s m args meth c RX15 cX15_nextToken 7 none "nextToken") {h : Hp} {x0 : Nat} {x3 : Int32} {x4 : Int32} {H : Heap} {locs : List Loc} (k_x0 : hK h x0 = 15) (hkm : Km h0 h) (hW : Wx X h H) (hZ : va_S (aA (eB X)) s.heap H locs) (ls : Array Slot) (hl : lv_has ls 7 [(0, .ref x0), (3, .int x3), (4, .int x4)]) (hE : sX15_nextToken_278 F h x0 x3 x4 = some o) : W p l e (rm 1 23) s m args below meth c H locs 0 0 (MQ below (QV X h0 o) args s 0 0 (aA (eB X))) (F0 m 278 ls []) := by
  refine lv_aload_n C.1 C.2.1 dX15_nextToken_278 rfl (lv_at hl 0 rfl) ?_
  refine lv_iload C.1 C.2.1 dX15_nextToken_279 (lv_at hl 2 rfl) ?_
  refine lv_bipush (v := (59 : Int32)) C.1 C.2.1 dX15_nextToken_281 (by decide) ?_
  refine lv_icmp_eq (tgt := 293) C.1 C.2.1 dX15_nextToken_283 (by decide) (fun c_1 => ?_) (fun c_1 => ?_)
  · have hE := br_p hE c_1
    exact bX15_nextToken_293 C k_x0 k_x0 hkm hW hZ _ (lv_sub hl [0, 1] rfl) hE
  · have hE := br_n hE c_1
    refine lv_iload C.1 C.2.1 dX15_nextToken_286 (lv_at hl 2 rfl) ?_
    refine lv_bipush (v := (44 : Int32)) C.1 C.2.1 dX15_nextToken_288 (by decide) ?_
    refine lv_icmp_ne (tgt := 297) C.1 C.2.1 dX15_nextToken_290 (by decide) (fun c_2 => ?_) (fun c_2 => ?_)
    · have hE := br_n hE c_2
      refine lv_iconst (v := (5 : Int32)) C.1 C.2.1 dX15_nextToken_297 (by decide) ?_
      exact bX15_nextToken_298 C k_x0 k_x0 hkm hW hZ _ (lv_sub hl [0, 1] rfl) hE
    · have hE := br_p hE c_2
      exact bX15_nextToken_293 C k_x0 k_x0 hkm hW hZ _ (lv_sub hl [0, 1] rfl) hE
set_option maxRecDepth 20000 in
theorem bX15_nextToken_77 {p : Program} {l : Launch} {e : Env} {s : State} {m : MethodId} {args : Array Value} {below : List Frame} {meth : Method} {c : Code} {X : Ec} {h0 : Hp} {o : Hp} {F : Nat} (C : Cx X p s m args meth c RX15 cX15_nextToken 7 none "nextToken") : ∀ (f : Nat) {h : Hp} {x0 : Nat} {x1 : Nat} {x2 : Int32} {x3 : Int32} {H : Heap} {locs : List Loc} (k_x0 : hK h x0 = 15) (k_x1 : hK h x1 = 16), Km h0 h → Wx X h H → va_S (aA (eB X)) s.heap H locs → ∀ (ls : Array Slot), lv_has ls 7 [(0, .ref x0), (1, .ref x1), (2, .int x2), (3, .int x3)] → sX15_nextToken_77 F f h x0 x1 x2 x3 = some o → W p l e (rm 1 23) s m args below meth c H locs 0 0 (MQ below (QV X h0 o) args s 0 0 (aA (eB X))) (F0 m 77 ls []) := by
  intro f
  induction f with
  | zero =>
    intro h x0 x1 x2 x3 H locs k_x0 k_x1 hkm hW hZ ls hl hE
    rw [sX15_nextToken_77] at hE
    cases hE
  | succ f ih =>
    intro h x0 x1 x2 x3 H locs k_x0 k_x1 hkm hW hZ ls hl hE
    rw [sX15_nextToken_77] at hE
    have hk_77 : ∀ (h : Hp) (x0 : Nat) (x1 : Nat) (x2 : Int32) (x3 : Int32) (H : Heap) (locs : List Loc), hK h x0 = 15 → hK h x1 = 16 → Km h0 h → Wx X h H → va_S (aA (eB X)) s.heap H locs → ∀ (ls : Array Slot), lv_has ls 7 [(0, .ref x0), (1, .ref x1), (2, .int x2), (3, .int x3)] → sX15_nextToken_77 F f h x0 x1 x2 x3 = some o → W p l e (rm 1 23) s m args below meth c H locs 0 0 (MQ below (QV X h0 o) args s 0 0 (aA (eB X))) (F0 m 77 ls []) := fun h x0 x1 x2 x3 H locs k_x0 k_x1 a b c ls hl hE => ih k_x0 k_x1 a b c ls hl hE
    refine lv_aload_n C.1 C.2.1 dX15_nextToken_77 rfl (lv_at hl 0 rfl) ?_
    refine lv_aload_n C.1 C.2.1 dX15_nextToken_78 rfl (lv_at hl 1 rfl) ?_
    refine lv_iload_n C.1 C.2.1 dX15_nextToken_79 rfl (lv_at hl 2 rfl) ?_
    refine lv_iload_n C.1 C.2.1 dX15_nextToken_80 rfl (lv_at hl 3 rfl) ?_
    obtain ⟨o_1, eo_1, hE⟩ := cl_e hE
    refine x_kI (o := o_1) (z_runV (As := [.ref x1, .int x2, .int x3]) (rest := []) C (ct_X15_byteAt l X k_x0 k_x1 eo_1) cw_X15_30 hW hZ k_x0 (by decide) rfl rfl rfl hl.1 (Nat.le_of_ble_eq_true rfl) rfl dX15_nextToken_81 ⟨Nat.le_of_ble_eq_true rfl, Nat.le_of_ble_eq_true rfl⟩ ⟨Nat.le_refl _, Nat.le_refl _⟩) hZ (fun _ _ hW km hZ => ?_)
    replace hkm := hkm.tr km
    replace k_x0 := km.at k_x0 (by decide)
    replace k_x1 := km.at k_x1 (by decide)
    obtain ⟨o_2, eo_2, hE⟩ := cl_e hE
    refine x_kI (o := o_2) (z_runS (As := [.int o_1.1]) (rest := []) C (ct_X15_isSmall l X eo_2) cw_X15_37 hW hZ rfl hl.1 (Nat.le_of_ble_eq_true rfl) rfl dX15_nextToken_84 ⟨Nat.le_of_ble_eq_true rfl, Nat.le_of_ble_eq_true rfl⟩ ⟨Nat.le_refl _, Nat.le_refl _⟩) hZ (fun _ _ hW km hZ => ?_)
    replace hkm := hkm.tr km
    replace k_x0 := km.at k_x0 (by decide)
    replace k_x1 := km.at k_x1 (by decide)
    refine lv_if_eq (tgt := 96) C.1 C.2.1 dX15_nextToken_87 (by decide) (fun c_3 => ?_) (fun c_3 => ?_)
    · have hE := br_p hE c_3
      refine lv_aload_n C.1 C.2.1 dX15_nextToken_96 rfl (lv_at hl 0 rfl) ?_
      refine lv_iconst (v := (1 : Int32)) C.1 C.2.1 dX15_nextToken_97 (by decide) ?_
      obtain ⟨h_4, eh_4, hE⟩ := nm_e2 hE
      refine pf_X15_34 C hW hZ k_x0 eh_4 dX15_nextToken_98 (fun _ _ hW km hZ => ?_)
      replace hkm := hkm.tr km
      replace k_x0 := km.at k_x0 (by decide)
      replace k_x1 := km.at k_x1 (by decide)
      refine lv_aload_n C.1 C.2.1 dX15_nextToken_101 rfl (lv_at hl 0 rfl) ?_
      refine lv_iload_n C.1 C.2.1 dX15_nextToken_102 rfl (lv_at hl 3 rfl) ?_
      obtain ⟨h_5, eh_5, hE⟩ := nm_e2 hE
      refine pf_X15_24 C hW hZ k_x0 eh_5 dX15_nextToken_103 (fun _ _ hW km hZ => ?_)
      replace hkm := hkm.tr km
      replace k_x0 := km.at k_x0 (by decide)
      replace k_x1 := km.at k_x1 (by decide)
      refine lv_goto (tgt := 308) C.1 C.2.1 dX15_nextToken_106 (by decide) ?_
      exact bX15_nextToken_308 C hkm hW hZ _ (lv_sub hl [] rfl) hE
    · have hE := br_n hE c_3
      obtain ⟨v_6, ev_6, hE⟩ := nm_e2 hE
      refine lv_iinc (v := v_6) (lv' := [(3, .int v_6), (0, .ref x0), (1, .ref x1), (2, .int x2)]) C.1 C.2.1 dX15_nextToken_90 hl (k := 3) rfl (by rw [ev_6]; rfl) (by decide) rfl (fun ls hl => ?_)
      refine lv_goto (tgt := 77) C.1 C.2.1 dX15_nextToken_93 (by decide) ?_
      exact hk_77 _ _ _ _ _ _ _ k_x0 k_x1 hkm hW hZ _ (lv_sub hl [1, 2, 3, 0] rfl) hE
set_option maxRecDepth 20000 in
theorem bX15_nextToken_32 {p : Program} {l : Launch} {e : Env} {s : State} {m : MethodId} {args : Array Value} {below : List Frame} {meth : Method} {c : Code} {X : Ec} {h0 : Hp} {o : Hp} {F : Nat} (C : Cx X p s m args meth c RX15 cX15_nextToken 7 none "nextToken") {h : Hp} {x0 : Nat} {x1 : Nat} {x2 : Int32} {x3 : Int32} {H : Heap} {locs : List Loc} (k_x0 : hK h x0 = 15) (k_x1 : hK h x1 = 16) (hkm : Km h0 h) (hW : Wx X h H) (hZ : va_S (aA (eB X)) s.heap H locs) (ls : Array Slot) (hl : lv_has ls 7 [(0, .ref x0), (1, .ref x1), (2, .int x2), (3, .int x3)]) (hE : sX15_nextToken_32 F h x0 x1 x2 x3 = some o) : W p l e (rm 1 23) s m args below meth c H locs 0 0 (MQ below (QV X h0 o) args s 0 0 (aA (eB X))) (F0 m 32 ls []) := by
  refine lv_aload_n C.1 C.2.1 dX15_nextToken_32 rfl (lv_at hl 0 rfl) ?_
  refine lv_iload_n C.1 C.2.1 dX15_nextToken_33 rfl (lv_at hl 3 rfl) ?_
  obtain ⟨h_1, eh_1, hE⟩ := nm_e2 hE
  refine pf_X15_27 C hW hZ k_x0 eh_1 dX15_nextToken_34 (fun _ _ hW km hZ => ?_)
  replace hkm := hkm.tr km
  replace k_x0 := km.at k_x0 (by decide)
  replace k_x1 := km.at k_x1 (by decide)
  refine lv_aload_n C.1 C.2.1 dX15_nextToken_37 rfl (lv_at hl 0 rfl) ?_
  refine lv_aload_n C.1 C.2.1 dX15_nextToken_38 rfl (lv_at hl 1 rfl) ?_
  refine lv_iload_n C.1 C.2.1 dX15_nextToken_39 rfl (lv_at hl 2 rfl) ?_
  refine lv_iload_n C.1 C.2.1 dX15_nextToken_40 rfl (lv_at hl 3 rfl) ?_
  obtain ⟨o_2, eo_2, hE⟩ := cl_e hE
  refine x_kI (o := o_2) (z_runV (As := [.ref x1, .int x2, .int x3]) (rest := []) C (ct_X15_byteAt l X k_x0 k_x1 eo_2) cw_X15_30 hW hZ k_x0 (by decide) rfl rfl rfl hl.1 (Nat.le_of_ble_eq_true rfl) rfl dX15_nextToken_41 ⟨Nat.le_of_ble_eq_true rfl, Nat.le_of_ble_eq_true rfl⟩ ⟨Nat.le_refl _, Nat.le_refl _⟩) hZ (fun _ _ hW km hZ => ?_)
  replace hkm := hkm.tr km
  replace k_x0 := km.at k_x0 (by decide)
  replace k_x1 := km.at k_x1 (by decide)
  refine lv_istore (lv' := [(4, .int o_2.1), (0, .ref x0), (1, .ref x1), (2, .int x2), (3, .int x3)]) C.1 C.2.1 dX15_nextToken_44 hl (by decide) rfl (fun ls hl => ?_)
  refine lv_iload_n C.1 C.2.1 dX15_nextToken_46 rfl (lv_at hl 4 rfl) ?_
  refine lv_iload_n C.1 C.2.1 dX15_nextToken_47 rfl (lv_at hl 3 rfl) ?_
  refine lv_icmp_lt (tgt := 69) C.1 C.2.1 dX15_nextToken_48 (by decide) (fun c_3 => ?_) (fun c_3 => ?_)
  · have hE := br_p hE c_3
    refine lv_iload C.1 C.2.1 dX15_nextToken_69 (lv_at hl 0 rfl) ?_
    obtain ⟨o_4, eo_4, hE⟩ := cl_e hE
    refine x_kI (o := o_4) (z_runS (As := [.int o_2.1]) (rest := []) C (ct_X15_isSmall l X eo_4) cw_X15_37 hW hZ rfl hl.1 (Nat.le_of_ble_eq_true rfl) rfl dX15_nextToken_71 ⟨Nat.le_of_ble_eq_true rfl, Nat.le_of_ble_eq_true rfl⟩ ⟨Nat.le_refl _, Nat.le_refl _⟩) hZ (fun _ _ hW km hZ => ?_)
    replace hkm := hkm.tr km
    replace k_x0 := km.at k_x0 (by decide)
    replace k_x1 := km.at k_x1 (by decide)
    refine lv_if_eq (tgt := 109) C.1 C.2.1 dX15_nextToken_74 (by decide) (fun c_5 => ?_) (fun c_5 => ?_)
    · have hE := br_p hE c_5
      refine lv_iload C.1 C.2.1 dX15_nextToken_109 (lv_at hl 0 rfl) ?_
      obtain ⟨o_6, eo_6, hE⟩ := cl_e hE
      refine x_kI (o := o_6) (z_runS (As := [.int o_2.1]) (rest := []) C (ct_X15_isDigit l X eo_6) cw_X15_41 hW hZ rfl hl.1 (Nat.le_of_ble_eq_true rfl) rfl dX15_nextToken_111 ⟨Nat.le_of_ble_eq_true rfl, Nat.le_of_ble_eq_true rfl⟩ ⟨Nat.le_refl _, Nat.le_refl _⟩) hZ (fun _ _ hW km hZ => ?_)
      replace hkm := hkm.tr km
      replace k_x0 := km.at k_x0 (by decide)
      replace k_x1 := km.at k_x1 (by decide)
      refine lv_if_ne (tgt := 139) C.1 C.2.1 dX15_nextToken_114 (by decide) (fun c_7 => ?_) (fun c_7 => ?_)
      · have hE := br_n hE c_7
        exact bX15_nextToken_139 C k_x0 k_x1 hkm hW hZ _ (lv_sub hl [1, 2, 3, 4, 0] rfl) hE
      · have hE := br_p hE c_7
        refine lv_iload C.1 C.2.1 dX15_nextToken_117 (lv_at hl 0 rfl) ?_
        refine lv_bipush (v := (45 : Int32)) C.1 C.2.1 dX15_nextToken_119 (by decide) ?_
        refine lv_icmp_ne (tgt := 278) C.1 C.2.1 dX15_nextToken_121 (by decide) (fun c_8 => ?_) (fun c_8 => ?_)
        · have hE := br_n hE c_8
          exact bX15_nextToken_278 C k_x0 hkm hW hZ _ (lv_sub hl [1, 4, 0] rfl) hE
        · have hE := br_p hE c_8
          refine lv_aload_n C.1 C.2.1 dX15_nextToken_124 rfl (lv_at hl 1 rfl) ?_
          refine lv_aload_n C.1 C.2.1 dX15_nextToken_125 rfl (lv_at hl 2 rfl) ?_
          refine lv_iload_n C.1 C.2.1 dX15_nextToken_126 rfl (lv_at hl 3 rfl) ?_
          refine lv_iload_n C.1 C.2.1 dX15_nextToken_127 rfl (lv_at hl 4 rfl) ?_
          refine lv_iconst (v := (1 : Int32)) C.1 C.2.1 dX15_nextToken_128 (by decide) ?_
          refine lv_iadd C.1 C.2.1 dX15_nextToken_129 ?_
          obtain ⟨o_9, eo_9, hE⟩ := cl_e hE
          refine x_kI (o := o_9) (z_runV (As := [.ref x1, .int x2, .int (x3 + (1 : Int32))]) (rest := []) C (ct_X15_byteAt l X k_x0 k_x1 eo_9) cw_X15_30 hW hZ k_x0 (by decide) rfl rfl rfl hl.1 (Nat.le_of_ble_eq_true rfl) rfl dX15_nextToken_130 ⟨Nat.le_of_ble_eq_true rfl, Nat.le_of_ble_eq_true rfl⟩ ⟨Nat.le_refl _, Nat.le_refl _⟩) hZ (fun _ _ hW km hZ => ?_)
          replace hkm := hkm.tr km
          replace k_x0 := km.at k_x0 (by decide)
          replace k_x1 := km.at k_x1 (by decide)
          obtain ⟨o_10, eo_10, hE⟩ := cl_e hE
          refine x_kI (o := o_10) (z_runS (As := [.int o_9.1]) (rest := []) C (ct_X15_isDigit l X eo_10) cw_X15_41 hW hZ rfl hl.1 (Nat.le_of_ble_eq_true rfl) rfl dX15_nextToken_133 ⟨Nat.le_of_ble_eq_true rfl, Nat.le_of_ble_eq_true rfl⟩ ⟨Nat.le_refl _, Nat.le_refl _⟩) hZ (fun _ _ hW km hZ => ?_)
          replace hkm := hkm.tr km
          replace k_x0 := km.at k_x0 (by decide)
          replace k_x1 := km.at k_x1 (by decide)
          refine lv_if_eq (tgt := 278) C.1 C.2.1 dX15_nextToken_136 (by decide) (fun c_11 => ?_) (fun c_11 => ?_)
          · have hE := br_p hE c_11
            exact bX15_nextToken_278 C k_x0 hkm hW hZ _ (lv_sub hl [1, 4, 0] rfl) hE
          · have hE := br_n hE c_11
            exact bX15_nextToken_139 C k_x0 k_x1 hkm hW hZ _ (lv_sub hl [1, 2, 3, 4, 0] rfl) hE
    · have hE := br_n hE c_5
      exact bX15_nextToken_77 C F k_x0 k_x1 hkm hW hZ _ (lv_sub hl [1, 2, 3, 4] rfl) hE
  · have hE := br_n hE c_3
    refine lv_aload_n C.1 C.2.1 dX15_nextToken_51 rfl (lv_at hl 1 rfl) ?_
    refine lv_iload_n C.1 C.2.1 dX15_nextToken_52 rfl (lv_at hl 3 rfl) ?_
    obtain ⟨h_12, eh_12, hE⟩ := nm_e2 hE
    refine pf_X15_27 C hW hZ k_x0 eh_12 dX15_nextToken_53 (fun _ _ hW km hZ => ?_)
    replace hkm := hkm.tr km
    replace k_x0 := km.at k_x0 (by decide)
    replace k_x1 := km.at k_x1 (by decide)
    refine lv_aload_n C.1 C.2.1 dX15_nextToken_56 rfl (lv_at hl 1 rfl) ?_
    refine lv_iload_n C.1 C.2.1 dX15_nextToken_57 rfl (lv_at hl 3 rfl) ?_
    obtain ⟨h_13, eh_13, hE⟩ := nm_e2 hE
    refine pf_X15_24 C hW hZ k_x0 eh_13 dX15_nextToken_58 (fun _ _ hW km hZ => ?_)
    replace hkm := hkm.tr km
    replace k_x0 := km.at k_x0 (by decide)
    replace k_x1 := km.at k_x1 (by decide)
    refine lv_aload_n C.1 C.2.1 dX15_nextToken_61 rfl (lv_at hl 1 rfl) ?_
    refine lv_iconst (v := (4 : Int32)) C.1 C.2.1 dX15_nextToken_62 (by decide) ?_
    obtain ⟨h_14, eh_14, hE⟩ := nm_e2 hE
    refine pf_X15_34 C hW hZ k_x0 eh_14 dX15_nextToken_63 (fun _ _ hW km hZ => ?_)
    replace hkm := hkm.tr km
    replace k_x0 := km.at k_x0 (by decide)
    replace k_x1 := km.at k_x1 (by decide)
    refine lv_goto (tgt := 308) C.1 C.2.1 dX15_nextToken_66 (by decide) ?_
    exact bX15_nextToken_308 C hkm hW hZ _ (lv_sub hl [] rfl) hE
set_option maxRecDepth 20000 in
theorem bX15_nextToken_26 {p : Program} {l : Launch} {e : Env} {s : State} {m : MethodId} {args : Array Value} {below : List Frame} {meth : Method} {c : Code} {X : Ec} {h0 : Hp} {o : Hp} {k_5 : Hp → Nat → Nat → Int32 → Int32 → Option (Hp)} {F : Nat} (C : Cx X p s m args meth c RX15 cX15_nextToken 7 none "nextToken") (hk_5 : ∀ (h : Hp) (x0 : Nat) (x1 : Nat) (x2 : Int32) (x3 : Int32) (H : Heap) (locs : List Loc), hK h x0 = 15 → hK h x1 = 16 → Km h0 h → Wx X h H → va_S (aA (eB X)) s.heap H locs → ∀ (ls : Array Slot), lv_has ls 7 [(0, .ref x0), (1, .ref x1), (2, .int x2), (3, .int x3)] → k_5 h x0 x1 x2 x3 = some o → W p l e (rm 1 23) s m args below meth c H locs 0 0 (MQ below (QV X h0 o) args s 0 0 (aA (eB X))) (F0 m 5 ls [])) {h : Hp} {x0 : Nat} {x1 : Nat} {x2 : Int32} {x3 : Int32} {H : Heap} {locs : List Loc} (k_x0 : hK h x0 = 15) (k_x1 : hK h x1 = 16) (hkm : Km h0 h) (hW : Wx X h H) (hZ : va_S (aA (eB X)) s.heap H locs) (ls : Array Slot) (hl : lv_has ls 7 [(0, .ref x0), (1, .ref x1), (2, .int x2), (3, .int x3)]) (hE : sX15_nextToken_26 F k_5 h x0 x1 x2 x3 = some o) : W p l e (rm 1 23) s m args below meth c H locs 0 0 (MQ below (QV X h0 o) args s 0 0 (aA (eB X))) (F0 m 26 ls []) := by
  obtain ⟨v_1, ev_1, hE⟩ := nm_e2 hE
  refine lv_iinc (v := v_1) (lv' := [(3, .int v_1), (0, .ref x0), (1, .ref x1), (2, .int x2)]) C.1 C.2.1 dX15_nextToken_26 hl (k := 3) rfl (by rw [ev_1]; rfl) (by decide) rfl (fun ls hl => ?_)
  refine lv_goto (tgt := 5) C.1 C.2.1 dX15_nextToken_29 (by decide) ?_
  exact hk_5 _ _ _ _ _ _ _ k_x0 k_x1 hkm hW hZ _ (lv_sub hl [1, 2, 3, 0] rfl) hE
set_option maxRecDepth 20000 in
theorem bX15_nextToken_5 {p : Program} {l : Launch} {e : Env} {s : State} {m : MethodId} {args : Array Value} {below : List Frame} {meth : Method} {c : Code} {X : Ec} {h0 : Hp} {o : Hp} {F : Nat} (C : Cx X p s m args meth c RX15 cX15_nextToken 7 none "nextToken") : ∀ (f : Nat) {h : Hp} {x0 : Nat} {x1 : Nat} {x2 : Int32} {x3 : Int32} {H : Heap} {locs : List Loc} (k_x0 : hK h x0 = 15) (k_x1 : hK h x1 = 16), Km h0 h → Wx X h H → va_S (aA (eB X)) s.heap H locs → ∀ (ls : Array Slot), lv_has ls 7 [(0, .ref x0), (1, .ref x1), (2, .int x2), (3, .int x3)] → sX15_nextToken_5 F f h x0 x1 x2 x3 = some o → W p l e (rm 1 23) s m args below meth c H locs 0 0 (MQ below (QV X h0 o) args s 0 0 (aA (eB X))) (F0 m 5 ls []) := by
  intro f
  induction f with
  | zero =>
    intro h x0 x1 x2 x3 H locs k_x0 k_x1 hkm hW hZ ls hl hE
    rw [sX15_nextToken_5] at hE
    cases hE
  | succ f ih =>
    intro h x0 x1 x2 x3 H locs k_x0 k_x1 hkm hW hZ ls hl hE
    rw [sX15_nextToken_5] at hE
    have hk_5 : ∀ (h : Hp) (x0 : Nat) (x1 : Nat) (x2 : Int32) (x3 : Int32) (H : Heap) (locs : List Loc), hK h x0 = 15 → hK h x1 = 16 → Km h0 h → Wx X h H → va_S (aA (eB X)) s.heap H locs → ∀ (ls : Array Slot), lv_has ls 7 [(0, .ref x0), (1, .ref x1), (2, .int x2), (3, .int x3)] → sX15_nextToken_5 F f h x0 x1 x2 x3 = some o → W p l e (rm 1 23) s m args below meth c H locs 0 0 (MQ below (QV X h0 o) args s 0 0 (aA (eB X))) (F0 m 5 ls []) := fun h x0 x1 x2 x3 H locs k_x0 k_x1 a b c ls hl hE => ih k_x0 k_x1 a b c ls hl hE
    refine lv_iload_n C.1 C.2.1 dX15_nextToken_5 rfl (lv_at hl 3 rfl) ?_
    refine lv_iload_n C.1 C.2.1 dX15_nextToken_6 rfl (lv_at hl 2 rfl) ?_
    refine lv_icmp_ge (tgt := 32) C.1 C.2.1 dX15_nextToken_7 (by decide) (fun c_1 => ?_) (fun c_1 => ?_)
    · have hE := br_p hE c_1
      exact bX15_nextToken_32 C k_x0 k_x1 hkm hW hZ _ (lv_sub hl [0, 1, 2, 3] rfl) hE
    · have hE := br_n hE c_1
      refine lv_aload_n C.1 C.2.1 dX15_nextToken_10 rfl (lv_at hl 1 rfl) ?_
      refine lv_iload_n C.1 C.2.1 dX15_nextToken_11 rfl (lv_at hl 3 rfl) ?_
      obtain ⟨g_2, hE⟩ := gd_e hE
      refine y_bald C hW k_x1 g_2 dX15_nextToken_12 ?_
      refine lv_bipush (v := (32 : Int32)) C.1 C.2.1 dX15_nextToken_13 (by decide) ?_
      refine lv_icmp_eq (tgt := 26) C.1 C.2.1 dX15_nextToken_15 (by decide) (fun c_3 => ?_) (fun c_3 => ?_)
      · have hE := br_p hE c_3
        exact bX15_nextToken_26 C hk_5 k_x0 k_x1 hkm hW hZ _ (lv_sub hl [0, 1, 2, 3] rfl) hE
      · have hE := br_n hE c_3
        refine lv_aload_n C.1 C.2.1 dX15_nextToken_18 rfl (lv_at hl 1 rfl) ?_
        refine lv_iload_n C.1 C.2.1 dX15_nextToken_19 rfl (lv_at hl 3 rfl) ?_
        obtain ⟨g_4, hE⟩ := gd_e hE
        refine y_bald C hW k_x1 g_4 dX15_nextToken_20 ?_
        refine lv_bipush (v := (10 : Int32)) C.1 C.2.1 dX15_nextToken_21 (by decide) ?_
        refine lv_icmp_ne (tgt := 32) C.1 C.2.1 dX15_nextToken_23 (by decide) (fun c_5 => ?_) (fun c_5 => ?_)
        · have hE := br_n hE c_5
          exact bX15_nextToken_32 C k_x0 k_x1 hkm hW hZ _ (lv_sub hl [0, 1, 2, 3] rfl) hE
        · have hE := br_p hE c_5
          exact bX15_nextToken_26 C hk_5 k_x0 k_x1 hkm hW hZ _ (lv_sub hl [0, 1, 2, 3] rfl) hE
set_option maxRecDepth 20000 in
theorem ct_X15_nextToken (l : Launch) (X : Ec) (F : Nat) {h : Hp} {x0 : Nat} {x1 : Nat} {x2 : Int32} {o : Hp} (k_x0 : hK h x0 = 15) (k_x1 : hK h x1 = 16) (hE : sX15_nextToken F h x0 x1 x2 = some o) : MetV l yX15_nextToken cX15_nextToken 7 none 1 23 X [.ref x0, .ref x1, .int x2] h o := by
  refine x_met (by decide) (Nat.le_of_ble_eq_true rfl) ?_
  intro p e s m below meth c ls C hl hW hZ
  have hl : lv_has ls 7 [(0, .ref x0), (1, .ref x1), (2, .int x2)] := hl
  have hkm : Km h h := Km.rf h
  refine lv_aload_n C.1 C.2.1 dX15_nextToken_0 rfl (lv_at hl 0 rfl) ?_
  refine gf_X15_24 C hW k_x0 dX15_nextToken_1 ?_
  obtain ⟨v_1, ev_1, hE⟩ := nm_e2 hE
  refine x_nmI ev_1 ?_
  refine lv_istore_n (lv' := [(3, .int v_1), (0, .ref x0), (1, .ref x1), (2, .int x2)]) C.1 C.2.1 dX15_nextToken_4 rfl hl (by decide) rfl (fun ls hl => ?_)
  exact bX15_nextToken_5 C F k_x0 k_x1 hkm hW hZ _ (lv_sub hl [1, 2, 3, 0] rfl) hE
set_option maxRecDepth 100000 in
theorem m_1984 : Cond.methodLink RX15 47 yJ0_length_8abf5 ∈ W0 := w0_in (List.mem_append_right _ (List.mem_of_getElem? (i := 1984) rfl)) rfl
set_option maxRecDepth 100000 in
theorem m_1985 : Cond.methodLink RX15 53 yJ0_charAt_5068e ∈ W0 := w0_in (List.mem_append_right _ (List.mem_of_getElem? (i := 1985) rfl)) rfl
section
variable {p : Program} {l : Launch} {e : Env} {R : Room} {s : State} {m : MethodId} {args : Array Value} {below : List Frame} {meth : Method} {c : Code} {H : Heap} {locs : List Loc} {cells slots : Nat} {Q : State → Prop}
variable {cc : ByteArray} {pc : Nat} {ls : Array Slot} {rest : List Value} {X : Ec} {h h1 : Hp} {nL : Nat} {rt : Option FieldType} {mn : String}
theorem gf_X15_27 {a : Nat} (C : Cx X p s m args meth c RX15 cc nL rt mn) (hW : Wx X h H) (ha : hK h a = 15) (hdg : decode cc pc = .ok (.getfield 27, 3)) (kk : W p l e R s m args below meth c H locs cells slots Q (F0 m (pc + 3) ls (.int (hI h a 7) :: rest))) : W p l e R s m args below meth c H locs cells slots Q (F0 m pc ls (.ref a :: rest)) :=
  y_geti C hW ha i_X15 (by decide) rfl (by decide) m_2118 rfl hdg kk
theorem gf_X15_34 {a : Nat} (C : Cx X p s m args meth c RX15 cc nL rt mn) (hW : Wx X h H) (ha : hK h a = 15) (hdg : decode cc pc = .ok (.getfield 34, 3)) (kk : W p l e R s m args below meth c H locs cells slots Q (F0 m (pc + 3) ls (.int (hI h a 6) :: rest))) : W p l e R s m args below meth c H locs cells slots Q (F0 m pc ls (.ref a :: rest)) :=
  y_geti C hW ha i_X15 (by decide) rfl (by decide) m_2117 rfl hdg kk
end
theorem cw_X15_47 : cwd RX15 47 yJ0_length_8abf5 cJ0_length_8abf5 1 (some .int) false 0 := ⟨m_593, m_1984, m_15, ⟨m_591, m_592⟩, by decide, by decide, by decide +kernel⟩
theorem cw_X15_53 : cwd RX15 53 yJ0_charAt_5068e cJ0_charAt_5068e 2 (some .char) false 1 := ⟨m_603, m_1985, m_15, ⟨m_601, m_602⟩, by decide, by decide, by decide +kernel⟩
theorem dX15_isWord_0 : decode cX15_isWord 0 = .ok (.aload_n 0, 1) := by decide +kernel
theorem dX15_isWord_1 : decode cX15_isWord 1 = .ok (.getfield 34, 3) := by decide +kernel
theorem dX15_isWord_4 : decode cX15_isWord 4 = .ok (.iconst 1, 1) := by decide +kernel
theorem dX15_isWord_5 : decode cX15_isWord 5 = .ok (.if_icmp .ne 19, 3) := by decide +kernel
theorem dX15_isWord_8 : decode cX15_isWord 8 = .ok (.aload_n 0, 1) := by decide +kernel
theorem dX15_isWord_9 : decode cX15_isWord 9 = .ok (.getfield 24, 3) := by decide +kernel
theorem dX15_isWord_12 : decode cX15_isWord 12 = .ok (.aload_n 0, 1) := by decide +kernel
theorem dX15_isWord_13 : decode cX15_isWord 13 = .ok (.getfield 27, 3) := by decide +kernel
theorem dX15_isWord_16 : decode cX15_isWord 16 = .ok (.isub, 1) := by decide +kernel
theorem dX15_isWord_17 : decode cX15_isWord 17 = .ok (.aload_n 2, 1) := by decide +kernel
theorem dX15_isWord_18 : decode cX15_isWord 18 = .ok (.invokevirtual 47, 3) := by decide +kernel
theorem dX15_isWord_21 : decode cX15_isWord 21 = .ok (.if_icmp .eq 5, 3) := by decide +kernel
theorem dX15_isWord_24 : decode cX15_isWord 24 = .ok (.iconst 0, 1) := by decide +kernel
theorem dX15_isWord_25 : decode cX15_isWord 25 = .ok (.ireturn, 1) := by decide +kernel
theorem dX15_isWord_26 : decode cX15_isWord 26 = .ok (.iconst 0, 1) := by decide +kernel
theorem dX15_isWord_27 : decode cX15_isWord 27 = .ok (.istore_n 3, 1) := by decide +kernel
theorem dX15_isWord_28 : decode cX15_isWord 28 = .ok (.iload_n 3, 1) := by decide +kernel
theorem dX15_isWord_29 : decode cX15_isWord 29 = .ok (.aload_n 2, 1) := by decide +kernel
theorem dX15_isWord_30 : decode cX15_isWord 30 = .ok (.invokevirtual 47, 3) := by decide +kernel
theorem dX15_isWord_33 : decode cX15_isWord 33 = .ok (.if_icmp .ge 27, 3) := by decide +kernel
theorem dX15_isWord_36 : decode cX15_isWord 36 = .ok (.aload_n 1, 1) := by decide +kernel
theorem dX15_isWord_37 : decode cX15_isWord 37 = .ok (.aload_n 0, 1) := by decide +kernel
theorem dX15_isWord_38 : decode cX15_isWord 38 = .ok (.getfield 27, 3) := by decide +kernel
theorem dX15_isWord_41 : decode cX15_isWord 41 = .ok (.iload_n 3, 1) := by decide +kernel
theorem dX15_isWord_42 : decode cX15_isWord 42 = .ok (.iadd, 1) := by decide +kernel
theorem dX15_isWord_43 : decode cX15_isWord 43 = .ok (.baload, 1) := by decide +kernel
theorem dX15_isWord_44 : decode cX15_isWord 44 = .ok (.aload_n 2, 1) := by decide +kernel
theorem dX15_isWord_45 : decode cX15_isWord 45 = .ok (.iload_n 3, 1) := by decide +kernel
theorem dX15_isWord_46 : decode cX15_isWord 46 = .ok (.invokevirtual 53, 3) := by decide +kernel
theorem dX15_isWord_49 : decode cX15_isWord 49 = .ok (.if_icmp .eq 5, 3) := by decide +kernel
theorem dX15_isWord_52 : decode cX15_isWord 52 = .ok (.iconst 0, 1) := by decide +kernel
theorem dX15_isWord_53 : decode cX15_isWord 53 = .ok (.ireturn, 1) := by decide +kernel
theorem dX15_isWord_54 : decode cX15_isWord 54 = .ok (.iinc 3 1, 3) := by decide +kernel
theorem dX15_isWord_57 : decode cX15_isWord 57 = .ok (.goto (-29), 3) := by decide +kernel
theorem dX15_isWord_60 : decode cX15_isWord 60 = .ok (.iconst 1, 1) := by decide +kernel
theorem dX15_isWord_61 : decode cX15_isWord 61 = .ok (.ireturn, 1) := by decide +kernel
set_option maxRecDepth 20000 in
theorem moX15_isWord_24 {o : Int32 × Hp} {F : Nat} {h : Hp} (hE : sX15_isWord_24 F h  = some o) : Le h o.2 := by
  exact le_some2 hE
set_option maxRecDepth 20000 in
theorem moX15_isWord_28 {o : Int32 × Hp} {F : Nat} : ∀ (f : Nat) {h : Hp} {x0 : Nat} {x1 : Nat} {x2 : Nat} {x3 : Int32}, sX15_isWord_28 F f h x0 x1 x2 x3 = some o → Le h o.2 := by
  intro f
  induction f with
  | zero =>
    intro h x0 x1 x2 x3 hE
    rw [sX15_isWord_28] at hE
    cases hE
  | succ f ih =>
    intro h x0 x1 x2 x3 hE
    rw [sX15_isWord_28] at hE
    have mk_28 : ∀ (h : Hp) (x0 : Nat) (x1 : Nat) (x2 : Nat) (x3 : Int32), sX15_isWord_28 F f h x0 x1 x2 x3 = some o → Le h o.2 := fun h x0 x1 x2 x3 hE => ih hE
    rcases br_e hE with ⟨_, hE⟩ | ⟨_, hE⟩
    · exact le_some2 hE
    · obtain ⟨g_2, hE⟩ := gd_e hE
      obtain ⟨g_3, hE⟩ := gd_e hE
      rcases br_e hE with ⟨_, hE⟩ | ⟨_, hE⟩
      · obtain ⟨v_5, ev_5, hE⟩ := nm_e2 hE
        exact mk_28 _ _ _ _ _ hE
      · exact le_some2 hE
set_option maxRecDepth 20000 in
theorem moX15_isWord {o : Int32 × Hp} {F : Nat} {h : Hp} {x0 : Nat} {x1 : Nat} {x2 : Nat} (hE : sX15_isWord F h x0 x1 x2 = some o) : Le h o.2 := by
  rcases br_e hE with ⟨_, hE⟩ | ⟨_, hE⟩
  · rcases br_e hE with ⟨_, hE⟩ | ⟨_, hE⟩
    · exact moX15_isWord_28 _ hE
    · exact moX15_isWord_24 hE
  · exact moX15_isWord_24 hE
set_option maxRecDepth 20000 in
theorem bX15_isWord_24 {p : Program} {l : Launch} {e : Env} {s : State} {m : MethodId} {args : Array Value} {below : List Frame} {meth : Method} {c : Code} {X : Ec} {h0 : Hp} {o : Int32 × Hp} {F : Nat} (C : Cx X p s m args meth c RX15 cX15_isWord 4 (some .boolean) "isWord") {h : Hp} {H : Heap} {locs : List Loc} (hkm : Km h0 h) (hW : Wx X h H) (hZ : va_S (aA (eB X)) s.heap H locs) (ls : Array Slot) (hl : lv_has ls 4 []) (hE : sX15_isWord_24 F h  = some o) : W p l e (rm 4 85) s m args below meth c H locs 0 0 (MQ below (QI X h0 o.1 o.2) args s 0 0 (aA (eB X))) (F0 m 24 ls []) := by
  refine lv_iconst (v := (0 : Int32)) C.1 C.2.1 dX15_isWord_24 (by decide) ?_
  exact x_iret C rfl (by decide) hW hZ hkm hE dX15_isWord_25
set_option maxRecDepth 20000 in
theorem bX15_isWord_28 {p : Program} {l : Launch} {e : Env} {s : State} {m : MethodId} {args : Array Value} {below : List Frame} {meth : Method} {c : Code} {X : Ec} {h0 : Hp} {o : Int32 × Hp} {F : Nat} (C : Cx X p s m args meth c RX15 cX15_isWord 4 (some .boolean) "isWord") : ∀ (f : Nat) {h : Hp} {x0 : Nat} {x1 : Nat} {x2 : Nat} {x3 : Int32} {H : Heap} {locs : List Loc} (k_x0 : hK h x0 = 15) (k_x1 : hK h x1 = 16) (k_x2 : x2 < 52), Km h0 h → Wx X h H → va_S (aA (eB X)) s.heap H locs → ∀ (ls : Array Slot), lv_has ls 4 [(0, .ref x0), (1, .ref x1), (2, .ref (X.2.2.2.1 x2)), (3, .int x3)] → sX15_isWord_28 F f h x0 x1 x2 x3 = some o → W p l e (rm 4 85) s m args below meth c H locs 0 0 (MQ below (QI X h0 o.1 o.2) args s 0 0 (aA (eB X))) (F0 m 28 ls []) := by
  intro f
  induction f with
  | zero =>
    intro h x0 x1 x2 x3 H locs k_x0 k_x1 k_x2 hkm hW hZ ls hl hE
    rw [sX15_isWord_28] at hE
    cases hE
  | succ f ih =>
    intro h x0 x1 x2 x3 H locs k_x0 k_x1 k_x2 hkm hW hZ ls hl hE
    rw [sX15_isWord_28] at hE
    have hk_28 : ∀ (h : Hp) (x0 : Nat) (x1 : Nat) (x2 : Nat) (x3 : Int32) (H : Heap) (locs : List Loc), hK h x0 = 15 → hK h x1 = 16 → x2 < 52 → Km h0 h → Wx X h H → va_S (aA (eB X)) s.heap H locs → ∀ (ls : Array Slot), lv_has ls 4 [(0, .ref x0), (1, .ref x1), (2, .ref (X.2.2.2.1 x2)), (3, .int x3)] → sX15_isWord_28 F f h x0 x1 x2 x3 = some o → W p l e (rm 4 85) s m args below meth c H locs 0 0 (MQ below (QI X h0 o.1 o.2) args s 0 0 (aA (eB X))) (F0 m 28 ls []) := fun h x0 x1 x2 x3 H locs k_x0 k_x1 k_x2 a b c ls hl hE => ih k_x0 k_x1 k_x2 a b c ls hl hE
    refine lv_iload_n C.1 C.2.1 dX15_isWord_28 rfl (lv_at hl 3 rfl) ?_
    refine lv_aload_n C.1 C.2.1 dX15_isWord_29 rfl (lv_at hl 2 rfl) ?_
    refine x_kI (o := (nI (lB x2).length, h)) (x_runVS (As := []) (rest := [.int x3]) C (ct_J0_length_8abf5 l X k_x2) cw_X15_47 hW hZ k_x2 rfl rfl hl.1 (Nat.le_of_ble_eq_true rfl) rfl dX15_isWord_30 ⟨Nat.le_of_ble_eq_true rfl, Nat.le_of_ble_eq_true rfl⟩ ⟨Nat.le_refl _, Nat.le_refl _⟩) hZ (fun _ _ hW km hZ => ?_)
    refine lv_icmp_ge (tgt := 60) C.1 C.2.1 dX15_isWord_33 (by decide) (fun c_1 => ?_) (fun c_1 => ?_)
    · have hE := br_p hE c_1
      refine lv_iconst (v := (1 : Int32)) C.1 C.2.1 dX15_isWord_60 (by decide) ?_
      exact x_iret C rfl (by decide) hW hZ hkm hE dX15_isWord_61
    · have hE := br_n hE c_1
      refine lv_aload_n C.1 C.2.1 dX15_isWord_36 rfl (lv_at hl 1 rfl) ?_
      refine lv_aload_n C.1 C.2.1 dX15_isWord_37 rfl (lv_at hl 0 rfl) ?_
      refine gf_X15_27 C hW k_x0 dX15_isWord_38 ?_
      refine lv_iload_n C.1 C.2.1 dX15_isWord_41 rfl (lv_at hl 3 rfl) ?_
      refine lv_iadd C.1 C.2.1 dX15_isWord_42 ?_
      obtain ⟨g_2, hE⟩ := gd_e hE
      refine y_bald C hW k_x1 g_2 dX15_isWord_43 ?_
      refine lv_aload_n C.1 C.2.1 dX15_isWord_44 rfl (lv_at hl 2 rfl) ?_
      refine lv_iload_n C.1 C.2.1 dX15_isWord_45 rfl (lv_at hl 3 rfl) ?_
      obtain ⟨g_3, hE⟩ := gd_e hE
      refine x_kI (o := (schr x2 x3, h)) (x_runVS (As := [.int x3]) (rest := [.int (hI h x1 ((hI h x0 7) + x3).toNatClampNeg)]) C (ct_J0_charAt_5068e l X k_x2 g_3) cw_X15_53 hW hZ k_x2 rfl rfl hl.1 (Nat.le_of_ble_eq_true rfl) rfl dX15_isWord_46 ⟨Nat.le_of_ble_eq_true rfl, Nat.le_of_ble_eq_true rfl⟩ ⟨Nat.le_refl _, Nat.le_refl _⟩) hZ (fun _ _ hW km hZ => ?_)
      refine lv_icmp_eq (tgt := 54) C.1 C.2.1 dX15_isWord_49 (by decide) (fun c_4 => ?_) (fun c_4 => ?_)
      · have hE := br_p hE c_4
        obtain ⟨v_5, ev_5, hE⟩ := nm_e2 hE
        refine lv_iinc (v := v_5) (lv' := [(3, .int v_5), (0, .ref x0), (1, .ref x1), (2, .ref (X.2.2.2.1 x2))]) C.1 C.2.1 dX15_isWord_54 hl (k := 3) rfl (by rw [ev_5]; rfl) (by decide) rfl (fun ls hl => ?_)
        refine lv_goto (tgt := 28) C.1 C.2.1 dX15_isWord_57 (by decide) ?_
        exact hk_28 _ _ _ _ _ _ _ k_x0 k_x1 k_x2 hkm hW hZ _ (lv_sub hl [1, 2, 3, 0] rfl) hE
      · have hE := br_n hE c_4
        refine lv_iconst (v := (0 : Int32)) C.1 C.2.1 dX15_isWord_52 (by decide) ?_
        exact x_iret C rfl (by decide) hW hZ hkm hE dX15_isWord_53
set_option maxRecDepth 20000 in
theorem ct_X15_isWord (l : Launch) (X : Ec) (F : Nat) {h : Hp} {x0 : Nat} {x1 : Nat} {x2 : Nat} {o : Int32 × Hp} (k_x0 : hK h x0 = 15) (k_x1 : hK h x1 = 16) (k_x2 : x2 < 52) (hE : sX15_isWord F h x0 x1 x2 = some o) : MetI l yX15_isWord cX15_isWord 4 (some .boolean) 4 85 X [.ref x0, .ref x1, .ref (X.2.2.2.1 x2)] h o := by
  refine x_met (by decide) (Nat.le_of_ble_eq_true rfl) ?_
  intro p e s m below meth c ls C hl hW hZ
  have hl : lv_has ls 4 [(0, .ref x0), (1, .ref x1), (2, .ref (X.2.2.2.1 x2))] := hl
  have hkm : Km h h := Km.rf h
  refine lv_aload_n C.1 C.2.1 dX15_isWord_0 rfl (lv_at hl 0 rfl) ?_
  refine gf_X15_34 C hW k_x0 dX15_isWord_1 ?_
  refine lv_iconst (v := (1 : Int32)) C.1 C.2.1 dX15_isWord_4 (by decide) ?_
  refine lv_icmp_ne (tgt := 24) C.1 C.2.1 dX15_isWord_5 (by decide) (fun c_1 => ?_) (fun c_1 => ?_)
  · have hE := br_n hE c_1
    exact bX15_isWord_24 C hkm hW hZ _ (lv_sub hl [] rfl) hE
  · have hE := br_p hE c_1
    refine lv_aload_n C.1 C.2.1 dX15_isWord_8 rfl (lv_at hl 0 rfl) ?_
    refine gf_X15_24 C hW k_x0 dX15_isWord_9 ?_
    refine lv_aload_n C.1 C.2.1 dX15_isWord_12 rfl (lv_at hl 0 rfl) ?_
    refine gf_X15_27 C hW k_x0 dX15_isWord_13 ?_
    refine lv_isub C.1 C.2.1 dX15_isWord_16 ?_
    refine lv_aload_n C.1 C.2.1 dX15_isWord_17 rfl (lv_at hl 2 rfl) ?_
    refine x_kI (o := (nI (lB x2).length, h)) (x_runVS (As := []) (rest := [.int ((hI h x0 8) - (hI h x0 7))]) C (ct_J0_length_8abf5 l X k_x2) cw_X15_47 hW hZ k_x2 rfl rfl hl.1 (Nat.le_of_ble_eq_true rfl) rfl dX15_isWord_18 ⟨Nat.le_of_ble_eq_true rfl, Nat.le_of_ble_eq_true rfl⟩ ⟨Nat.le_refl _, Nat.le_refl _⟩) hZ (fun _ _ hW km hZ => ?_)
    refine lv_icmp_eq (tgt := 26) C.1 C.2.1 dX15_isWord_21 (by decide) (fun c_2 => ?_) (fun c_2 => ?_)
    · have hE := br_p hE c_2
      refine lv_iconst (v := (0 : Int32)) C.1 C.2.1 dX15_isWord_26 (by decide) ?_
      refine lv_istore_n (lv' := [(3, .int (0 : Int32)), (0, .ref x0), (1, .ref x1), (2, .ref (X.2.2.2.1 x2))]) C.1 C.2.1 dX15_isWord_27 rfl hl (by decide) rfl (fun ls hl => ?_)
      exact bX15_isWord_28 C F k_x0 k_x1 k_x2 hkm hW hZ _ (lv_sub hl [1, 2, 3, 0] rfl) hE
    · have hE := br_n hE c_2
      exact bX15_isWord_24 C hkm hW hZ _ (lv_sub hl [] rfl) hE
