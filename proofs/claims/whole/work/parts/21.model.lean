theorem m_2132 : Cond.fieldLink RX15 7 (TX15 0).1 (TX15 0).2.1 (TX15 0).2.2.1 ∈ W0 := w0_in (List.mem_append_right _ (List.mem_of_getElem? (i := 2132) (by decide +kernel))) rfl
theorem m_2133 : Cond.fieldLink RX15 1 (TX15 1).1 (TX15 1).2.1 (TX15 1).2.2.1 ∈ W0 := w0_in (List.mem_append_right _ (List.mem_of_getElem? (i := 2133) (by decide +kernel))) rfl
theorem i_X15 : ∀ w ∈ u_ws RX15 TX15 71, w ∈ W0 := by
  intro w hw
  exact w0_in (List.mem_append_right _ ((by decide +kernel : ∀ w ∈ u_ws RX15 TX15 71, w ∈ tables_1) w hw)) ((by decide +kernel : ∀ w ∈ u_ws RX15 TX15 71, goodWord w = true) w hw)
section
variable {p : Program} {l : Launch} {e : Env} {R : Room} {s : State} {m : MethodId} {args : Array Value} {below : List Frame} {meth : Method} {c : Code} {H : Heap} {locs : List Loc} {cells slots : Nat} {Q : State → Prop}
variable {cc : ByteArray} {pc : Nat} {ls : Array Slot} {rest : List Value} {X : Ec} {h h1 : Hp} {nL : Nat} {rt : Option FieldType} {mn : String}
theorem gf_X15_7 {a r : Nat} (C : Cx X p s m args meth c RX15 cc nL rt mn) (hW : Wx X h H) (ha : hK h a = 15) (hr : hR h a 0 = some r) (hdg : decode cc pc = .ok (.getfield 7, 3)) (kk : hK h r = 16 → W p l e R s m args below meth c H locs cells slots Q (F0 m (pc + 3) ls (.ref r :: rest))) : W p l e R s m args below meth c H locs cells slots Q (F0 m pc ls (.ref a :: rest)) :=
  y_getr C hW ha i_X15 (by decide) rfl (by decide) m_2132 rfl rfl hr hdg kk
theorem gf_X15_1 {a : Nat} (C : Cx X p s m args meth c RX15 cc nL rt mn) (hW : Wx X h H) (ha : hK h a = 15) (hdg : decode cc pc = .ok (.getfield 1, 3)) (kk : W p l e R s m args below meth c H locs cells slots Q (F0 m (pc + 3) ls (.int (hI h a 1) :: rest))) : W p l e R s m args below meth c H locs cells slots Q (F0 m pc ls (.ref a :: rest)) :=
  y_geti C hW ha i_X15 (by decide) rfl (by decide) m_2133 rfl hdg kk
theorem pf_X15_1 {a : Nat} {v : Int32} (C : Cx X p s m args meth c RX15 cc nL rt mn) (hW : Wx X h H) (hZ : va_S (aA (eB X)) s.heap H locs) (ha : hK h a = 15) (eh : h1 = wI h a 1 v) (hdg : decode cc pc = .ok (.putfield 1, 3)) (kk : ∀ (H1 : Heap) (locs1 : List Loc), Wx X h1 H1 → Km h h1 → va_S (aA (eB X)) s.heap H1 locs1 → W p l e R s m args below meth c H1 locs1 cells slots Q (F0 m (pc + 3) ls rest)) : W p l e R s m args below meth c H locs cells slots Q (F0 m pc ls (.int v :: .ref a :: rest)) :=
  y_puti (ty := .int) C hW hZ ha i_X15 tyX15 tyX15_ok nmX15 (by decide) rfl rfl (by decide) m_2133 rfl (by decide +kernel) rfl rfl rfl eh hdg kk
end
theorem dX15_feed_0 : decode cX15_feed 0 = .ok (.aload_n 0, 1) := by decide +kernel
theorem dX15_feed_1 : decode cX15_feed 1 = .ok (.getfield 1, 3) := by decide +kernel
theorem dX15_feed_4 : decode cX15_feed 4 = .ok (.bipush 20, 2) := by decide +kernel
theorem dX15_feed_6 : decode cX15_feed 6 = .ok (.iadd, 1) := by decide +kernel
theorem dX15_feed_7 : decode cX15_feed 7 = .ok (.sipush 1200, 3) := by decide +kernel
theorem dX15_feed_10 : decode cX15_feed 10 = .ok (.if_icmp .le 6, 3) := by decide +kernel
theorem dX15_feed_13 : decode cX15_feed 13 = .ok (.bipush (-104), 2) := by decide +kernel
theorem dX15_feed_15 : decode cX15_feed 15 = .ok (.ireturn, 1) := by decide +kernel
theorem dX15_feed_16 : decode cX15_feed 16 = .ok (.iconst 0, 1) := by decide +kernel
theorem dX15_feed_17 : decode cX15_feed 17 = .ok (.istore 6, 2) := by decide +kernel
theorem dX15_feed_19 : decode cX15_feed 19 = .ok (.iload 6, 2) := by decide +kernel
theorem dX15_feed_21 : decode cX15_feed 21 = .ok (.bipush 20, 2) := by decide +kernel
theorem dX15_feed_23 : decode cX15_feed 23 = .ok (.if_icmp .ge 90, 3) := by decide +kernel
theorem dX15_feed_26 : decode cX15_feed 26 = .ok (.iload 6, 2) := by decide +kernel
theorem dX15_feed_28 : decode cX15_feed 28 = .ok (.iconst 4, 1) := by decide +kernel
theorem dX15_feed_29 : decode cX15_feed 29 = .ok (.if_icmp .ge 7, 3) := by decide +kernel
theorem dX15_feed_32 : decode cX15_feed 32 = .ok (.iload_n 1, 1) := by decide +kernel
theorem dX15_feed_33 : decode cX15_feed 33 = .ok (.goto 39, 3) := by decide +kernel
theorem dX15_feed_36 : decode cX15_feed 36 = .ok (.iload 6, 2) := by decide +kernel
theorem dX15_feed_38 : decode cX15_feed 38 = .ok (.bipush 8, 2) := by decide +kernel
theorem dX15_feed_40 : decode cX15_feed 40 = .ok (.if_icmp .ge 7, 3) := by decide +kernel
theorem dX15_feed_43 : decode cX15_feed 43 = .ok (.iload_n 2, 1) := by decide +kernel
theorem dX15_feed_44 : decode cX15_feed 44 = .ok (.goto 28, 3) := by decide +kernel
theorem dX15_feed_47 : decode cX15_feed 47 = .ok (.iload 6, 2) := by decide +kernel
theorem dX15_feed_49 : decode cX15_feed 49 = .ok (.bipush 12, 2) := by decide +kernel
theorem dX15_feed_51 : decode cX15_feed 51 = .ok (.if_icmp .ge 7, 3) := by decide +kernel
theorem dX15_feed_54 : decode cX15_feed 54 = .ok (.iload_n 3, 1) := by decide +kernel
theorem dX15_feed_55 : decode cX15_feed 55 = .ok (.goto 17, 3) := by decide +kernel
theorem dX15_feed_58 : decode cX15_feed 58 = .ok (.iload 6, 2) := by decide +kernel
theorem dX15_feed_60 : decode cX15_feed 60 = .ok (.bipush 16, 2) := by decide +kernel
theorem dX15_feed_62 : decode cX15_feed 62 = .ok (.if_icmp .ge 8, 3) := by decide +kernel
theorem dX15_feed_65 : decode cX15_feed 65 = .ok (.iload 4, 2) := by decide +kernel
theorem dX15_feed_67 : decode cX15_feed 67 = .ok (.goto 5, 3) := by decide +kernel
theorem dX15_feed_70 : decode cX15_feed 70 = .ok (.iload 5, 2) := by decide +kernel
theorem dX15_feed_72 : decode cX15_feed 72 = .ok (.istore 7, 2) := by decide +kernel
theorem dX15_feed_74 : decode cX15_feed 74 = .ok (.aload_n 0, 1) := by decide +kernel
theorem dX15_feed_75 : decode cX15_feed 75 = .ok (.getfield 7, 3) := by decide +kernel
theorem dX15_feed_78 : decode cX15_feed 78 = .ok (.aload_n 0, 1) := by decide +kernel
theorem dX15_feed_79 : decode cX15_feed 79 = .ok (.getfield 1, 3) := by decide +kernel
theorem dX15_feed_82 : decode cX15_feed 82 = .ok (.iload 7, 2) := by decide +kernel
theorem dX15_feed_84 : decode cX15_feed 84 = .ok (.bipush 24, 2) := by decide +kernel
theorem dX15_feed_86 : decode cX15_feed 86 = .ok (.bipush 8, 2) := by decide +kernel
theorem dX15_feed_88 : decode cX15_feed 88 = .ok (.iload 6, 2) := by decide +kernel
theorem dX15_feed_90 : decode cX15_feed 90 = .ok (.iconst 3, 1) := by decide +kernel
theorem dX15_feed_91 : decode cX15_feed 91 = .ok (.iand, 1) := by decide +kernel
theorem dX15_feed_92 : decode cX15_feed 92 = .ok (.imul, 1) := by decide +kernel
theorem dX15_feed_93 : decode cX15_feed 93 = .ok (.isub, 1) := by decide +kernel
theorem dX15_feed_94 : decode cX15_feed 94 = .ok (.ishr, 1) := by decide +kernel
theorem dX15_feed_95 : decode cX15_feed 95 = .ok (.i2b, 1) := by decide +kernel
theorem dX15_feed_96 : decode cX15_feed 96 = .ok (.bastore, 1) := by decide +kernel
theorem dX15_feed_97 : decode cX15_feed 97 = .ok (.aload_n 0, 1) := by decide +kernel
theorem dX15_feed_98 : decode cX15_feed 98 = .ok (.dup, 1) := by decide +kernel
theorem dX15_feed_99 : decode cX15_feed 99 = .ok (.getfield 1, 3) := by decide +kernel
theorem dX15_feed_102 : decode cX15_feed 102 = .ok (.iconst 1, 1) := by decide +kernel
theorem dX15_feed_103 : decode cX15_feed 103 = .ok (.iadd, 1) := by decide +kernel
theorem dX15_feed_104 : decode cX15_feed 104 = .ok (.putfield 1, 3) := by decide +kernel
theorem dX15_feed_107 : decode cX15_feed 107 = .ok (.iinc 6 1, 3) := by decide +kernel
theorem dX15_feed_110 : decode cX15_feed 110 = .ok (.goto (-91), 3) := by decide +kernel
theorem dX15_feed_113 : decode cX15_feed 113 = .ok (.aload_n 0, 1) := by decide +kernel
theorem dX15_feed_114 : decode cX15_feed 114 = .ok (.getfield 1, 3) := by decide +kernel
theorem dX15_feed_117 : decode cX15_feed 117 = .ok (.ireturn, 1) := by decide +kernel
def sX15_feed_72 (F : Nat) (k_19 : Hp → Nat → Int32 → Int32 → Int32 → Int32 → Int32 → Int32 → Option (Int32 × Hp)) (h : Hp) (x0 : Nat) (x1 : Int32) (x2 : Int32) (x3 : Int32) (x4 : Int32) (x5 : Int32) (x6 : Int32) (t0 : Int32) : Option (Int32 × Hp) := cl (hR h x0 0) fun r_1 => gd (inB (hI h x0 1) (hN h r_1)) <| nm (wI h r_1 (hI h x0 1).toNatClampNeg (vp_nar .byte ((t0 >>> (((24 : Int32) - ((8 : Int32) * (x6 &&& (3 : Int32)))) &&& 31)).toInt8.toInt32))) fun h_3 => nm (wI h_3 x0 1 ((hI h_3 x0 1) + (1 : Int32))) fun h_4 => nm (x6 + (1 : Int32)) fun v_5 => k_19 h_4 x0 x1 x2 x3 x4 x5 v_5
def sX15_feed_19 (F : Nat) : Nat → Hp → Nat → Int32 → Int32 → Int32 → Int32 → Int32 → Int32 → Option (Int32 × Hp)
  | 0, _, _, _, _, _, _, _, _ => none
  | f + 1, h, x0, x1, x2, x3, x4, x5, x6 => br ((20 : Int32) ≤ x6) (some (hI h x0 1, h)) (br ((4 : Int32) ≤ x6) (br ((8 : Int32) ≤ x6) (br ((12 : Int32) ≤ x6) (br ((16 : Int32) ≤ x6) (sX15_feed_72 F (sX15_feed_19 F f) h x0 x1 x2 x3 x4 x5 x6 x5) (sX15_feed_72 F (sX15_feed_19 F f) h x0 x1 x2 x3 x4 x5 x6 x4)) (sX15_feed_72 F (sX15_feed_19 F f) h x0 x1 x2 x3 x4 x5 x6 x3)) (sX15_feed_72 F (sX15_feed_19 F f) h x0 x1 x2 x3 x4 x5 x6 x2)) (sX15_feed_72 F (sX15_feed_19 F f) h x0 x1 x2 x3 x4 x5 x6 x1))
def sX15_feed (F : Nat) (h : Hp) (x0 : Nat) (x1 : Int32) (x2 : Int32) (x3 : Int32) (x4 : Int32) (x5 : Int32) : Option (Int32 × Hp) := br (((hI h x0 1) + (20 : Int32)) ≤ (1200 : Int32)) (sX15_feed_19 F F h x0 x1 x2 x3 x4 x5 (0 : Int32)) (some ((-104 : Int32), h))
set_option maxRecDepth 20000 in
theorem bX15_feed_72 {p : Program} {l : Launch} {e : Env} {s : State} {m : MethodId} {args : Array Value} {below : List Frame} {meth : Method} {c : Code} {X : Ec} {h0 : Hp} {o : Int32 × Hp} {k_19 : Hp → Nat → Int32 → Int32 → Int32 → Int32 → Int32 → Int32 → Option (Int32 × Hp)} {F : Nat} (C : Cx X p s m args meth c RX15 cX15_feed 8 (some .int) "feed") (hk_19 : ∀ (h : Hp) (x0 : Nat) (x1 : Int32) (x2 : Int32) (x3 : Int32) (x4 : Int32) (x5 : Int32) (x6 : Int32) (H : Heap) (locs : List Loc), hK h x0 = 15 → Km h0 h → Wx X h H → va_S (aA (eB X)) s.heap H locs → ∀ (ls : Array Slot), lv_has ls 8 [(0, .ref x0), (1, .int x1), (2, .int x2), (3, .int x3), (4, .int x4), (5, .int x5), (6, .int x6)] → k_19 h x0 x1 x2 x3 x4 x5 x6 = some o → W p l e (rm 0 0) s m args below meth c H locs 0 0 (MQ below (QI X h0 o.1 o.2) args s 0 0 (aA (eB X))) (F0 m 19 ls [])) {h : Hp} {x0 : Nat} {x1 : Int32} {x2 : Int32} {x3 : Int32} {x4 : Int32} {x5 : Int32} {x6 : Int32} {t0 : Int32} {H : Heap} {locs : List Loc} (k_x0 : hK h x0 = 15) (hkm : Km h0 h) (hW : Wx X h H) (hZ : va_S (aA (eB X)) s.heap H locs) (ls : Array Slot) (hl : lv_has ls 8 [(0, .ref x0), (1, .int x1), (2, .int x2), (3, .int x3), (4, .int x4), (5, .int x5), (6, .int x6)]) (hE : sX15_feed_72 F k_19 h x0 x1 x2 x3 x4 x5 x6 t0 = some o) : W p l e (rm 0 0) s m args below meth c H locs 0 0 (MQ below (QI X h0 o.1 o.2) args s 0 0 (aA (eB X))) (F0 m 72 ls [.int t0]) := by
  refine lv_istore (lv' := [(7, .int t0), (0, .ref x0), (1, .int x1), (2, .int x2), (3, .int x3), (4, .int x4), (5, .int x5), (6, .int x6)]) C.1 C.2.1 dX15_feed_72 hl (by decide) rfl (fun ls hl => ?_)
  refine lv_aload_n C.1 C.2.1 dX15_feed_74 rfl (lv_at hl 1 rfl) ?_
  obtain ⟨r_1, er_1, hE⟩ := cl_e hE
  refine gf_X15_7 C hW k_x0 er_1 dX15_feed_75 (fun k_r_1 => ?_)
  refine lv_aload_n C.1 C.2.1 dX15_feed_78 rfl (lv_at hl 1 rfl) ?_
  refine gf_X15_1 C hW k_x0 dX15_feed_79 ?_
  refine lv_iload C.1 C.2.1 dX15_feed_82 (lv_at hl 0 rfl) ?_
  refine lv_bipush (v := (24 : Int32)) C.1 C.2.1 dX15_feed_84 (by decide) ?_
  refine lv_bipush (v := (8 : Int32)) C.1 C.2.1 dX15_feed_86 (by decide) ?_
  refine lv_iload C.1 C.2.1 dX15_feed_88 (lv_at hl 7 rfl) ?_
  refine lv_iconst (v := (3 : Int32)) C.1 C.2.1 dX15_feed_90 (by decide) ?_
  refine lv_iand C.1 C.2.1 dX15_feed_91 ?_
  refine lv_imul C.1 C.2.1 dX15_feed_92 ?_
  refine lv_isub C.1 C.2.1 dX15_feed_93 ?_
  refine lv_ishr C.1 C.2.1 dX15_feed_94 ?_
  refine lv_i2b C.1 C.2.1 dX15_feed_95 rfl ?_
  obtain ⟨g_2, hE⟩ := gd_e hE
  obtain ⟨h_3, eh_3, hE⟩ := nm_e2 hE
  refine y_bast C hW hZ k_r_1 g_2 eh_3 dX15_feed_96 (fun _ _ hW km hZ => ?_)
  replace hkm := hkm.tr km
  replace k_x0 := km.at k_x0 (by decide)
  refine lv_aload_n C.1 C.2.1 dX15_feed_97 rfl (lv_at hl 1 rfl) ?_
  refine lv_dup C.1 C.2.1 dX15_feed_98 rfl ?_
  refine gf_X15_1 C hW k_x0 dX15_feed_99 ?_
  refine lv_iconst (v := (1 : Int32)) C.1 C.2.1 dX15_feed_102 (by decide) ?_
  refine lv_iadd C.1 C.2.1 dX15_feed_103 ?_
  obtain ⟨h_4, eh_4, hE⟩ := nm_e2 hE
  refine pf_X15_1 C hW hZ k_x0 eh_4 dX15_feed_104 (fun _ _ hW km hZ => ?_)
  replace hkm := hkm.tr km
  replace k_x0 := km.at k_x0 (by decide)
  obtain ⟨v_5, ev_5, hE⟩ := nm_e2 hE
  refine lv_iinc (v := v_5) (lv' := [(6, .int v_5), (7, .int t0), (0, .ref x0), (1, .int x1), (2, .int x2), (3, .int x3), (4, .int x4), (5, .int x5)]) C.1 C.2.1 dX15_feed_107 hl (k := 7) rfl (by rw [ev_5]; rfl) (by decide) rfl (fun ls hl => ?_)
  refine lv_goto (tgt := 19) C.1 C.2.1 dX15_feed_110 (by decide) ?_
  exact hk_19 _ _ _ _ _ _ _ _ _ _ k_x0 hkm hW hZ _ (lv_sub hl [2, 3, 4, 5, 6, 7, 0] rfl) hE
set_option maxRecDepth 20000 in
theorem bX15_feed_19 {p : Program} {l : Launch} {e : Env} {s : State} {m : MethodId} {args : Array Value} {below : List Frame} {meth : Method} {c : Code} {X : Ec} {h0 : Hp} {o : Int32 × Hp} {F : Nat} (C : Cx X p s m args meth c RX15 cX15_feed 8 (some .int) "feed") : ∀ (f : Nat) {h : Hp} {x0 : Nat} {x1 : Int32} {x2 : Int32} {x3 : Int32} {x4 : Int32} {x5 : Int32} {x6 : Int32} {H : Heap} {locs : List Loc} (k_x0 : hK h x0 = 15), Km h0 h → Wx X h H → va_S (aA (eB X)) s.heap H locs → ∀ (ls : Array Slot), lv_has ls 8 [(0, .ref x0), (1, .int x1), (2, .int x2), (3, .int x3), (4, .int x4), (5, .int x5), (6, .int x6)] → sX15_feed_19 F f h x0 x1 x2 x3 x4 x5 x6 = some o → W p l e (rm 0 0) s m args below meth c H locs 0 0 (MQ below (QI X h0 o.1 o.2) args s 0 0 (aA (eB X))) (F0 m 19 ls []) := by
  intro f
  induction f with
  | zero =>
    intro h x0 x1 x2 x3 x4 x5 x6 H locs k_x0 hkm hW hZ ls hl hE
    rw [sX15_feed_19] at hE
    cases hE
  | succ f ih =>
    intro h x0 x1 x2 x3 x4 x5 x6 H locs k_x0 hkm hW hZ ls hl hE
    rw [sX15_feed_19] at hE
    have hk_19 : ∀ (h : Hp) (x0 : Nat) (x1 : Int32) (x2 : Int32) (x3 : Int32) (x4 : Int32) (x5 : Int32) (x6 : Int32) (H : Heap) (locs : List Loc), hK h x0 = 15 → Km h0 h → Wx X h H → va_S (aA (eB X)) s.heap H locs → ∀ (ls : Array Slot), lv_has ls 8 [(0, .ref x0), (1, .int x1), (2, .int x2), (3, .int x3), (4, .int x4), (5, .int x5), (6, .int x6)] → sX15_feed_19 F f h x0 x1 x2 x3 x4 x5 x6 = some o → W p l e (rm 0 0) s m args below meth c H locs 0 0 (MQ below (QI X h0 o.1 o.2) args s 0 0 (aA (eB X))) (F0 m 19 ls []) := fun h x0 x1 x2 x3 x4 x5 x6 H locs k_x0 a b c ls hl hE => ih k_x0 a b c ls hl hE
    refine lv_iload C.1 C.2.1 dX15_feed_19 (lv_at hl 6 rfl) ?_
    refine lv_bipush (v := (20 : Int32)) C.1 C.2.1 dX15_feed_21 (by decide) ?_
    refine lv_icmp_ge (tgt := 113) C.1 C.2.1 dX15_feed_23 (by decide) (fun c_1 => ?_) (fun c_1 => ?_)
    · have hE := br_p hE c_1
      refine lv_aload_n C.1 C.2.1 dX15_feed_113 rfl (lv_at hl 0 rfl) ?_
      refine gf_X15_1 C hW k_x0 dX15_feed_114 ?_
      exact x_iret C rfl rfl hW hZ hkm hE dX15_feed_117
    · have hE := br_n hE c_1
      refine lv_iload C.1 C.2.1 dX15_feed_26 (lv_at hl 6 rfl) ?_
      refine lv_iconst (v := (4 : Int32)) C.1 C.2.1 dX15_feed_28 (by decide) ?_
      refine lv_icmp_ge (tgt := 36) C.1 C.2.1 dX15_feed_29 (by decide) (fun c_2 => ?_) (fun c_2 => ?_)
      · have hE := br_p hE c_2
        refine lv_iload C.1 C.2.1 dX15_feed_36 (lv_at hl 6 rfl) ?_
        refine lv_bipush (v := (8 : Int32)) C.1 C.2.1 dX15_feed_38 (by decide) ?_
        refine lv_icmp_ge (tgt := 47) C.1 C.2.1 dX15_feed_40 (by decide) (fun c_3 => ?_) (fun c_3 => ?_)
        · have hE := br_p hE c_3
          refine lv_iload C.1 C.2.1 dX15_feed_47 (lv_at hl 6 rfl) ?_
          refine lv_bipush (v := (12 : Int32)) C.1 C.2.1 dX15_feed_49 (by decide) ?_
          refine lv_icmp_ge (tgt := 58) C.1 C.2.1 dX15_feed_51 (by decide) (fun c_4 => ?_) (fun c_4 => ?_)
          · have hE := br_p hE c_4
            refine lv_iload C.1 C.2.1 dX15_feed_58 (lv_at hl 6 rfl) ?_
            refine lv_bipush (v := (16 : Int32)) C.1 C.2.1 dX15_feed_60 (by decide) ?_
            refine lv_icmp_ge (tgt := 70) C.1 C.2.1 dX15_feed_62 (by decide) (fun c_5 => ?_) (fun c_5 => ?_)
            · have hE := br_p hE c_5
              refine lv_iload C.1 C.2.1 dX15_feed_70 (lv_at hl 5 rfl) ?_
              exact bX15_feed_72 C hk_19 k_x0 hkm hW hZ _ (lv_sub hl [0, 1, 2, 3, 4, 5, 6] rfl) hE
            · have hE := br_n hE c_5
              refine lv_iload C.1 C.2.1 dX15_feed_65 (lv_at hl 4 rfl) ?_
              refine lv_goto (tgt := 72) C.1 C.2.1 dX15_feed_67 (by decide) ?_
              exact bX15_feed_72 C hk_19 k_x0 hkm hW hZ _ (lv_sub hl [0, 1, 2, 3, 4, 5, 6] rfl) hE
          · have hE := br_n hE c_4
            refine lv_iload_n C.1 C.2.1 dX15_feed_54 rfl (lv_at hl 3 rfl) ?_
            refine lv_goto (tgt := 72) C.1 C.2.1 dX15_feed_55 (by decide) ?_
            exact bX15_feed_72 C hk_19 k_x0 hkm hW hZ _ (lv_sub hl [0, 1, 2, 3, 4, 5, 6] rfl) hE
        · have hE := br_n hE c_3
          refine lv_iload_n C.1 C.2.1 dX15_feed_43 rfl (lv_at hl 2 rfl) ?_
          refine lv_goto (tgt := 72) C.1 C.2.1 dX15_feed_44 (by decide) ?_
          exact bX15_feed_72 C hk_19 k_x0 hkm hW hZ _ (lv_sub hl [0, 1, 2, 3, 4, 5, 6] rfl) hE
      · have hE := br_n hE c_2
        refine lv_iload_n C.1 C.2.1 dX15_feed_32 rfl (lv_at hl 1 rfl) ?_
        refine lv_goto (tgt := 72) C.1 C.2.1 dX15_feed_33 (by decide) ?_
        exact bX15_feed_72 C hk_19 k_x0 hkm hW hZ _ (lv_sub hl [0, 1, 2, 3, 4, 5, 6] rfl) hE
set_option maxRecDepth 20000 in
theorem ct_X15_feed (l : Launch) (X : Ec) (F : Nat) {h : Hp} {x0 : Nat} {x1 : Int32} {x2 : Int32} {x3 : Int32} {x4 : Int32} {x5 : Int32} {o : Int32 × Hp} (k_x0 : hK h x0 = 15) (hE : sX15_feed F h x0 x1 x2 x3 x4 x5 = some o) : MetI l yX15_feed cX15_feed 8 (some .int) 0 0 X [.ref x0, .int x1, .int x2, .int x3, .int x4, .int x5] h o := by
  refine x_met (by decide) (Nat.le_of_ble_eq_true rfl) ?_
  intro p e s m below meth c ls C hl hW hZ
  have hl : lv_has ls 8 [(0, .ref x0), (1, .int x1), (2, .int x2), (3, .int x3), (4, .int x4), (5, .int x5)] := hl
  have hkm : Km h h := Km.rf h
  refine lv_aload_n C.1 C.2.1 dX15_feed_0 rfl (lv_at hl 0 rfl) ?_
  refine gf_X15_1 C hW k_x0 dX15_feed_1 ?_
  refine lv_bipush (v := (20 : Int32)) C.1 C.2.1 dX15_feed_4 (by decide) ?_
  refine lv_iadd C.1 C.2.1 dX15_feed_6 ?_
  refine lv_sipush (v := (1200 : Int32)) C.1 C.2.1 dX15_feed_7 (by decide) ?_
  refine lv_icmp_le (tgt := 16) C.1 C.2.1 dX15_feed_10 (by decide) (fun c_1 => ?_) (fun c_1 => ?_)
  · have hE := br_p hE c_1
    refine lv_iconst (v := (0 : Int32)) C.1 C.2.1 dX15_feed_16 (by decide) ?_
    refine lv_istore (lv' := [(6, .int (0 : Int32)), (0, .ref x0), (1, .int x1), (2, .int x2), (3, .int x3), (4, .int x4), (5, .int x5)]) C.1 C.2.1 dX15_feed_17 hl (by decide) rfl (fun ls hl => ?_)
    exact bX15_feed_19 C F k_x0 hkm hW hZ _ (lv_sub hl [1, 2, 3, 4, 5, 6, 0] rfl) hE
  · have hE := br_n hE c_1
    refine lv_bipush (v := (-104 : Int32)) C.1 C.2.1 dX15_feed_13 (by decide) ?_
    exact x_iret C rfl rfl hW hZ hkm hE dX15_feed_15
theorem dX15_end_0 : decode cX15_end 0 = .ok (.iload_n 1, 1) := by decide +kernel
theorem dX15_end_1 : decode cX15_end 1 = .ok (.ifCond .lt 11, 3) := by decide +kernel
theorem dX15_end_4 : decode cX15_end 4 = .ok (.iload_n 1, 1) := by decide +kernel
theorem dX15_end_5 : decode cX15_end 5 = .ok (.aload_n 0, 1) := by decide +kernel
theorem dX15_end_6 : decode cX15_end 6 = .ok (.getfield 1, 3) := by decide +kernel
theorem dX15_end_9 : decode cX15_end 9 = .ok (.if_icmp .le 6, 3) := by decide +kernel
theorem dX15_end_12 : decode cX15_end 12 = .ok (.bipush (-101), 2) := by decide +kernel
theorem dX15_end_14 : decode cX15_end 14 = .ok (.ireturn, 1) := by decide +kernel
theorem dX15_end_15 : decode cX15_end 15 = .ok (.aload_n 0, 1) := by decide +kernel
theorem dX15_end_16 : decode cX15_end 16 = .ok (.iload_n 1, 1) := by decide +kernel
theorem dX15_end_17 : decode cX15_end 17 = .ok (.putfield 1, 3) := by decide +kernel
theorem dX15_end_20 : decode cX15_end 20 = .ok (.iload_n 1, 1) := by decide +kernel
theorem dX15_end_21 : decode cX15_end 21 = .ok (.ireturn, 1) := by decide +kernel
def sX15_end_12 (h : Hp) : Option (Int32 × Hp) := some ((-101 : Int32), h)
def sX15_end (h : Hp) (x0 : Nat) (x1 : Int32) : Option (Int32 × Hp) := br (x1 < 0) (sX15_end_12  h ) (br (x1 ≤ (hI h x0 1)) (nm (wI h x0 1 x1) fun h_3 => some (x1, h_3)) (sX15_end_12  h ))
set_option maxRecDepth 20000 in
theorem bX15_end_12 {p : Program} {l : Launch} {e : Env} {s : State} {m : MethodId} {args : Array Value} {below : List Frame} {meth : Method} {c : Code} {X : Ec} {h0 : Hp} {o : Int32 × Hp} (C : Cx X p s m args meth c RX15 cX15_end 2 (some .int) "end") {h : Hp} {H : Heap} {locs : List Loc} (hkm : Km h0 h) (hW : Wx X h H) (hZ : va_S (aA (eB X)) s.heap H locs) (ls : Array Slot) (hl : lv_has ls 2 []) (hE : sX15_end_12 h  = some o) : W p l e (rm 0 0) s m args below meth c H locs 0 0 (MQ below (QI X h0 o.1 o.2) args s 0 0 (aA (eB X))) (F0 m 12 ls []) := by
  refine lv_bipush (v := (-101 : Int32)) C.1 C.2.1 dX15_end_12 (by decide) ?_
  exact x_iret C rfl rfl hW hZ hkm hE dX15_end_14
set_option maxRecDepth 20000 in
theorem ct_X15_end (l : Launch) (X : Ec) {h : Hp} {x0 : Nat} {x1 : Int32} {o : Int32 × Hp} (k_x0 : hK h x0 = 15) (hE : sX15_end h x0 x1 = some o) : MetI l yX15_end cX15_end 2 (some .int) 0 0 X [.ref x0, .int x1] h o := by
  refine x_met (by decide) (Nat.le_of_ble_eq_true rfl) ?_
  intro p e s m below meth c ls C hl hW hZ
  have hl : lv_has ls 2 [(0, .ref x0), (1, .int x1)] := hl
  have hkm : Km h h := Km.rf h
  refine lv_iload_n C.1 C.2.1 dX15_end_0 rfl (lv_at hl 1 rfl) ?_
  refine lv_if_lt (tgt := 12) C.1 C.2.1 dX15_end_1 (by decide) (fun c_1 => ?_) (fun c_1 => ?_)
  · have hE := br_p hE c_1
    exact bX15_end_12 C hkm hW hZ _ (lv_sub hl [] rfl) hE
  · have hE := br_n hE c_1
    refine lv_iload_n C.1 C.2.1 dX15_end_4 rfl (lv_at hl 1 rfl) ?_
    refine lv_aload_n C.1 C.2.1 dX15_end_5 rfl (lv_at hl 0 rfl) ?_
    refine gf_X15_1 C hW k_x0 dX15_end_6 ?_
    refine lv_icmp_le (tgt := 15) C.1 C.2.1 dX15_end_9 (by decide) (fun c_2 => ?_) (fun c_2 => ?_)
    · have hE := br_p hE c_2
      refine lv_aload_n C.1 C.2.1 dX15_end_15 rfl (lv_at hl 0 rfl) ?_
      refine lv_iload_n C.1 C.2.1 dX15_end_16 rfl (lv_at hl 1 rfl) ?_
      obtain ⟨h_3, eh_3, hE⟩ := nm_e2 hE
      refine pf_X15_1 C hW hZ k_x0 eh_3 dX15_end_17 (fun _ _ hW km hZ => ?_)
      replace hkm := hkm.tr km
      replace k_x0 := km.at k_x0 (by decide)
      refine lv_iload_n C.1 C.2.1 dX15_end_20 rfl (lv_at hl 1 rfl) ?_
      exact x_iret C rfl rfl hW hZ hkm hE dX15_end_21
    · have hE := br_n hE c_2
      exact bX15_end_12 C hkm hW hZ _ (lv_sub hl [] rfl) hE
theorem m_2134 : Cond.fieldLink RX15 14 (TX15 2).1 (TX15 2).2.1 (TX15 2).2.2.1 ∈ W0 := w0_in (List.mem_append_right _ (List.mem_of_getElem? (i := 2134) (by decide +kernel))) rfl
theorem m_2135 : Cond.fieldLink RX15 11 (TX15 3).1 (TX15 3).2.1 (TX15 3).2.2.1 ∈ W0 := w0_in (List.mem_append_right _ (List.mem_of_getElem? (i := 2135) (by decide +kernel))) rfl
section
variable {p : Program} {l : Launch} {e : Env} {R : Room} {s : State} {m : MethodId} {args : Array Value} {below : List Frame} {meth : Method} {c : Code} {H : Heap} {locs : List Loc} {cells slots : Nat} {Q : State → Prop}
variable {cc : ByteArray} {pc : Nat} {ls : Array Slot} {rest : List Value} {X : Ec} {h h1 : Hp} {nL : Nat} {rt : Option FieldType} {mn : String}
theorem gf_X15_11 {a : Nat} (C : Cx X p s m args meth c RX15 cc nL rt mn) (hW : Wx X h H) (ha : hK h a = 15) (hdg : decode cc pc = .ok (.getfield 11, 3)) (kk : W p l e R s m args below meth c H locs cells slots Q (F0 m (pc + 3) ls (.int (hI h a 3) :: rest))) : W p l e R s m args below meth c H locs cells slots Q (F0 m pc ls (.ref a :: rest)) :=
  y_geti C hW ha i_X15 (by decide) rfl (by decide) m_2135 rfl hdg kk
theorem gf_X15_14 {a r : Nat} (C : Cx X p s m args meth c RX15 cc nL rt mn) (hW : Wx X h H) (ha : hK h a = 15) (hr : hR h a 2 = some r) (hdg : decode cc pc = .ok (.getfield 14, 3)) (kk : hK h r = 16 → W p l e R s m args below meth c H locs cells slots Q (F0 m (pc + 3) ls (.ref r :: rest))) : W p l e R s m args below meth c H locs cells slots Q (F0 m pc ls (.ref a :: rest)) :=
  y_getr C hW ha i_X15 (by decide) rfl (by decide) m_2134 rfl rfl hr hdg kk
end
theorem dX15_out_0 : decode cX15_out 0 = .ok (.iload_n 1, 1) := by decide +kernel
theorem dX15_out_1 : decode cX15_out 1 = .ok (.ifCond .lt 11, 3) := by decide +kernel
theorem dX15_out_4 : decode cX15_out 4 = .ok (.iload_n 1, 1) := by decide +kernel
theorem dX15_out_5 : decode cX15_out 5 = .ok (.aload_n 0, 1) := by decide +kernel
theorem dX15_out_6 : decode cX15_out 6 = .ok (.getfield 11, 3) := by decide +kernel
theorem dX15_out_9 : decode cX15_out 9 = .ok (.if_icmp .lt 7, 3) := by decide +kernel
theorem dX15_out_12 : decode cX15_out 12 = .ok (.iconst (-1), 1) := by decide +kernel
theorem dX15_out_13 : decode cX15_out 13 = .ok (.goto 9, 3) := by decide +kernel
theorem dX15_out_16 : decode cX15_out 16 = .ok (.aload_n 0, 1) := by decide +kernel
theorem dX15_out_17 : decode cX15_out 17 = .ok (.getfield 14, 3) := by decide +kernel
theorem dX15_out_20 : decode cX15_out 20 = .ok (.iload_n 1, 1) := by decide +kernel
theorem dX15_out_21 : decode cX15_out 21 = .ok (.baload, 1) := by decide +kernel
theorem dX15_out_22 : decode cX15_out 22 = .ok (.ireturn, 1) := by decide +kernel
def sX15_out_22 (h : Hp) (t0 : Int32) : Option (Int32 × Hp) := some (t0, h)
def sX15_out_12 (h : Hp) : Option (Int32 × Hp) := sX15_out_22  h (-1 : Int32)
def sX15_out (h : Hp) (x0 : Nat) (x1 : Int32) : Option (Int32 × Hp) := br (x1 < 0) (sX15_out_12  h ) (br (x1 < (hI h x0 3)) (cl (hR h x0 2) fun r_3 => gd (inB x1 (hN h r_3)) <| sX15_out_22  h (hI h r_3 x1.toNatClampNeg)) (sX15_out_12  h ))
set_option maxRecDepth 20000 in
theorem bX15_out_22 {p : Program} {l : Launch} {e : Env} {s : State} {m : MethodId} {args : Array Value} {below : List Frame} {meth : Method} {c : Code} {X : Ec} {h0 : Hp} {o : Int32 × Hp} (C : Cx X p s m args meth c RX15 cX15_out 2 (some .int) "out") {h : Hp} {t0 : Int32} {H : Heap} {locs : List Loc} (hkm : Km h0 h) (hW : Wx X h H) (hZ : va_S (aA (eB X)) s.heap H locs) (ls : Array Slot) (hl : lv_has ls 2 []) (hE : sX15_out_22 h  t0 = some o) : W p l e (rm 0 0) s m args below meth c H locs 0 0 (MQ below (QI X h0 o.1 o.2) args s 0 0 (aA (eB X))) (F0 m 22 ls [.int t0]) := by
  exact x_iret C rfl rfl hW hZ hkm hE dX15_out_22
set_option maxRecDepth 20000 in
theorem bX15_out_12 {p : Program} {l : Launch} {e : Env} {s : State} {m : MethodId} {args : Array Value} {below : List Frame} {meth : Method} {c : Code} {X : Ec} {h0 : Hp} {o : Int32 × Hp} (C : Cx X p s m args meth c RX15 cX15_out 2 (some .int) "out") {h : Hp} {H : Heap} {locs : List Loc} (hkm : Km h0 h) (hW : Wx X h H) (hZ : va_S (aA (eB X)) s.heap H locs) (ls : Array Slot) (hl : lv_has ls 2 []) (hE : sX15_out_12 h  = some o) : W p l e (rm 0 0) s m args below meth c H locs 0 0 (MQ below (QI X h0 o.1 o.2) args s 0 0 (aA (eB X))) (F0 m 12 ls []) := by
  refine lv_iconst (v := (-1 : Int32)) C.1 C.2.1 dX15_out_12 (by decide) ?_
  refine lv_goto (tgt := 22) C.1 C.2.1 dX15_out_13 (by decide) ?_
  exact bX15_out_22 C hkm hW hZ _ (lv_sub hl [] rfl) hE
set_option maxRecDepth 20000 in
theorem ct_X15_out (l : Launch) (X : Ec) {h : Hp} {x0 : Nat} {x1 : Int32} {o : Int32 × Hp} (k_x0 : hK h x0 = 15) (hE : sX15_out h x0 x1 = some o) : MetI l yX15_out cX15_out 2 (some .int) 0 0 X [.ref x0, .int x1] h o := by
  refine x_met (by decide) (Nat.le_of_ble_eq_true rfl) ?_
  intro p e s m below meth c ls C hl hW hZ
  have hl : lv_has ls 2 [(0, .ref x0), (1, .int x1)] := hl
  have hkm : Km h h := Km.rf h
  refine lv_iload_n C.1 C.2.1 dX15_out_0 rfl (lv_at hl 1 rfl) ?_
  refine lv_if_lt (tgt := 12) C.1 C.2.1 dX15_out_1 (by decide) (fun c_1 => ?_) (fun c_1 => ?_)
  · have hE := br_p hE c_1
    exact bX15_out_12 C hkm hW hZ _ (lv_sub hl [] rfl) hE
  · have hE := br_n hE c_1
    refine lv_iload_n C.1 C.2.1 dX15_out_4 rfl (lv_at hl 1 rfl) ?_
    refine lv_aload_n C.1 C.2.1 dX15_out_5 rfl (lv_at hl 0 rfl) ?_
    refine gf_X15_11 C hW k_x0 dX15_out_6 ?_
    refine lv_icmp_lt (tgt := 16) C.1 C.2.1 dX15_out_9 (by decide) (fun c_2 => ?_) (fun c_2 => ?_)
    · have hE := br_p hE c_2
      refine lv_aload_n C.1 C.2.1 dX15_out_16 rfl (lv_at hl 0 rfl) ?_
      obtain ⟨r_3, er_3, hE⟩ := cl_e hE
      refine gf_X15_14 C hW k_x0 er_3 dX15_out_17 (fun k_r_3 => ?_)
      refine lv_iload_n C.1 C.2.1 dX15_out_20 rfl (lv_at hl 1 rfl) ?_
      obtain ⟨g_4, hE⟩ := gd_e hE
      refine y_bald C hW k_r_3 g_4 dX15_out_21 ?_
      exact bX15_out_22 C hkm hW hZ _ (lv_sub hl [] rfl) hE
    · have hE := br_n hE c_2
      exact bX15_out_12 C hkm hW hZ _ (lv_sub hl [] rfl) hE
theorem dX15_byteAt_0 : decode cX15_byteAt 0 = .ok (.iload_n 3, 1) := by decide +kernel
theorem dX15_byteAt_1 : decode cX15_byteAt 1 = .ok (.iload_n 2, 1) := by decide +kernel
theorem dX15_byteAt_2 : decode cX15_byteAt 2 = .ok (.if_icmp .ge 9, 3) := by decide +kernel
theorem dX15_byteAt_5 : decode cX15_byteAt 5 = .ok (.aload_n 1, 1) := by decide +kernel
theorem dX15_byteAt_6 : decode cX15_byteAt 6 = .ok (.iload_n 3, 1) := by decide +kernel
theorem dX15_byteAt_7 : decode cX15_byteAt 7 = .ok (.baload, 1) := by decide +kernel
theorem dX15_byteAt_8 : decode cX15_byteAt 8 = .ok (.goto 4, 3) := by decide +kernel
theorem dX15_byteAt_11 : decode cX15_byteAt 11 = .ok (.iconst (-1), 1) := by decide +kernel
theorem dX15_byteAt_12 : decode cX15_byteAt 12 = .ok (.ireturn, 1) := by decide +kernel
def sX15_byteAt_12 (h : Hp) (t0 : Int32) : Option (Int32 × Hp) := some (t0, h)
def sX15_byteAt (h : Hp) (x0 : Nat) (x1 : Nat) (x2 : Int32) (x3 : Int32) : Option (Int32 × Hp) := br (x2 ≤ x3) (sX15_byteAt_12  h (-1 : Int32)) (gd (inB x3 (hN h x1)) <| sX15_byteAt_12  h (hI h x1 x3.toNatClampNeg))
theorem moX15_byteAt_12 {o : Int32 × Hp} {h : Hp} {t0 : Int32} (hE : sX15_byteAt_12 h  t0 = some o) : Le h o.2 := by
  cases hE
  exact Le.rf _
theorem moX15_byteAt {o : Int32 × Hp} {h : Hp} {x0 : Nat} {x1 : Nat} {x2 : Int32} {x3 : Int32} (hE : sX15_byteAt h x0 x1 x2 x3 = some o) : Le h o.2 := by
  rcases br_e hE with ⟨_, hE⟩ | ⟨_, hE⟩
  · exact moX15_byteAt_12 hE
  · obtain ⟨g_2, hE⟩ := gd_e hE
    exact moX15_byteAt_12 hE
set_option maxRecDepth 20000 in
theorem bX15_byteAt_12 {p : Program} {l : Launch} {e : Env} {s : State} {m : MethodId} {args : Array Value} {below : List Frame} {meth : Method} {c : Code} {X : Ec} {h0 : Hp} {o : Int32 × Hp} (C : Cx X p s m args meth c RX15 cX15_byteAt 4 (some .int) "byteAt") {h : Hp} {t0 : Int32} {H : Heap} {locs : List Loc} (hkm : Km h0 h) (hW : Wx X h H) (hZ : va_S (aA (eB X)) s.heap H locs) (ls : Array Slot) (hl : lv_has ls 4 []) (hE : sX15_byteAt_12 h  t0 = some o) : W p l e (rm 0 0) s m args below meth c H locs 0 0 (MQ below (QI X h0 o.1 o.2) args s 0 0 (aA (eB X))) (F0 m 12 ls [.int t0]) := by
  exact x_iret C rfl rfl hW hZ hkm hE dX15_byteAt_12
set_option maxRecDepth 20000 in
theorem ct_X15_byteAt (l : Launch) (X : Ec) {h : Hp} {x0 : Nat} {x1 : Nat} {x2 : Int32} {x3 : Int32} {o : Int32 × Hp} (k_x0 : hK h x0 = 15) (k_x1 : hK h x1 = 16) (hE : sX15_byteAt h x0 x1 x2 x3 = some o) : MetI l yX15_byteAt cX15_byteAt 4 (some .int) 0 0 X [.ref x0, .ref x1, .int x2, .int x3] h o := by
  refine x_met (by decide) (Nat.le_of_ble_eq_true rfl) ?_
  intro p e s m below meth c ls C hl hW hZ
  have hl : lv_has ls 4 [(0, .ref x0), (1, .ref x1), (2, .int x2), (3, .int x3)] := hl
  have hkm : Km h h := Km.rf h
  refine lv_iload_n C.1 C.2.1 dX15_byteAt_0 rfl (lv_at hl 3 rfl) ?_
  refine lv_iload_n C.1 C.2.1 dX15_byteAt_1 rfl (lv_at hl 2 rfl) ?_
  refine lv_icmp_ge (tgt := 11) C.1 C.2.1 dX15_byteAt_2 (by decide) (fun c_1 => ?_) (fun c_1 => ?_)
  · have hE := br_p hE c_1
    refine lv_iconst (v := (-1 : Int32)) C.1 C.2.1 dX15_byteAt_11 (by decide) ?_
    exact bX15_byteAt_12 C hkm hW hZ _ (lv_sub hl [] rfl) hE
  · have hE := br_n hE c_1
    refine lv_aload_n C.1 C.2.1 dX15_byteAt_5 rfl (lv_at hl 1 rfl) ?_
    refine lv_iload_n C.1 C.2.1 dX15_byteAt_6 rfl (lv_at hl 3 rfl) ?_
    obtain ⟨g_2, hE⟩ := gd_e hE
    refine y_bald C hW k_x1 g_2 dX15_byteAt_7 ?_
    refine lv_goto (tgt := 12) C.1 C.2.1 dX15_byteAt_8 (by decide) ?_
    exact bX15_byteAt_12 C hkm hW hZ _ (lv_sub hl [] rfl) hE
theorem dX15_isSmall_0 : decode cX15_isSmall 0 = .ok (.iload_n 0, 1) := by decide +kernel
theorem dX15_isSmall_1 : decode cX15_isSmall 1 = .ok (.bipush 97, 2) := by decide +kernel
theorem dX15_isSmall_3 : decode cX15_isSmall 3 = .ok (.if_icmp .lt 13, 3) := by decide +kernel
theorem dX15_isSmall_6 : decode cX15_isSmall 6 = .ok (.iload_n 0, 1) := by decide +kernel
theorem dX15_isSmall_7 : decode cX15_isSmall 7 = .ok (.bipush 122, 2) := by decide +kernel
theorem dX15_isSmall_9 : decode cX15_isSmall 9 = .ok (.if_icmp .gt 7, 3) := by decide +kernel
theorem dX15_isSmall_12 : decode cX15_isSmall 12 = .ok (.iconst 1, 1) := by decide +kernel
theorem dX15_isSmall_13 : decode cX15_isSmall 13 = .ok (.goto 4, 3) := by decide +kernel
theorem dX15_isSmall_16 : decode cX15_isSmall 16 = .ok (.iconst 0, 1) := by decide +kernel
theorem dX15_isSmall_17 : decode cX15_isSmall 17 = .ok (.ireturn, 1) := by decide +kernel
def sX15_isSmall_17 (h : Hp) (t0 : Int32) : Option (Int32 × Hp) := gd (t0 &&& 1 = t0) <| some (t0, h)
def sX15_isSmall_16 (h : Hp) : Option (Int32 × Hp) := sX15_isSmall_17  h (0 : Int32)
def sX15_isSmall (h : Hp) (x0 : Int32) : Option (Int32 × Hp) := br (x0 < (97 : Int32)) (sX15_isSmall_16  h ) (br ((122 : Int32) < x0) (sX15_isSmall_16  h ) (sX15_isSmall_17  h (1 : Int32)))
theorem moX15_isSmall_17 {o : Int32 × Hp} {h : Hp} {t0 : Int32} (hE : sX15_isSmall_17 h  t0 = some o) : Le h o.2 := by
  obtain ⟨g_1, hE⟩ := gd_e hE
  cases hE
  exact Le.rf _
theorem moX15_isSmall_16 {o : Int32 × Hp} {h : Hp} (hE : sX15_isSmall_16 h  = some o) : Le h o.2 := by
  exact moX15_isSmall_17 hE
theorem moX15_isSmall {o : Int32 × Hp} {h : Hp} {x0 : Int32} (hE : sX15_isSmall h x0 = some o) : Le h o.2 := by
  rcases br_e hE with ⟨_, hE⟩ | ⟨_, hE⟩
  · exact moX15_isSmall_16 hE
  · rcases br_e hE with ⟨_, hE⟩ | ⟨_, hE⟩
    · exact moX15_isSmall_16 hE
    · exact moX15_isSmall_17 hE
set_option maxRecDepth 20000 in
theorem bX15_isSmall_17 {p : Program} {l : Launch} {e : Env} {s : State} {m : MethodId} {args : Array Value} {below : List Frame} {meth : Method} {c : Code} {X : Ec} {h0 : Hp} {o : Int32 × Hp} (C : Cx X p s m args meth c RX15 cX15_isSmall 1 (some .boolean) "isSmall") {h : Hp} {t0 : Int32} {H : Heap} {locs : List Loc} (hkm : Km h0 h) (hW : Wx X h H) (hZ : va_S (aA (eB X)) s.heap H locs) (ls : Array Slot) (hl : lv_has ls 1 []) (hE : sX15_isSmall_17 h  t0 = some o) : W p l e (rm 0 0) s m args below meth c H locs 0 0 (MQ below (QI X h0 o.1 o.2) args s 0 0 (aA (eB X))) (F0 m 17 ls [.int t0]) := by
  obtain ⟨g_1, hE⟩ := gd_e hE
  exact x_iret C rfl (narB g_1) hW hZ hkm hE dX15_isSmall_17
set_option maxRecDepth 20000 in
theorem bX15_isSmall_16 {p : Program} {l : Launch} {e : Env} {s : State} {m : MethodId} {args : Array Value} {below : List Frame} {meth : Method} {c : Code} {X : Ec} {h0 : Hp} {o : Int32 × Hp} (C : Cx X p s m args meth c RX15 cX15_isSmall 1 (some .boolean) "isSmall") {h : Hp} {H : Heap} {locs : List Loc} (hkm : Km h0 h) (hW : Wx X h H) (hZ : va_S (aA (eB X)) s.heap H locs) (ls : Array Slot) (hl : lv_has ls 1 []) (hE : sX15_isSmall_16 h  = some o) : W p l e (rm 0 0) s m args below meth c H locs 0 0 (MQ below (QI X h0 o.1 o.2) args s 0 0 (aA (eB X))) (F0 m 16 ls []) := by
  refine lv_iconst (v := (0 : Int32)) C.1 C.2.1 dX15_isSmall_16 (by decide) ?_
  exact bX15_isSmall_17 C hkm hW hZ _ (lv_sub hl [] rfl) hE
set_option maxRecDepth 20000 in
theorem ct_X15_isSmall (l : Launch) (X : Ec) {h : Hp} {x0 : Int32} {o : Int32 × Hp} (hE : sX15_isSmall h x0 = some o) : MetI l yX15_isSmall cX15_isSmall 1 (some .boolean) 0 0 X [.int x0] h o := by
  refine x_met (by decide) (Nat.le_of_ble_eq_true rfl) ?_
  intro p e s m below meth c ls C hl hW hZ
  have hl : lv_has ls 1 [(0, .int x0)] := hl
  have hkm : Km h h := Km.rf h
  refine lv_iload_n C.1 C.2.1 dX15_isSmall_0 rfl (lv_at hl 0 rfl) ?_
  refine lv_bipush (v := (97 : Int32)) C.1 C.2.1 dX15_isSmall_1 (by decide) ?_
  refine lv_icmp_lt (tgt := 16) C.1 C.2.1 dX15_isSmall_3 (by decide) (fun c_1 => ?_) (fun c_1 => ?_)
  · have hE := br_p hE c_1
    exact bX15_isSmall_16 C hkm hW hZ _ (lv_sub hl [] rfl) hE
  · have hE := br_n hE c_1
    refine lv_iload_n C.1 C.2.1 dX15_isSmall_6 rfl (lv_at hl 0 rfl) ?_
    refine lv_bipush (v := (122 : Int32)) C.1 C.2.1 dX15_isSmall_7 (by decide) ?_
    refine lv_icmp_gt (tgt := 16) C.1 C.2.1 dX15_isSmall_9 (by decide) (fun c_2 => ?_) (fun c_2 => ?_)
    · have hE := br_p hE c_2
      exact bX15_isSmall_16 C hkm hW hZ _ (lv_sub hl [] rfl) hE
    · have hE := br_n hE c_2
      refine lv_iconst (v := (1 : Int32)) C.1 C.2.1 dX15_isSmall_12 (by decide) ?_
      refine lv_goto (tgt := 17) C.1 C.2.1 dX15_isSmall_13 (by decide) ?_
      exact bX15_isSmall_17 C hkm hW hZ _ (lv_sub hl [] rfl) hE
theorem dX15_isDigit_0 : decode cX15_isDigit 0 = .ok (.iload_n 0, 1) := by decide +kernel
theorem dX15_isDigit_1 : decode cX15_isDigit 1 = .ok (.bipush 48, 2) := by decide +kernel
theorem dX15_isDigit_3 : decode cX15_isDigit 3 = .ok (.if_icmp .lt 13, 3) := by decide +kernel
theorem dX15_isDigit_6 : decode cX15_isDigit 6 = .ok (.iload_n 0, 1) := by decide +kernel
theorem dX15_isDigit_7 : decode cX15_isDigit 7 = .ok (.bipush 57, 2) := by decide +kernel
theorem dX15_isDigit_9 : decode cX15_isDigit 9 = .ok (.if_icmp .gt 7, 3) := by decide +kernel
theorem dX15_isDigit_12 : decode cX15_isDigit 12 = .ok (.iconst 1, 1) := by decide +kernel
theorem dX15_isDigit_13 : decode cX15_isDigit 13 = .ok (.goto 4, 3) := by decide +kernel
theorem dX15_isDigit_16 : decode cX15_isDigit 16 = .ok (.iconst 0, 1) := by decide +kernel
theorem dX15_isDigit_17 : decode cX15_isDigit 17 = .ok (.ireturn, 1) := by decide +kernel
def sX15_isDigit_17 (h : Hp) (t0 : Int32) : Option (Int32 × Hp) := gd (t0 &&& 1 = t0) <| some (t0, h)
def sX15_isDigit_16 (h : Hp) : Option (Int32 × Hp) := sX15_isDigit_17  h (0 : Int32)
def sX15_isDigit (h : Hp) (x0 : Int32) : Option (Int32 × Hp) := br (x0 < (48 : Int32)) (sX15_isDigit_16  h ) (br ((57 : Int32) < x0) (sX15_isDigit_16  h ) (sX15_isDigit_17  h (1 : Int32)))
theorem moX15_isDigit_17 {o : Int32 × Hp} {h : Hp} {t0 : Int32} (hE : sX15_isDigit_17 h  t0 = some o) : Le h o.2 := by
  obtain ⟨g_1, hE⟩ := gd_e hE
  cases hE
  exact Le.rf _
theorem moX15_isDigit_16 {o : Int32 × Hp} {h : Hp} (hE : sX15_isDigit_16 h  = some o) : Le h o.2 := by
  exact moX15_isDigit_17 hE
theorem moX15_isDigit {o : Int32 × Hp} {h : Hp} {x0 : Int32} (hE : sX15_isDigit h x0 = some o) : Le h o.2 := by
  rcases br_e hE with ⟨_, hE⟩ | ⟨_, hE⟩
  · exact moX15_isDigit_16 hE
  · rcases br_e hE with ⟨_, hE⟩ | ⟨_, hE⟩
    · exact moX15_isDigit_16 hE
    · exact moX15_isDigit_17 hE
set_option maxRecDepth 20000 in
theorem bX15_isDigit_17 {p : Program} {l : Launch} {e : Env} {s : State} {m : MethodId} {args : Array Value} {below : List Frame} {meth : Method} {c : Code} {X : Ec} {h0 : Hp} {o : Int32 × Hp} (C : Cx X p s m args meth c RX15 cX15_isDigit 1 (some .boolean) "isDigit") {h : Hp} {t0 : Int32} {H : Heap} {locs : List Loc} (hkm : Km h0 h) (hW : Wx X h H) (hZ : va_S (aA (eB X)) s.heap H locs) (ls : Array Slot) (hl : lv_has ls 1 []) (hE : sX15_isDigit_17 h  t0 = some o) : W p l e (rm 0 0) s m args below meth c H locs 0 0 (MQ below (QI X h0 o.1 o.2) args s 0 0 (aA (eB X))) (F0 m 17 ls [.int t0]) := by
  obtain ⟨g_1, hE⟩ := gd_e hE
  exact x_iret C rfl (narB g_1) hW hZ hkm hE dX15_isDigit_17
set_option maxRecDepth 20000 in
theorem bX15_isDigit_16 {p : Program} {l : Launch} {e : Env} {s : State} {m : MethodId} {args : Array Value} {below : List Frame} {meth : Method} {c : Code} {X : Ec} {h0 : Hp} {o : Int32 × Hp} (C : Cx X p s m args meth c RX15 cX15_isDigit 1 (some .boolean) "isDigit") {h : Hp} {H : Heap} {locs : List Loc} (hkm : Km h0 h) (hW : Wx X h H) (hZ : va_S (aA (eB X)) s.heap H locs) (ls : Array Slot) (hl : lv_has ls 1 []) (hE : sX15_isDigit_16 h  = some o) : W p l e (rm 0 0) s m args below meth c H locs 0 0 (MQ below (QI X h0 o.1 o.2) args s 0 0 (aA (eB X))) (F0 m 16 ls []) := by
  refine lv_iconst (v := (0 : Int32)) C.1 C.2.1 dX15_isDigit_16 (by decide) ?_
  exact bX15_isDigit_17 C hkm hW hZ _ (lv_sub hl [] rfl) hE
set_option maxRecDepth 20000 in
theorem ct_X15_isDigit (l : Launch) (X : Ec) {h : Hp} {x0 : Int32} {o : Int32 × Hp} (hE : sX15_isDigit h x0 = some o) : MetI l yX15_isDigit cX15_isDigit 1 (some .boolean) 0 0 X [.int x0] h o := by
  refine x_met (by decide) (Nat.le_of_ble_eq_true rfl) ?_
  intro p e s m below meth c ls C hl hW hZ
  have hl : lv_has ls 1 [(0, .int x0)] := hl
  have hkm : Km h h := Km.rf h
  refine lv_iload_n C.1 C.2.1 dX15_isDigit_0 rfl (lv_at hl 0 rfl) ?_
  refine lv_bipush (v := (48 : Int32)) C.1 C.2.1 dX15_isDigit_1 (by decide) ?_
  refine lv_icmp_lt (tgt := 16) C.1 C.2.1 dX15_isDigit_3 (by decide) (fun c_1 => ?_) (fun c_1 => ?_)
  · have hE := br_p hE c_1
    exact bX15_isDigit_16 C hkm hW hZ _ (lv_sub hl [] rfl) hE
  · have hE := br_n hE c_1
    refine lv_iload_n C.1 C.2.1 dX15_isDigit_6 rfl (lv_at hl 0 rfl) ?_
    refine lv_bipush (v := (57 : Int32)) C.1 C.2.1 dX15_isDigit_7 (by decide) ?_
    refine lv_icmp_gt (tgt := 16) C.1 C.2.1 dX15_isDigit_9 (by decide) (fun c_2 => ?_) (fun c_2 => ?_)
    · have hE := br_p hE c_2
      exact bX15_isDigit_16 C hkm hW hZ _ (lv_sub hl [] rfl) hE
    · have hE := br_n hE c_2
      refine lv_iconst (v := (1 : Int32)) C.1 C.2.1 dX15_isDigit_12 (by decide) ?_
      refine lv_goto (tgt := 17) C.1 C.2.1 dX15_isDigit_13 (by decide) ?_
      exact bX15_isDigit_17 C hkm hW hZ _ (lv_sub hl [] rfl) hE
theorem ms_115 : Cond.selects RX15 yX15_byteAt yX15_byteAt ∈ W0 := w0_in (List.mem_append_left _ (List.mem_of_getElem? (i := 115) (by decide +kernel))) rfl
theorem m_20 : Cond.initialized RX15 ∈ W0 := w0_in (List.mem_append_right _ (List.mem_of_getElem? (i := 20) (by decide +kernel))) rfl
theorem m_2019 : Cond.methodLink RX15 30 yX15_byteAt ∈ W0 := w0_in (List.mem_append_right _ (List.mem_of_getElem? (i := 2019) (by decide +kernel))) rfl
theorem m_2021 : Cond.instanceMethod yX15_byteAt ∈ W0 := w0_in (List.mem_append_right _ (List.mem_of_getElem? (i := 2021) (by decide +kernel))) rfl
theorem m_2022 : Cond.code yX15_byteAt cX15_byteAt 4 (some .int) ∈ W0 := w0_in (List.mem_append_right _ (List.mem_of_getElem? (i := 2022) (by decide +kernel))) rfl
theorem m_2023 : Cond.methodLink RX15 37 yX15_isSmall ∈ W0 := w0_in (List.mem_append_right _ (List.mem_of_getElem? (i := 2023) (by decide +kernel))) rfl
theorem m_2024 : Cond.static yX15_isSmall ∈ W0 := w0_in (List.mem_append_right _ (List.mem_of_getElem? (i := 2024) (by decide +kernel))) rfl
theorem m_2025 : Cond.code yX15_isSmall cX15_isSmall 1 (some .boolean) ∈ W0 := w0_in (List.mem_append_right _ (List.mem_of_getElem? (i := 2025) (by decide +kernel))) rfl
theorem m_2026 : Cond.methodLink RX15 41 yX15_isDigit ∈ W0 := w0_in (List.mem_append_right _ (List.mem_of_getElem? (i := 2026) (by decide +kernel))) rfl
theorem m_2027 : Cond.static yX15_isDigit ∈ W0 := w0_in (List.mem_append_right _ (List.mem_of_getElem? (i := 2027) (by decide +kernel))) rfl
theorem m_2028 : Cond.code yX15_isDigit cX15_isDigit 1 (some .boolean) ∈ W0 := w0_in (List.mem_append_right _ (List.mem_of_getElem? (i := 2028) (by decide +kernel))) rfl
theorem m_2138 : Cond.fieldLink RX15 34 (TX15 6).1 (TX15 6).2.1 (TX15 6).2.2.1 ∈ W0 := w0_in (List.mem_append_right _ (List.mem_of_getElem? (i := 2138) (by decide +kernel))) rfl
theorem m_2139 : Cond.fieldLink RX15 27 (TX15 7).1 (TX15 7).2.1 (TX15 7).2.2.1 ∈ W0 := w0_in (List.mem_append_right _ (List.mem_of_getElem? (i := 2139) (by decide +kernel))) rfl
theorem m_2140 : Cond.fieldLink RX15 24 (TX15 8).1 (TX15 8).2.1 (TX15 8).2.2.1 ∈ W0 := w0_in (List.mem_append_right _ (List.mem_of_getElem? (i := 2140) (by decide +kernel))) rfl
theorem m_2141 : Cond.fieldLink RX15 44 (TX15 9).1 (TX15 9).2.1 (TX15 9).2.2.1 ∈ W0 := w0_in (List.mem_append_right _ (List.mem_of_getElem? (i := 2141) (by decide +kernel))) rfl
section
variable {p : Program} {l : Launch} {e : Env} {R : Room} {s : State} {m : MethodId} {args : Array Value} {below : List Frame} {meth : Method} {c : Code} {H : Heap} {locs : List Loc} {cells slots : Nat} {Q : State → Prop}
variable {cc : ByteArray} {pc : Nat} {ls : Array Slot} {rest : List Value} {X : Ec} {h h1 : Hp} {nL : Nat} {rt : Option FieldType} {mn : String}
theorem pf_X15_44 {a : Nat} {v : Int32} (C : Cx X p s m args meth c RX15 cc nL rt mn) (hW : Wx X h H) (hZ : va_S (aA (eB X)) s.heap H locs) (ha : hK h a = 15) (eh : h1 = wI h a 9 v) (hdg : decode cc pc = .ok (.putfield 44, 3)) (kk : ∀ (H1 : Heap) (locs1 : List Loc), Wx X h1 H1 → Km h h1 → va_S (aA (eB X)) s.heap H1 locs1 → W p l e R s m args below meth c H1 locs1 cells slots Q (F0 m (pc + 3) ls rest)) : W p l e R s m args below meth c H locs cells slots Q (F0 m pc ls (.int v :: .ref a :: rest)) :=
  y_puti (ty := .int) C hW hZ ha i_X15 tyX15 tyX15_ok nmX15 (by decide) rfl rfl (by decide) m_2141 rfl (by decide +kernel) rfl rfl rfl eh hdg kk
theorem pf_X15_24 {a : Nat} {v : Int32} (C : Cx X p s m args meth c RX15 cc nL rt mn) (hW : Wx X h H) (hZ : va_S (aA (eB X)) s.heap H locs) (ha : hK h a = 15) (eh : h1 = wI h a 8 v) (hdg : decode cc pc = .ok (.putfield 24, 3)) (kk : ∀ (H1 : Heap) (locs1 : List Loc), Wx X h1 H1 → Km h h1 → va_S (aA (eB X)) s.heap H1 locs1 → W p l e R s m args below meth c H1 locs1 cells slots Q (F0 m (pc + 3) ls rest)) : W p l e R s m args below meth c H locs cells slots Q (F0 m pc ls (.int v :: .ref a :: rest)) :=
  y_puti (ty := .int) C hW hZ ha i_X15 tyX15 tyX15_ok nmX15 (by decide) rfl rfl (by decide) m_2140 rfl (by decide +kernel) rfl rfl rfl eh hdg kk
theorem gf_X15_44 {a : Nat} (C : Cx X p s m args meth c RX15 cc nL rt mn) (hW : Wx X h H) (ha : hK h a = 15) (hdg : decode cc pc = .ok (.getfield 44, 3)) (kk : W p l e R s m args below meth c H locs cells slots Q (F0 m (pc + 3) ls (.int (hI h a 9) :: rest))) : W p l e R s m args below meth c H locs cells slots Q (F0 m pc ls (.ref a :: rest)) :=
  y_geti C hW ha i_X15 (by decide) rfl (by decide) m_2141 rfl hdg kk
theorem pf_X15_34 {a : Nat} {v : Int32} (C : Cx X p s m args meth c RX15 cc nL rt mn) (hW : Wx X h H) (hZ : va_S (aA (eB X)) s.heap H locs) (ha : hK h a = 15) (eh : h1 = wI h a 6 v) (hdg : decode cc pc = .ok (.putfield 34, 3)) (kk : ∀ (H1 : Heap) (locs1 : List Loc), Wx X h1 H1 → Km h h1 → va_S (aA (eB X)) s.heap H1 locs1 → W p l e R s m args below meth c H1 locs1 cells slots Q (F0 m (pc + 3) ls rest)) : W p l e R s m args below meth c H locs cells slots Q (F0 m pc ls (.int v :: .ref a :: rest)) :=
  y_puti (ty := .int) C hW hZ ha i_X15 tyX15 tyX15_ok nmX15 (by decide) rfl rfl (by decide) m_2138 rfl (by decide +kernel) rfl rfl rfl eh hdg kk
theorem pf_X15_27 {a : Nat} {v : Int32} (C : Cx X p s m args meth c RX15 cc nL rt mn) (hW : Wx X h H) (hZ : va_S (aA (eB X)) s.heap H locs) (ha : hK h a = 15) (eh : h1 = wI h a 7 v) (hdg : decode cc pc = .ok (.putfield 27, 3)) (kk : ∀ (H1 : Heap) (locs1 : List Loc), Wx X h1 H1 → Km h h1 → va_S (aA (eB X)) s.heap H1 locs1 → W p l e R s m args below meth c H1 locs1 cells slots Q (F0 m (pc + 3) ls rest)) : W p l e R s m args below meth c H locs cells slots Q (F0 m pc ls (.int v :: .ref a :: rest)) :=
  y_puti (ty := .int) C hW hZ ha i_X15 tyX15 tyX15_ok nmX15 (by decide) rfl rfl (by decide) m_2139 rfl (by decide +kernel) rfl rfl rfl eh hdg kk
theorem gf_X15_24 {a : Nat} (C : Cx X p s m args meth c RX15 cc nL rt mn) (hW : Wx X h H) (ha : hK h a = 15) (hdg : decode cc pc = .ok (.getfield 24, 3)) (kk : W p l e R s m args below meth c H locs cells slots Q (F0 m (pc + 3) ls (.int (hI h a 8) :: rest))) : W p l e R s m args below meth c H locs cells slots Q (F0 m pc ls (.ref a :: rest)) :=
  y_geti C hW ha i_X15 (by decide) rfl (by decide) m_2140 rfl hdg kk
end
theorem cw_X15_30 : cwd RX15 30 yX15_byteAt cX15_byteAt 4 (some .int) false 3 := ⟨m_2022, m_2019, m_20, ⟨m_2021, ms_115⟩, by decide, by decide, by decide +kernel⟩
theorem cw_X15_41 : cwd RX15 41 yX15_isDigit cX15_isDigit 1 (some .boolean) true 1 := ⟨m_2028, m_2026, m_20, m_2027, by decide, by decide, by decide +kernel⟩
theorem cw_X15_37 : cwd RX15 37 yX15_isSmall cX15_isSmall 1 (some .boolean) true 1 := ⟨m_2025, m_2023, m_20, m_2024, by decide, by decide, by decide +kernel⟩
theorem dX15_nextToken_0 : decode cX15_nextToken 0 = .ok (.aload_n 0, 1) := by decide +kernel
theorem dX15_nextToken_1 : decode cX15_nextToken 1 = .ok (.getfield 24, 3) := by decide +kernel
theorem dX15_nextToken_4 : decode cX15_nextToken 4 = .ok (.istore_n 3, 1) := by decide +kernel
theorem dX15_nextToken_5 : decode cX15_nextToken 5 = .ok (.iload_n 3, 1) := by decide +kernel
theorem dX15_nextToken_6 : decode cX15_nextToken 6 = .ok (.iload_n 2, 1) := by decide +kernel
theorem dX15_nextToken_7 : decode cX15_nextToken 7 = .ok (.if_icmp .ge 25, 3) := by decide +kernel
theorem dX15_nextToken_10 : decode cX15_nextToken 10 = .ok (.aload_n 1, 1) := by decide +kernel
theorem dX15_nextToken_11 : decode cX15_nextToken 11 = .ok (.iload_n 3, 1) := by decide +kernel
theorem dX15_nextToken_12 : decode cX15_nextToken 12 = .ok (.baload, 1) := by decide +kernel
theorem dX15_nextToken_13 : decode cX15_nextToken 13 = .ok (.bipush 32, 2) := by decide +kernel
theorem dX15_nextToken_15 : decode cX15_nextToken 15 = .ok (.if_icmp .eq 11, 3) := by decide +kernel
theorem dX15_nextToken_18 : decode cX15_nextToken 18 = .ok (.aload_n 1, 1) := by decide +kernel
theorem dX15_nextToken_19 : decode cX15_nextToken 19 = .ok (.iload_n 3, 1) := by decide +kernel
theorem dX15_nextToken_20 : decode cX15_nextToken 20 = .ok (.baload, 1) := by decide +kernel
theorem dX15_nextToken_21 : decode cX15_nextToken 21 = .ok (.bipush 10, 2) := by decide +kernel
theorem dX15_nextToken_23 : decode cX15_nextToken 23 = .ok (.if_icmp .ne 9, 3) := by decide +kernel
theorem dX15_nextToken_26 : decode cX15_nextToken 26 = .ok (.iinc 3 1, 3) := by decide +kernel
theorem dX15_nextToken_29 : decode cX15_nextToken 29 = .ok (.goto (-24), 3) := by decide +kernel
theorem dX15_nextToken_32 : decode cX15_nextToken 32 = .ok (.aload_n 0, 1) := by decide +kernel
theorem dX15_nextToken_33 : decode cX15_nextToken 33 = .ok (.iload_n 3, 1) := by decide +kernel
theorem dX15_nextToken_34 : decode cX15_nextToken 34 = .ok (.putfield 27, 3) := by decide +kernel
theorem dX15_nextToken_37 : decode cX15_nextToken 37 = .ok (.aload_n 0, 1) := by decide +kernel
theorem dX15_nextToken_38 : decode cX15_nextToken 38 = .ok (.aload_n 1, 1) := by decide +kernel
theorem dX15_nextToken_39 : decode cX15_nextToken 39 = .ok (.iload_n 2, 1) := by decide +kernel
theorem dX15_nextToken_40 : decode cX15_nextToken 40 = .ok (.iload_n 3, 1) := by decide +kernel
theorem dX15_nextToken_41 : decode cX15_nextToken 41 = .ok (.invokevirtual 30, 3) := by decide +kernel
theorem dX15_nextToken_44 : decode cX15_nextToken 44 = .ok (.istore 4, 2) := by decide +kernel
theorem dX15_nextToken_46 : decode cX15_nextToken 46 = .ok (.iload_n 3, 1) := by decide +kernel
theorem dX15_nextToken_47 : decode cX15_nextToken 47 = .ok (.iload_n 2, 1) := by decide +kernel
theorem dX15_nextToken_48 : decode cX15_nextToken 48 = .ok (.if_icmp .lt 21, 3) := by decide +kernel
theorem dX15_nextToken_51 : decode cX15_nextToken 51 = .ok (.aload_n 0, 1) := by decide +kernel
theorem dX15_nextToken_52 : decode cX15_nextToken 52 = .ok (.iload_n 2, 1) := by decide +kernel
theorem dX15_nextToken_53 : decode cX15_nextToken 53 = .ok (.putfield 27, 3) := by decide +kernel
theorem dX15_nextToken_56 : decode cX15_nextToken 56 = .ok (.aload_n 0, 1) := by decide +kernel
theorem dX15_nextToken_57 : decode cX15_nextToken 57 = .ok (.iload_n 2, 1) := by decide +kernel
theorem dX15_nextToken_58 : decode cX15_nextToken 58 = .ok (.putfield 24, 3) := by decide +kernel
theorem dX15_nextToken_61 : decode cX15_nextToken 61 = .ok (.aload_n 0, 1) := by decide +kernel
theorem dX15_nextToken_62 : decode cX15_nextToken 62 = .ok (.iconst 4, 1) := by decide +kernel
theorem dX15_nextToken_63 : decode cX15_nextToken 63 = .ok (.putfield 34, 3) := by decide +kernel
theorem dX15_nextToken_66 : decode cX15_nextToken 66 = .ok (.goto 242, 3) := by decide +kernel
theorem dX15_nextToken_69 : decode cX15_nextToken 69 = .ok (.iload 4, 2) := by decide +kernel
theorem dX15_nextToken_71 : decode cX15_nextToken 71 = .ok (.invokestatic 37, 3) := by decide +kernel
theorem dX15_nextToken_74 : decode cX15_nextToken 74 = .ok (.ifCond .eq 35, 3) := by decide +kernel
theorem dX15_nextToken_77 : decode cX15_nextToken 77 = .ok (.aload_n 0, 1) := by decide +kernel
theorem dX15_nextToken_78 : decode cX15_nextToken 78 = .ok (.aload_n 1, 1) := by decide +kernel
theorem dX15_nextToken_79 : decode cX15_nextToken 79 = .ok (.iload_n 2, 1) := by decide +kernel
theorem dX15_nextToken_80 : decode cX15_nextToken 80 = .ok (.iload_n 3, 1) := by decide +kernel
theorem dX15_nextToken_81 : decode cX15_nextToken 81 = .ok (.invokevirtual 30, 3) := by decide +kernel
theorem dX15_nextToken_84 : decode cX15_nextToken 84 = .ok (.invokestatic 37, 3) := by decide +kernel
theorem dX15_nextToken_87 : decode cX15_nextToken 87 = .ok (.ifCond .eq 9, 3) := by decide +kernel
theorem dX15_nextToken_90 : decode cX15_nextToken 90 = .ok (.iinc 3 1, 3) := by decide +kernel
theorem dX15_nextToken_93 : decode cX15_nextToken 93 = .ok (.goto (-16), 3) := by decide +kernel
theorem dX15_nextToken_96 : decode cX15_nextToken 96 = .ok (.aload_n 0, 1) := by decide +kernel
theorem dX15_nextToken_97 : decode cX15_nextToken 97 = .ok (.iconst 1, 1) := by decide +kernel
theorem dX15_nextToken_98 : decode cX15_nextToken 98 = .ok (.putfield 34, 3) := by decide +kernel
theorem dX15_nextToken_101 : decode cX15_nextToken 101 = .ok (.aload_n 0, 1) := by decide +kernel
theorem dX15_nextToken_102 : decode cX15_nextToken 102 = .ok (.iload_n 3, 1) := by decide +kernel
theorem dX15_nextToken_103 : decode cX15_nextToken 103 = .ok (.putfield 24, 3) := by decide +kernel
theorem dX15_nextToken_106 : decode cX15_nextToken 106 = .ok (.goto 202, 3) := by decide +kernel
theorem dX15_nextToken_109 : decode cX15_nextToken 109 = .ok (.iload 4, 2) := by decide +kernel
theorem dX15_nextToken_111 : decode cX15_nextToken 111 = .ok (.invokestatic 41, 3) := by decide +kernel
theorem dX15_nextToken_114 : decode cX15_nextToken 114 = .ok (.ifCond .ne 25, 3) := by decide +kernel
theorem dX15_nextToken_117 : decode cX15_nextToken 117 = .ok (.iload 4, 2) := by decide +kernel
theorem dX15_nextToken_119 : decode cX15_nextToken 119 = .ok (.bipush 45, 2) := by decide +kernel
theorem dX15_nextToken_121 : decode cX15_nextToken 121 = .ok (.if_icmp .ne 157, 3) := by decide +kernel
theorem dX15_nextToken_124 : decode cX15_nextToken 124 = .ok (.aload_n 0, 1) := by decide +kernel
theorem dX15_nextToken_125 : decode cX15_nextToken 125 = .ok (.aload_n 1, 1) := by decide +kernel
theorem dX15_nextToken_126 : decode cX15_nextToken 126 = .ok (.iload_n 2, 1) := by decide +kernel
theorem dX15_nextToken_127 : decode cX15_nextToken 127 = .ok (.iload_n 3, 1) := by decide +kernel
theorem dX15_nextToken_128 : decode cX15_nextToken 128 = .ok (.iconst 1, 1) := by decide +kernel
theorem dX15_nextToken_129 : decode cX15_nextToken 129 = .ok (.iadd, 1) := by decide +kernel
theorem dX15_nextToken_130 : decode cX15_nextToken 130 = .ok (.invokevirtual 30, 3) := by decide +kernel
theorem dX15_nextToken_133 : decode cX15_nextToken 133 = .ok (.invokestatic 41, 3) := by decide +kernel
theorem dX15_nextToken_136 : decode cX15_nextToken 136 = .ok (.ifCond .eq 142, 3) := by decide +kernel
theorem dX15_nextToken_139 : decode cX15_nextToken 139 = .ok (.iload 4, 2) := by decide +kernel
theorem dX15_nextToken_141 : decode cX15_nextToken 141 = .ok (.bipush 45, 2) := by decide +kernel
theorem dX15_nextToken_143 : decode cX15_nextToken 143 = .ok (.if_icmp .ne 9, 3) := by decide +kernel
theorem dX15_nextToken_146 : decode cX15_nextToken 146 = .ok (.iload_n 3, 1) := by decide +kernel
theorem dX15_nextToken_147 : decode cX15_nextToken 147 = .ok (.iconst 1, 1) := by decide +kernel
theorem dX15_nextToken_148 : decode cX15_nextToken 148 = .ok (.iadd, 1) := by decide +kernel
theorem dX15_nextToken_149 : decode cX15_nextToken 149 = .ok (.goto 4, 3) := by decide +kernel
theorem dX15_nextToken_152 : decode cX15_nextToken 152 = .ok (.iload_n 3, 1) := by decide +kernel
theorem dX15_nextToken_153 : decode cX15_nextToken 153 = .ok (.istore 5, 2) := by decide +kernel
theorem dX15_nextToken_155 : decode cX15_nextToken 155 = .ok (.iload 5, 2) := by decide +kernel
theorem dX15_nextToken_157 : decode cX15_nextToken 157 = .ok (.istore 6, 2) := by decide +kernel
theorem dX15_nextToken_159 : decode cX15_nextToken 159 = .ok (.aload_n 0, 1) := by decide +kernel
theorem dX15_nextToken_160 : decode cX15_nextToken 160 = .ok (.aload_n 1, 1) := by decide +kernel
theorem dX15_nextToken_161 : decode cX15_nextToken 161 = .ok (.iload_n 2, 1) := by decide +kernel
theorem dX15_nextToken_162 : decode cX15_nextToken 162 = .ok (.iload 6, 2) := by decide +kernel
theorem dX15_nextToken_164 : decode cX15_nextToken 164 = .ok (.invokevirtual 30, 3) := by decide +kernel
theorem dX15_nextToken_167 : decode cX15_nextToken 167 = .ok (.invokestatic 41, 3) := by decide +kernel
theorem dX15_nextToken_170 : decode cX15_nextToken 170 = .ok (.ifCond .eq 9, 3) := by decide +kernel
theorem dX15_nextToken_173 : decode cX15_nextToken 173 = .ok (.iinc 6 1, 3) := by decide +kernel
theorem dX15_nextToken_176 : decode cX15_nextToken 176 = .ok (.goto (-17), 3) := by decide +kernel
theorem dX15_nextToken_179 : decode cX15_nextToken 179 = .ok (.aload_n 0, 1) := by decide +kernel
theorem dX15_nextToken_180 : decode cX15_nextToken 180 = .ok (.iload 6, 2) := by decide +kernel
theorem dX15_nextToken_182 : decode cX15_nextToken 182 = .ok (.iload 5, 2) := by decide +kernel
theorem dX15_nextToken_184 : decode cX15_nextToken 184 = .ok (.isub, 1) := by decide +kernel
theorem dX15_nextToken_185 : decode cX15_nextToken 185 = .ok (.iconst 2, 1) := by decide +kernel
theorem dX15_nextToken_186 : decode cX15_nextToken 186 = .ok (.if_icmp .gt 7, 3) := by decide +kernel
theorem dX15_nextToken_189 : decode cX15_nextToken 189 = .ok (.iconst 2, 1) := by decide +kernel
theorem dX15_nextToken_190 : decode cX15_nextToken 190 = .ok (.goto 4, 3) := by decide +kernel
theorem dX15_nextToken_193 : decode cX15_nextToken 193 = .ok (.iconst 5, 1) := by decide +kernel
theorem dX15_nextToken_194 : decode cX15_nextToken 194 = .ok (.putfield 34, 3) := by decide +kernel
theorem dX15_nextToken_197 : decode cX15_nextToken 197 = .ok (.aload_n 0, 1) := by decide +kernel
theorem dX15_nextToken_198 : decode cX15_nextToken 198 = .ok (.aload_n 1, 1) := by decide +kernel
theorem dX15_nextToken_199 : decode cX15_nextToken 199 = .ok (.iload 5, 2) := by decide +kernel
theorem dX15_nextToken_201 : decode cX15_nextToken 201 = .ok (.baload, 1) := by decide +kernel
theorem dX15_nextToken_202 : decode cX15_nextToken 202 = .ok (.bipush 48, 2) := by decide +kernel
theorem dX15_nextToken_204 : decode cX15_nextToken 204 = .ok (.isub, 1) := by decide +kernel
theorem dX15_nextToken_205 : decode cX15_nextToken 205 = .ok (.putfield 44, 3) := by decide +kernel
theorem dX15_nextToken_208 : decode cX15_nextToken 208 = .ok (.aload_n 0, 1) := by decide +kernel
theorem dX15_nextToken_209 : decode cX15_nextToken 209 = .ok (.iload 6, 2) := by decide +kernel
theorem dX15_nextToken_211 : decode cX15_nextToken 211 = .ok (.iload 5, 2) := by decide +kernel
theorem dX15_nextToken_213 : decode cX15_nextToken 213 = .ok (.isub, 1) := by decide +kernel
theorem dX15_nextToken_214 : decode cX15_nextToken 214 = .ok (.iconst 2, 1) := by decide +kernel
theorem dX15_nextToken_215 : decode cX15_nextToken 215 = .ok (.if_icmp .ne 23, 3) := by decide +kernel
theorem dX15_nextToken_218 : decode cX15_nextToken 218 = .ok (.bipush 10, 2) := by decide +kernel
theorem dX15_nextToken_220 : decode cX15_nextToken 220 = .ok (.aload_n 0, 1) := by decide +kernel
theorem dX15_nextToken_221 : decode cX15_nextToken 221 = .ok (.getfield 44, 3) := by decide +kernel
theorem dX15_nextToken_224 : decode cX15_nextToken 224 = .ok (.imul, 1) := by decide +kernel
theorem dX15_nextToken_225 : decode cX15_nextToken 225 = .ok (.aload_n 1, 1) := by decide +kernel
theorem dX15_nextToken_226 : decode cX15_nextToken 226 = .ok (.iload 5, 2) := by decide +kernel
theorem dX15_nextToken_228 : decode cX15_nextToken 228 = .ok (.iconst 1, 1) := by decide +kernel
theorem dX15_nextToken_229 : decode cX15_nextToken 229 = .ok (.iadd, 1) := by decide +kernel
theorem dX15_nextToken_230 : decode cX15_nextToken 230 = .ok (.baload, 1) := by decide +kernel
theorem dX15_nextToken_231 : decode cX15_nextToken 231 = .ok (.iadd, 1) := by decide +kernel
theorem dX15_nextToken_232 : decode cX15_nextToken 232 = .ok (.bipush 48, 2) := by decide +kernel
theorem dX15_nextToken_234 : decode cX15_nextToken 234 = .ok (.isub, 1) := by decide +kernel
theorem dX15_nextToken_235 : decode cX15_nextToken 235 = .ok (.goto 7, 3) := by decide +kernel
theorem dX15_nextToken_238 : decode cX15_nextToken 238 = .ok (.aload_n 0, 1) := by decide +kernel
theorem dX15_nextToken_239 : decode cX15_nextToken 239 = .ok (.getfield 44, 3) := by decide +kernel
theorem dX15_nextToken_242 : decode cX15_nextToken 242 = .ok (.putfield 44, 3) := by decide +kernel
theorem dX15_nextToken_245 : decode cX15_nextToken 245 = .ok (.aload_n 0, 1) := by decide +kernel
theorem dX15_nextToken_246 : decode cX15_nextToken 246 = .ok (.iload 4, 2) := by decide +kernel
theorem dX15_nextToken_248 : decode cX15_nextToken 248 = .ok (.bipush 45, 2) := by decide +kernel
theorem dX15_nextToken_250 : decode cX15_nextToken 250 = .ok (.if_icmp .ne 12, 3) := by decide +kernel
theorem dX15_nextToken_253 : decode cX15_nextToken 253 = .ok (.iconst 0, 1) := by decide +kernel
theorem dX15_nextToken_254 : decode cX15_nextToken 254 = .ok (.aload_n 0, 1) := by decide +kernel
theorem dX15_nextToken_255 : decode cX15_nextToken 255 = .ok (.getfield 44, 3) := by decide +kernel
theorem dX15_nextToken_258 : decode cX15_nextToken 258 = .ok (.isub, 1) := by decide +kernel
theorem dX15_nextToken_259 : decode cX15_nextToken 259 = .ok (.goto 7, 3) := by decide +kernel
theorem dX15_nextToken_262 : decode cX15_nextToken 262 = .ok (.aload_n 0, 1) := by decide +kernel
theorem dX15_nextToken_263 : decode cX15_nextToken 263 = .ok (.getfield 44, 3) := by decide +kernel
theorem dX15_nextToken_266 : decode cX15_nextToken 266 = .ok (.putfield 44, 3) := by decide +kernel
theorem dX15_nextToken_269 : decode cX15_nextToken 269 = .ok (.aload_n 0, 1) := by decide +kernel
theorem dX15_nextToken_270 : decode cX15_nextToken 270 = .ok (.iload 6, 2) := by decide +kernel
theorem dX15_nextToken_272 : decode cX15_nextToken 272 = .ok (.putfield 24, 3) := by decide +kernel
theorem dX15_nextToken_275 : decode cX15_nextToken 275 = .ok (.goto 33, 3) := by decide +kernel
theorem dX15_nextToken_278 : decode cX15_nextToken 278 = .ok (.aload_n 0, 1) := by decide +kernel
theorem dX15_nextToken_279 : decode cX15_nextToken 279 = .ok (.iload 4, 2) := by decide +kernel
theorem dX15_nextToken_281 : decode cX15_nextToken 281 = .ok (.bipush 59, 2) := by decide +kernel
theorem dX15_nextToken_283 : decode cX15_nextToken 283 = .ok (.if_icmp .eq 10, 3) := by decide +kernel
theorem dX15_nextToken_286 : decode cX15_nextToken 286 = .ok (.iload 4, 2) := by decide +kernel
theorem dX15_nextToken_288 : decode cX15_nextToken 288 = .ok (.bipush 44, 2) := by decide +kernel
theorem dX15_nextToken_290 : decode cX15_nextToken 290 = .ok (.if_icmp .ne 7, 3) := by decide +kernel
theorem dX15_nextToken_293 : decode cX15_nextToken 293 = .ok (.iconst 3, 1) := by decide +kernel
theorem dX15_nextToken_294 : decode cX15_nextToken 294 = .ok (.goto 4, 3) := by decide +kernel
theorem dX15_nextToken_297 : decode cX15_nextToken 297 = .ok (.iconst 5, 1) := by decide +kernel
theorem dX15_nextToken_298 : decode cX15_nextToken 298 = .ok (.putfield 34, 3) := by decide +kernel
theorem dX15_nextToken_301 : decode cX15_nextToken 301 = .ok (.aload_n 0, 1) := by decide +kernel
theorem dX15_nextToken_302 : decode cX15_nextToken 302 = .ok (.iload_n 3, 1) := by decide +kernel
theorem dX15_nextToken_303 : decode cX15_nextToken 303 = .ok (.iconst 1, 1) := by decide +kernel
theorem dX15_nextToken_304 : decode cX15_nextToken 304 = .ok (.iadd, 1) := by decide +kernel
theorem dX15_nextToken_305 : decode cX15_nextToken 305 = .ok (.putfield 24, 3) := by decide +kernel
theorem dX15_nextToken_308 : decode cX15_nextToken 308 = .ok (.return_, 1) := by decide +kernel
def sX15_nextToken_308 (F : Nat) (h : Hp) : Option (Hp) := some h
def sX15_nextToken_266 (F : Nat) (h : Hp) (x0 : Nat) (x6 : Int32) (t0 : Int32) (t1 : Nat) : Option (Hp) := nm (wI h t1 9 t0) fun h_1 => nm (wI h_1 x0 8 x6) fun h_2 => sX15_nextToken_308 F h_2 
def sX15_nextToken_242 (F : Nat) (h : Hp) (x0 : Nat) (x4 : Int32) (x6 : Int32) (t0 : Int32) (t1 : Nat) : Option (Hp) := nm (wI h t1 9 t0) fun h_1 => br (x4 = (45 : Int32)) (sX15_nextToken_266 F h_1 x0 x6 ((0 : Int32) - (hI h_1 x0 9)) x0) (sX15_nextToken_266 F h_1 x0 x6 (hI h_1 x0 9) x0)
def sX15_nextToken_194 (F : Nat) (h : Hp) (x0 : Nat) (x1 : Nat) (x4 : Int32) (x5 : Int32) (x6 : Int32) (t0 : Int32) (t1 : Nat) : Option (Hp) := nm (wI h t1 6 t0) fun h_1 => gd (inB x5 (hN h_1 x1)) <| nm (wI h_1 x0 9 ((hI h_1 x1 x5.toNatClampNeg) - (48 : Int32))) fun h_3 => br ((x6 - x5) = (2 : Int32)) (gd (inB (x5 + (1 : Int32)) (hN h_3 x1)) <| sX15_nextToken_242 F h_3 x0 x4 x6 ((((10 : Int32) * (hI h_3 x0 9)) + (hI h_3 x1 (x5 + (1 : Int32)).toNatClampNeg)) - (48 : Int32)) x0) (sX15_nextToken_242 F h_3 x0 x4 x6 (hI h_3 x0 9) x0)
def sX15_nextToken_159 (F : Nat) : Nat → Hp → Nat → Nat → Int32 → Int32 → Int32 → Int32 → Option (Hp)
  | 0, _, _, _, _, _, _, _ => none
  | f + 1, h, x0, x1, x2, x4, x5, x6 => cl (sX15_byteAt h x0 x1 x2 x6) fun o_1 => cl (sX15_isDigit o_1.2 o_1.1) fun o_2 => br (o_2.1 = 0) (br ((2 : Int32) < (x6 - x5)) (sX15_nextToken_194 F o_2.2 x0 x1 x4 x5 x6 (5 : Int32) x0) (sX15_nextToken_194 F o_2.2 x0 x1 x4 x5 x6 (2 : Int32) x0)) (nm (x6 + (1 : Int32)) fun v_5 => sX15_nextToken_159 F f o_2.2 x0 x1 x2 x4 x5 v_5)
def sX15_nextToken_153 (F : Nat) (h : Hp) (x0 : Nat) (x1 : Nat) (x2 : Int32) (x4 : Int32) (t0 : Int32) : Option (Hp) := sX15_nextToken_159 F F h x0 x1 x2 x4 t0 t0
def sX15_nextToken_139 (F : Nat) (h : Hp) (x0 : Nat) (x1 : Nat) (x2 : Int32) (x3 : Int32) (x4 : Int32) : Option (Hp) := br (x4 = (45 : Int32)) (sX15_nextToken_153 F h x0 x1 x2 x4 (x3 + (1 : Int32))) (sX15_nextToken_153 F h x0 x1 x2 x4 x3)
def sX15_nextToken_298 (F : Nat) (h : Hp) (x0 : Nat) (x3 : Int32) (t0 : Int32) (t1 : Nat) : Option (Hp) := nm (wI h t1 6 t0) fun h_1 => nm (wI h_1 x0 8 (x3 + (1 : Int32))) fun h_2 => sX15_nextToken_308 F h_2 
def sX15_nextToken_293 (F : Nat) (h : Hp) (x0 : Nat) (x3 : Int32) (t0 : Nat) : Option (Hp) := sX15_nextToken_298 F h x0 x3 (3 : Int32) t0
def sX15_nextToken_278 (F : Nat) (h : Hp) (x0 : Nat) (x3 : Int32) (x4 : Int32) : Option (Hp) := br (x4 = (59 : Int32)) (sX15_nextToken_293 F h x0 x3 x0) (br (x4 = (44 : Int32)) (sX15_nextToken_293 F h x0 x3 x0) (sX15_nextToken_298 F h x0 x3 (5 : Int32) x0))
def sX15_nextToken_77 (F : Nat) : Nat → Hp → Nat → Nat → Int32 → Int32 → Option (Hp)
  | 0, _, _, _, _, _ => none
  | f + 1, h, x0, x1, x2, x3 => cl (sX15_byteAt h x0 x1 x2 x3) fun o_1 => cl (sX15_isSmall o_1.2 o_1.1) fun o_2 => br (o_2.1 = 0) (nm (wI o_2.2 x0 6 (1 : Int32)) fun h_4 => nm (wI h_4 x0 8 x3) fun h_5 => sX15_nextToken_308 F h_5 ) (nm (x3 + (1 : Int32)) fun v_6 => sX15_nextToken_77 F f o_2.2 x0 x1 x2 v_6)
def sX15_nextToken_32 (F : Nat) (h : Hp) (x0 : Nat) (x1 : Nat) (x2 : Int32) (x3 : Int32) : Option (Hp) := nm (wI h x0 7 x3) fun h_1 => cl (sX15_byteAt h_1 x0 x1 x2 x3) fun o_2 => br (x3 < x2) (cl (sX15_isSmall o_2.2 o_2.1) fun o_4 => br (o_4.1 = 0) (cl (sX15_isDigit o_4.2 o_2.1) fun o_6 => br (o_6.1 = 0) (br (o_2.1 = (45 : Int32)) (cl (sX15_byteAt o_6.2 x0 x1 x2 (x3 + (1 : Int32))) fun o_9 => cl (sX15_isDigit o_9.2 o_9.1) fun o_10 => br (o_10.1 = 0) (sX15_nextToken_278 F o_10.2 x0 x3 o_2.1) (sX15_nextToken_139 F o_10.2 x0 x1 x2 x3 o_2.1)) (sX15_nextToken_278 F o_6.2 x0 x3 o_2.1)) (sX15_nextToken_139 F o_6.2 x0 x1 x2 x3 o_2.1)) (sX15_nextToken_77 F F o_4.2 x0 x1 x2 x3)) (nm (wI o_2.2 x0 7 x2) fun h_12 => nm (wI h_12 x0 8 x2) fun h_13 => nm (wI h_13 x0 6 (4 : Int32)) fun h_14 => sX15_nextToken_308 F h_14 )
def sX15_nextToken_26 (F : Nat) (k_5 : Hp → Nat → Nat → Int32 → Int32 → Option (Hp)) (h : Hp) (x0 : Nat) (x1 : Nat) (x2 : Int32) (x3 : Int32) : Option (Hp) := nm (x3 + (1 : Int32)) fun v_1 => k_5 h x0 x1 x2 v_1
def sX15_nextToken_5 (F : Nat) : Nat → Hp → Nat → Nat → Int32 → Int32 → Option (Hp)
  | 0, _, _, _, _, _ => none
  | f + 1, h, x0, x1, x2, x3 => br (x2 ≤ x3) (sX15_nextToken_32 F h x0 x1 x2 x3) (gd (inB x3 (hN h x1)) <| br ((hI h x1 x3.toNatClampNeg) = (32 : Int32)) (sX15_nextToken_26 F (sX15_nextToken_5 F f) h x0 x1 x2 x3) (gd (inB x3 (hN h x1)) <| br ((hI h x1 x3.toNatClampNeg) = (10 : Int32)) (sX15_nextToken_26 F (sX15_nextToken_5 F f) h x0 x1 x2 x3) (sX15_nextToken_32 F h x0 x1 x2 x3)))
def sX15_nextToken (F : Nat) (h : Hp) (x0 : Nat) (x1 : Nat) (x2 : Int32) : Option (Hp) := nm (hI h x0 8) fun v_1 => sX15_nextToken_5 F F h x0 x1 x2 v_1
theorem moX15_nextToken_308 {o : Hp} {F : Nat} {h : Hp} (hE : sX15_nextToken_308 F h  = some o) : Le h o := by
  cases hE
  exact Le.rf _
theorem moX15_nextToken_266 {o : Hp} {F : Nat} {h : Hp} {x0 : Nat} {x6 : Int32} {t0 : Int32} {t1 : Nat} (hE : sX15_nextToken_266 F h x0 x6 t0 t1 = some o) : Le h o := by
  obtain ⟨h_1, eh_1, hE⟩ := nm_e2 hE
  refine (le_I eh_1).tr ?_
  obtain ⟨h_2, eh_2, hE⟩ := nm_e2 hE
  refine (le_I eh_2).tr ?_
  exact moX15_nextToken_308 hE
theorem moX15_nextToken_242 {o : Hp} {F : Nat} {h : Hp} {x0 : Nat} {x4 : Int32} {x6 : Int32} {t0 : Int32} {t1 : Nat} (hE : sX15_nextToken_242 F h x0 x4 x6 t0 t1 = some o) : Le h o := by
  obtain ⟨h_1, eh_1, hE⟩ := nm_e2 hE
  refine (le_I eh_1).tr ?_
  rcases br_e hE with ⟨_, hE⟩ | ⟨_, hE⟩
  · exact moX15_nextToken_266 hE
  · exact moX15_nextToken_266 hE
theorem moX15_nextToken_194 {o : Hp} {F : Nat} {h : Hp} {x0 : Nat} {x1 : Nat} {x4 : Int32} {x5 : Int32} {x6 : Int32} {t0 : Int32} {t1 : Nat} (hE : sX15_nextToken_194 F h x0 x1 x4 x5 x6 t0 t1 = some o) : Le h o := by
  obtain ⟨h_1, eh_1, hE⟩ := nm_e2 hE
  refine (le_I eh_1).tr ?_
  obtain ⟨g_2, hE⟩ := gd_e hE
  obtain ⟨h_3, eh_3, hE⟩ := nm_e2 hE
  refine (le_I eh_3).tr ?_
  rcases br_e hE with ⟨_, hE⟩ | ⟨_, hE⟩
  · obtain ⟨g_5, hE⟩ := gd_e hE
    exact moX15_nextToken_242 hE
  · exact moX15_nextToken_242 hE
theorem moX15_nextToken_159 {o : Hp} {F : Nat} : ∀ (f : Nat) {h : Hp} {x0 : Nat} {x1 : Nat} {x2 : Int32} {x4 : Int32} {x5 : Int32} {x6 : Int32}, sX15_nextToken_159 F f h x0 x1 x2 x4 x5 x6 = some o → Le h o := by
  intro f
  induction f with
  | zero =>
    intro h x0 x1 x2 x4 x5 x6 hE
    rw [sX15_nextToken_159] at hE
    cases hE
  | succ f ih =>
    intro h x0 x1 x2 x4 x5 x6 hE
    rw [sX15_nextToken_159] at hE
    have mk_159 : ∀ (h : Hp) (x0 : Nat) (x1 : Nat) (x2 : Int32) (x4 : Int32) (x5 : Int32) (x6 : Int32), sX15_nextToken_159 F f h x0 x1 x2 x4 x5 x6 = some o → Le h o := fun h x0 x1 x2 x4 x5 x6 hE => ih hE
    obtain ⟨o_1, eo_1, hE⟩ := cl_e hE
    refine (moX15_byteAt eo_1).tr ?_
    obtain ⟨o_2, eo_2, hE⟩ := cl_e hE
    refine (moX15_isDigit eo_2).tr ?_
    rcases br_e hE with ⟨_, hE⟩ | ⟨_, hE⟩
    · rcases br_e hE with ⟨_, hE⟩ | ⟨_, hE⟩
      · exact moX15_nextToken_194 hE
      · exact moX15_nextToken_194 hE
    · obtain ⟨v_5, ev_5, hE⟩ := nm_e2 hE
      exact mk_159 _ _ _ _ _ _ _ hE
theorem moX15_nextToken_153 {o : Hp} {F : Nat} {h : Hp} {x0 : Nat} {x1 : Nat} {x2 : Int32} {x4 : Int32} {t0 : Int32} (hE : sX15_nextToken_153 F h x0 x1 x2 x4 t0 = some o) : Le h o := by
  exact moX15_nextToken_159 _ hE
theorem moX15_nextToken_139 {o : Hp} {F : Nat} {h : Hp} {x0 : Nat} {x1 : Nat} {x2 : Int32} {x3 : Int32} {x4 : Int32} (hE : sX15_nextToken_139 F h x0 x1 x2 x3 x4 = some o) : Le h o := by
  rcases br_e hE with ⟨_, hE⟩ | ⟨_, hE⟩
  · exact moX15_nextToken_153 hE
  · exact moX15_nextToken_153 hE
theorem moX15_nextToken_298 {o : Hp} {F : Nat} {h : Hp} {x0 : Nat} {x3 : Int32} {t0 : Int32} {t1 : Nat} (hE : sX15_nextToken_298 F h x0 x3 t0 t1 = some o) : Le h o := by
  obtain ⟨h_1, eh_1, hE⟩ := nm_e2 hE
  refine (le_I eh_1).tr ?_
  obtain ⟨h_2, eh_2, hE⟩ := nm_e2 hE
  refine (le_I eh_2).tr ?_
  exact moX15_nextToken_308 hE
theorem moX15_nextToken_293 {o : Hp} {F : Nat} {h : Hp} {x0 : Nat} {x3 : Int32} {t0 : Nat} (hE : sX15_nextToken_293 F h x0 x3 t0 = some o) : Le h o := by
  exact moX15_nextToken_298 hE
theorem moX15_nextToken_278 {o : Hp} {F : Nat} {h : Hp} {x0 : Nat} {x3 : Int32} {x4 : Int32} (hE : sX15_nextToken_278 F h x0 x3 x4 = some o) : Le h o := by
  rcases br_e hE with ⟨_, hE⟩ | ⟨_, hE⟩
  · exact moX15_nextToken_293 hE
  · rcases br_e hE with ⟨_, hE⟩ | ⟨_, hE⟩
    · exact moX15_nextToken_293 hE
    · exact moX15_nextToken_298 hE
theorem moX15_nextToken_77 {o : Hp} {F : Nat} : ∀ (f : Nat) {h : Hp} {x0 : Nat} {x1 : Nat} {x2 : Int32} {x3 : Int32}, sX15_nextToken_77 F f h x0 x1 x2 x3 = some o → Le h o := by
  intro f
  induction f with
  | zero =>
    intro h x0 x1 x2 x3 hE
    rw [sX15_nextToken_77] at hE
    cases hE
  | succ f ih =>
    intro h x0 x1 x2 x3 hE
    rw [sX15_nextToken_77] at hE
    have mk_77 : ∀ (h : Hp) (x0 : Nat) (x1 : Nat) (x2 : Int32) (x3 : Int32), sX15_nextToken_77 F f h x0 x1 x2 x3 = some o → Le h o := fun h x0 x1 x2 x3 hE => ih hE
    obtain ⟨o_1, eo_1, hE⟩ := cl_e hE
    refine (moX15_byteAt eo_1).tr ?_
    obtain ⟨o_2, eo_2, hE⟩ := cl_e hE
    refine (moX15_isSmall eo_2).tr ?_
    rcases br_e hE with ⟨_, hE⟩ | ⟨_, hE⟩
    · obtain ⟨h_4, eh_4, hE⟩ := nm_e2 hE
      refine (le_I eh_4).tr ?_
      obtain ⟨h_5, eh_5, hE⟩ := nm_e2 hE
      refine (le_I eh_5).tr ?_
      exact moX15_nextToken_308 hE
    · obtain ⟨v_6, ev_6, hE⟩ := nm_e2 hE
      exact mk_77 _ _ _ _ _ hE
theorem moX15_nextToken_32 {o : Hp} {F : Nat} {h : Hp} {x0 : Nat} {x1 : Nat} {x2 : Int32} {x3 : Int32} (hE : sX15_nextToken_32 F h x0 x1 x2 x3 = some o) : Le h o := by
  obtain ⟨h_1, eh_1, hE⟩ := nm_e2 hE
  refine (le_I eh_1).tr ?_
  obtain ⟨o_2, eo_2, hE⟩ := cl_e hE
  refine (moX15_byteAt eo_2).tr ?_
  rcases br_e hE with ⟨_, hE⟩ | ⟨_, hE⟩
  · obtain ⟨o_4, eo_4, hE⟩ := cl_e hE
    refine (moX15_isSmall eo_4).tr ?_
    rcases br_e hE with ⟨_, hE⟩ | ⟨_, hE⟩
    · obtain ⟨o_6, eo_6, hE⟩ := cl_e hE
      refine (moX15_isDigit eo_6).tr ?_
      rcases br_e hE with ⟨_, hE⟩ | ⟨_, hE⟩
      · rcases br_e hE with ⟨_, hE⟩ | ⟨_, hE⟩
        · obtain ⟨o_9, eo_9, hE⟩ := cl_e hE
          refine (moX15_byteAt eo_9).tr ?_
          obtain ⟨o_10, eo_10, hE⟩ := cl_e hE
          refine (moX15_isDigit eo_10).tr ?_
          rcases br_e hE with ⟨_, hE⟩ | ⟨_, hE⟩
          · exact moX15_nextToken_278 hE
          · exact moX15_nextToken_139 hE
        · exact moX15_nextToken_278 hE
      · exact moX15_nextToken_139 hE
    · exact moX15_nextToken_77 _ hE
  · obtain ⟨h_12, eh_12, hE⟩ := nm_e2 hE
    refine (le_I eh_12).tr ?_
    obtain ⟨h_13, eh_13, hE⟩ := nm_e2 hE
    refine (le_I eh_13).tr ?_
    obtain ⟨h_14, eh_14, hE⟩ := nm_e2 hE
    refine (le_I eh_14).tr ?_
    exact moX15_nextToken_308 hE
theorem moX15_nextToken_26 {o : Hp} {k_5 : Hp → Nat → Nat → Int32 → Int32 → Option (Hp)} {F : Nat} (mk_5 : ∀ (h : Hp) (x0 : Nat) (x1 : Nat) (x2 : Int32) (x3 : Int32), k_5 h x0 x1 x2 x3 = some o → Le h o) {h : Hp} {x0 : Nat} {x1 : Nat} {x2 : Int32} {x3 : Int32} (hE : sX15_nextToken_26 F k_5 h x0 x1 x2 x3 = some o) : Le h o := by
  obtain ⟨v_1, ev_1, hE⟩ := nm_e2 hE
  exact mk_5 _ _ _ _ _ hE
theorem moX15_nextToken_5 {o : Hp} {F : Nat} : ∀ (f : Nat) {h : Hp} {x0 : Nat} {x1 : Nat} {x2 : Int32} {x3 : Int32}, sX15_nextToken_5 F f h x0 x1 x2 x3 = some o → Le h o := by
  intro f
  induction f with
  | zero =>
    intro h x0 x1 x2 x3 hE
    rw [sX15_nextToken_5] at hE
    cases hE
  | succ f ih =>
    intro h x0 x1 x2 x3 hE
    rw [sX15_nextToken_5] at hE
    have mk_5 : ∀ (h : Hp) (x0 : Nat) (x1 : Nat) (x2 : Int32) (x3 : Int32), sX15_nextToken_5 F f h x0 x1 x2 x3 = some o → Le h o := fun h x0 x1 x2 x3 hE => ih hE
    rcases br_e hE with ⟨_, hE⟩ | ⟨_, hE⟩
    · exact moX15_nextToken_32 hE
    · obtain ⟨g_2, hE⟩ := gd_e hE
      rcases br_e hE with ⟨_, hE⟩ | ⟨_, hE⟩
      · exact moX15_nextToken_26 mk_5 hE
      · obtain ⟨g_4, hE⟩ := gd_e hE
        rcases br_e hE with ⟨_, hE⟩ | ⟨_, hE⟩
        · exact moX15_nextToken_26 mk_5 hE
        · exact moX15_nextToken_32 hE
theorem moX15_nextToken {o : Hp} {F : Nat} {h : Hp} {x0 : Nat} {x1 : Nat} {x2 : Int32} (hE : sX15_nextToken F h x0 x1 x2 = some o) : Le h o := by
  obtain ⟨v_1, ev_1, hE⟩ := nm_e2 hE
  exact moX15_nextToken_5 _ hE
set_option maxRecDepth 20000 in
theorem bX15_nextToken_308 {p : Program} {l : Launch} {e : Env} {s : State} {m : MethodId} {args : Array Value} {below : List Frame} {meth : Method} {c : Code} {X : Ec} {h0 : Hp} {o : Hp} {F : Nat} (C : Cx X p s m args meth c RX15 cX15_nextToken 7 none "nextToken") {h : Hp} {H : Heap} {locs : List Loc} (hkm : Km h0 h) (hW : Wx X h H) (hZ : va_S (aA (eB X)) s.heap H locs) (ls : Array Slot) (hl : lv_has ls 7 []) (hE : sX15_nextToken_308 F h  = some o) : W p l e (rm 1 23) s m args below meth c H locs 0 0 (MQ below (QV X h0 o) args s 0 0 (aA (eB X))) (F0 m 308 ls []) := by
  exact x_vret C rfl hW hZ hkm hE dX15_nextToken_308
set_option maxRecDepth 20000 in
theorem bX15_nextToken_266 {p : Program} {l : Launch} {e : Env} {s : State} {m : MethodId} {args : Array Value} {below : List Frame} {meth : Method} {c : Code} {X : Ec} {h0 : Hp} {o : Hp} {F : Nat} (C : Cx X p s m args meth c RX15 cX15_nextToken 7 none "nextToken") {h : Hp} {x0 : Nat} {x6 : Int32} {t0 : Int32} {t1 : Nat} {H : Heap} {locs : List Loc} (k_x0 : hK h x0 = 15) (k_t1 : hK h t1 = 15) (hkm : Km h0 h) (hW : Wx X h H) (hZ : va_S (aA (eB X)) s.heap H locs) (ls : Array Slot) (hl : lv_has ls 7 [(0, .ref x0), (6, .int x6)]) (hE : sX15_nextToken_266 F h x0 x6 t0 t1 = some o) : W p l e (rm 1 23) s m args below meth c H locs 0 0 (MQ below (QV X h0 o) args s 0 0 (aA (eB X))) (F0 m 266 ls [.int t0, .ref t1]) := by
  obtain ⟨h_1, eh_1, hE⟩ := nm_e2 hE
  refine pf_X15_44 C hW hZ k_t1 eh_1 dX15_nextToken_266 (fun _ _ hW km hZ => ?_)
  replace hkm := hkm.tr km
  replace k_x0 := km.at k_x0 (by decide)
  refine lv_aload_n C.1 C.2.1 dX15_nextToken_269 rfl (lv_at hl 0 rfl) ?_
  refine lv_iload C.1 C.2.1 dX15_nextToken_270 (lv_at hl 1 rfl) ?_
  obtain ⟨h_2, eh_2, hE⟩ := nm_e2 hE
  refine pf_X15_24 C hW hZ k_x0 eh_2 dX15_nextToken_272 (fun _ _ hW km hZ => ?_)
  replace hkm := hkm.tr km
  replace k_x0 := km.at k_x0 (by decide)
  refine lv_goto (tgt := 308) C.1 C.2.1 dX15_nextToken_275 (by decide) ?_
  exact bX15_nextToken_308 C hkm hW hZ _ (lv_sub hl [] rfl) hE
set_option maxRecDepth 20000 in
theorem bX15_nextToken_242 {p : Program} {l : Launch} {e : Env} {s : State} {m : MethodId} {args : Array Value} {below : List Frame} {meth : Method} {c : Code} {X : Ec} {h0 : Hp} {o : Hp} {F : Nat} (C : Cx X p s m args meth c RX15 cX15_nextToken 7 none "nextToken") {h : Hp} {x0 : Nat} {x4 : Int32} {x6 : Int32} {t0 : Int32} {t1 : Nat} {H : Heap} {locs : List Loc} (k_x0 : hK h x0 = 15) (k_t1 : hK h t1 = 15) (hkm : Km h0 h) (hW : Wx X h H) (hZ : va_S (aA (eB X)) s.heap H locs) (ls : Array Slot) (hl : lv_has ls 7 [(0, .ref x0), (4, .int x4), (6, .int x6)]) (hE : sX15_nextToken_242 F h x0 x4 x6 t0 t1 = some o) : W p l e (rm 1 23) s m args below meth c H locs 0 0 (MQ below (QV X h0 o) args s 0 0 (aA (eB X))) (F0 m 242 ls [.int t0, .ref t1]) := by
  obtain ⟨h_1, eh_1, hE⟩ := nm_e2 hE
  refine pf_X15_44 C hW hZ k_t1 eh_1 dX15_nextToken_242 (fun _ _ hW km hZ => ?_)
  replace hkm := hkm.tr km
  replace k_x0 := km.at k_x0 (by decide)
  refine lv_aload_n C.1 C.2.1 dX15_nextToken_245 rfl (lv_at hl 0 rfl) ?_
  refine lv_iload C.1 C.2.1 dX15_nextToken_246 (lv_at hl 1 rfl) ?_
  refine lv_bipush (v := (45 : Int32)) C.1 C.2.1 dX15_nextToken_248 (by decide) ?_
  refine lv_icmp_ne (tgt := 262) C.1 C.2.1 dX15_nextToken_250 (by decide) (fun c_2 => ?_) (fun c_2 => ?_)
  · have hE := br_n hE c_2
    refine lv_aload_n C.1 C.2.1 dX15_nextToken_262 rfl (lv_at hl 0 rfl) ?_
    refine gf_X15_44 C hW k_x0 dX15_nextToken_263 ?_
    exact bX15_nextToken_266 C k_x0 k_x0 hkm hW hZ _ (lv_sub hl [0, 2] rfl) hE
  · have hE := br_p hE c_2
    refine lv_iconst (v := (0 : Int32)) C.1 C.2.1 dX15_nextToken_253 (by decide) ?_
    refine lv_aload_n C.1 C.2.1 dX15_nextToken_254 rfl (lv_at hl 0 rfl) ?_
    refine gf_X15_44 C hW k_x0 dX15_nextToken_255 ?_
    refine lv_isub C.1 C.2.1 dX15_nextToken_258 ?_
    refine lv_goto (tgt := 266) C.1 C.2.1 dX15_nextToken_259 (by decide) ?_
    exact bX15_nextToken_266 C k_x0 k_x0 hkm hW hZ _ (lv_sub hl [0, 2] rfl) hE
set_option maxRecDepth 20000 in
theorem bX15_nextToken_194 {p : Program} {l : Launch} {e : Env} {s : State} {m : MethodId} {args : Array Value} {below : List Frame} {meth : Method} {c : Code} {X : Ec} {h0 : Hp} {o : Hp} {F : Nat} (C : Cx X p s m args meth c RX15 cX15_nextToken 7 none "nextToken") {h : Hp} {x0 : Nat} {x1 : Nat} {x4 : Int32} {x5 : Int32} {x6 : Int32} {t0 : Int32} {t1 : Nat} {H : Heap} {locs : List Loc} (k_x0 : hK h x0 = 15) (k_x1 : hK h x1 = 16) (k_t1 : hK h t1 = 15) (hkm : Km h0 h) (hW : Wx X h H) (hZ : va_S (aA (eB X)) s.heap H locs) (ls : Array Slot) (hl : lv_has ls 7 [(0, .ref x0), (1, .ref x1), (4, .int x4), (5, .int x5), (6, .int x6)]) (hE : sX15_nextToken_194 F h x0 x1 x4 x5 x6 t0 t1 = some o) : W p l e (rm 1 23) s m args below meth c H locs 0 0 (MQ below (QV X h0 o) args s 0 0 (aA (eB X))) (F0 m 194 ls [.int t0, .ref t1]) := by
  obtain ⟨h_1, eh_1, hE⟩ := nm_e2 hE
  refine pf_X15_34 C hW hZ k_t1 eh_1 dX15_nextToken_194 (fun _ _ hW km hZ => ?_)
  replace hkm := hkm.tr km
  replace k_x0 := km.at k_x0 (by decide)
  replace k_x1 := km.at k_x1 (by decide)
  refine lv_aload_n C.1 C.2.1 dX15_nextToken_197 rfl (lv_at hl 0 rfl) ?_
  refine lv_aload_n C.1 C.2.1 dX15_nextToken_198 rfl (lv_at hl 1 rfl) ?_
  refine lv_iload C.1 C.2.1 dX15_nextToken_199 (lv_at hl 3 rfl) ?_
  obtain ⟨g_2, hE⟩ := gd_e hE
  refine y_bald C hW k_x1 g_2 dX15_nextToken_201 ?_
  refine lv_bipush (v := (48 : Int32)) C.1 C.2.1 dX15_nextToken_202 (by decide) ?_
  refine lv_isub C.1 C.2.1 dX15_nextToken_204 ?_
  obtain ⟨h_3, eh_3, hE⟩ := nm_e2 hE
  refine pf_X15_44 C hW hZ k_x0 eh_3 dX15_nextToken_205 (fun _ _ hW km hZ => ?_)
  replace hkm := hkm.tr km
  replace k_x0 := km.at k_x0 (by decide)
  replace k_x1 := km.at k_x1 (by decide)
  refine lv_aload_n C.1 C.2.1 dX15_nextToken_208 rfl (lv_at hl 0 rfl) ?_
  refine lv_iload C.1 C.2.1 dX15_nextToken_209 (lv_at hl 4 rfl) ?_
  refine lv_iload C.1 C.2.1 dX15_nextToken_211 (lv_at hl 3 rfl) ?_
  refine lv_isub C.1 C.2.1 dX15_nextToken_213 ?_
  refine lv_iconst (v := (2 : Int32)) C.1 C.2.1 dX15_nextToken_214 (by decide) ?_
  refine lv_icmp_ne (tgt := 238) C.1 C.2.1 dX15_nextToken_215 (by decide) (fun c_4 => ?_) (fun c_4 => ?_)
  · have hE := br_n hE c_4
    refine lv_aload_n C.1 C.2.1 dX15_nextToken_238 rfl (lv_at hl 0 rfl) ?_
    refine gf_X15_44 C hW k_x0 dX15_nextToken_239 ?_
    exact bX15_nextToken_242 C k_x0 k_x0 hkm hW hZ _ (lv_sub hl [0, 2, 4] rfl) hE
  · have hE := br_p hE c_4
    refine lv_bipush (v := (10 : Int32)) C.1 C.2.1 dX15_nextToken_218 (by decide) ?_
    refine lv_aload_n C.1 C.2.1 dX15_nextToken_220 rfl (lv_at hl 0 rfl) ?_
    refine gf_X15_44 C hW k_x0 dX15_nextToken_221 ?_
    refine lv_imul C.1 C.2.1 dX15_nextToken_224 ?_
    refine lv_aload_n C.1 C.2.1 dX15_nextToken_225 rfl (lv_at hl 1 rfl) ?_
    refine lv_iload C.1 C.2.1 dX15_nextToken_226 (lv_at hl 3 rfl) ?_
    refine lv_iconst (v := (1 : Int32)) C.1 C.2.1 dX15_nextToken_228 (by decide) ?_
    refine lv_iadd C.1 C.2.1 dX15_nextToken_229 ?_
    obtain ⟨g_5, hE⟩ := gd_e hE
    refine y_bald C hW k_x1 g_5 dX15_nextToken_230 ?_
    refine lv_iadd C.1 C.2.1 dX15_nextToken_231 ?_
    refine lv_bipush (v := (48 : Int32)) C.1 C.2.1 dX15_nextToken_232 (by decide) ?_
    refine lv_isub C.1 C.2.1 dX15_nextToken_234 ?_
    refine lv_goto (tgt := 242) C.1 C.2.1 dX15_nextToken_235 (by decide) ?_
    exact bX15_nextToken_242 C k_x0 k_x0 hkm hW hZ _ (lv_sub hl [0, 2, 4] rfl) hE
set_option maxRecDepth 20000 in
theorem bX15_nextToken_159 {p : Program} {l : Launch} {e : Env} {s : State} {m : MethodId} {args : Array Value} {below : List Frame} {meth : Method} {c : Code} {X : Ec} {h0 : Hp} {o : Hp} {F : Nat} (C : Cx X p s m args meth c RX15 cX15_nextToken 7 none "nextToken") : ∀ (f : Nat) {h : Hp} {x0 : Nat} {x1 : Nat} {x2 : Int32} {x4 : Int32} {x5 : Int32} {x6 : Int32} {H : Heap} {locs : List Loc} (k_x0 : hK h x0 = 15) (k_x1 : hK h x1 = 16), Km h0 h → Wx X h H → va_S (aA (eB X)) s.heap H locs → ∀ (ls : Array Slot), lv_has ls 7 [(0, .ref x0), (1, .ref x1), (2, .int x2), (4, .int x4), (5, .int x5), (6, .int x6)] → sX15_nextToken_159 F f h x0 x1 x2 x4 x5 x6 = some o → W p l e (rm 1 23) s m args below meth c H locs 0 0 (MQ below (QV X h0 o) args s 0 0 (aA (eB X))) (F0 m 159 ls []) := by
  intro f
  induction f with
  | zero =>
    intro h x0 x1 x2 x4 x5 x6 H locs k_x0 k_x1 hkm hW hZ ls hl hE
    rw [sX15_nextToken_159] at hE
    cases hE
  | succ f ih =>
    intro h x0 x1 x2 x4 x5 x6 H locs k_x0 k_x1 hkm hW hZ ls hl hE
    rw [sX15_nextToken_159] at hE
    have hk_159 : ∀ (h : Hp) (x0 : Nat) (x1 : Nat) (x2 : Int32) (x4 : Int32) (x5 : Int32) (x6 : Int32) (H : Heap) (locs : List Loc), hK h x0 = 15 → hK h x1 = 16 → Km h0 h → Wx X h H → va_S (aA (eB X)) s.heap H locs → ∀ (ls : Array Slot), lv_has ls 7 [(0, .ref x0), (1, .ref x1), (2, .int x2), (4, .int x4), (5, .int x5), (6, .int x6)] → sX15_nextToken_159 F f h x0 x1 x2 x4 x5 x6 = some o → W p l e (rm 1 23) s m args below meth c H locs 0 0 (MQ below (QV X h0 o) args s 0 0 (aA (eB X))) (F0 m 159 ls []) := fun h x0 x1 x2 x4 x5 x6 H locs k_x0 k_x1 a b c ls hl hE => ih k_x0 k_x1 a b c ls hl hE
    refine lv_aload_n C.1 C.2.1 dX15_nextToken_159 rfl (lv_at hl 0 rfl) ?_
    refine lv_aload_n C.1 C.2.1 dX15_nextToken_160 rfl (lv_at hl 1 rfl) ?_
    refine lv_iload_n C.1 C.2.1 dX15_nextToken_161 rfl (lv_at hl 2 rfl) ?_
    refine lv_iload C.1 C.2.1 dX15_nextToken_162 (lv_at hl 5 rfl) ?_
    obtain ⟨o_1, eo_1, hE⟩ := cl_e hE
    refine x_kI (o := o_1) (z_runV (As := [.ref x1, .int x2, .int x6]) (rest := []) C (ct_X15_byteAt l X k_x0 k_x1 eo_1) cw_X15_30 hW hZ k_x0 (by decide) rfl rfl rfl hl.1 (Nat.le_of_ble_eq_true rfl) rfl dX15_nextToken_164 ⟨Nat.le_of_ble_eq_true rfl, Nat.le_of_ble_eq_true rfl⟩ ⟨Nat.le_refl _, Nat.le_refl _⟩) hZ (fun _ _ hW km hZ => ?_)
    replace hkm := hkm.tr km
    replace k_x0 := km.at k_x0 (by decide)
    replace k_x1 := km.at k_x1 (by decide)
    obtain ⟨o_2, eo_2, hE⟩ := cl_e hE
    refine x_kI (o := o_2) (z_runS (As := [.int o_1.1]) (rest := []) C (ct_X15_isDigit l X eo_2) cw_X15_41 hW hZ rfl hl.1 (Nat.le_of_ble_eq_true rfl) rfl dX15_nextToken_167 ⟨Nat.le_of_ble_eq_true rfl, Nat.le_of_ble_eq_true rfl⟩ ⟨Nat.le_refl _, Nat.le_refl _⟩) hZ (fun _ _ hW km hZ => ?_)
    replace hkm := hkm.tr km
    replace k_x0 := km.at k_x0 (by decide)
    replace k_x1 := km.at k_x1 (by decide)
    refine lv_if_eq (tgt := 179) C.1 C.2.1 dX15_nextToken_170 (by decide) (fun c_3 => ?_) (fun c_3 => ?_)
    · have hE := br_p hE c_3
      refine lv_aload_n C.1 C.2.1 dX15_nextToken_179 rfl (lv_at hl 0 rfl) ?_
      refine lv_iload C.1 C.2.1 dX15_nextToken_180 (lv_at hl 5 rfl) ?_
      refine lv_iload C.1 C.2.1 dX15_nextToken_182 (lv_at hl 4 rfl) ?_
      refine lv_isub C.1 C.2.1 dX15_nextToken_184 ?_
      refine lv_iconst (v := (2 : Int32)) C.1 C.2.1 dX15_nextToken_185 (by decide) ?_
      refine lv_icmp_gt (tgt := 193) C.1 C.2.1 dX15_nextToken_186 (by decide) (fun c_4 => ?_) (fun c_4 => ?_)
      · have hE := br_p hE c_4
        refine lv_iconst (v := (5 : Int32)) C.1 C.2.1 dX15_nextToken_193 (by decide) ?_
        exact bX15_nextToken_194 C k_x0 k_x1 k_x0 hkm hW hZ _ (lv_sub hl [0, 1, 3, 4, 5] rfl) hE
      · have hE := br_n hE c_4
        refine lv_iconst (v := (2 : Int32)) C.1 C.2.1 dX15_nextToken_189 (by decide) ?_
        refine lv_goto (tgt := 194) C.1 C.2.1 dX15_nextToken_190 (by decide) ?_
        exact bX15_nextToken_194 C k_x0 k_x1 k_x0 hkm hW hZ _ (lv_sub hl [0, 1, 3, 4, 5] rfl) hE
    · have hE := br_n hE c_3
      obtain ⟨v_5, ev_5, hE⟩ := nm_e2 hE
      refine lv_iinc (v := v_5) (lv' := [(6, .int v_5), (0, .ref x0), (1, .ref x1), (2, .int x2), (4, .int x4), (5, .int x5)]) C.1 C.2.1 dX15_nextToken_173 hl (k := 5) rfl (by rw [ev_5]; rfl) (by decide) rfl (fun ls hl => ?_)
      refine lv_goto (tgt := 159) C.1 C.2.1 dX15_nextToken_176 (by decide) ?_
      exact hk_159 _ _ _ _ _ _ _ _ _ k_x0 k_x1 hkm hW hZ _ (lv_sub hl [1, 2, 3, 4, 5, 0] rfl) hE
set_option maxRecDepth 20000 in
theorem bX15_nextToken_153 {p : Program} {l : Launch} {e : Env} {s : State} {m : MethodId} {args : Array Value} {below : List Frame} {meth : Method} {c : Code} {X : Ec} {h0 : Hp} {o : Hp} {F : Nat} (C : Cx X p s m args meth c RX15 cX15_nextToken 7 none "nextToken") {h : Hp} {x0 : Nat} {x1 : Nat} {x2 : Int32} {x4 : Int32} {t0 : Int32} {H : Heap} {locs : List Loc} (k_x0 : hK h x0 = 15) (k_x1 : hK h x1 = 16) (hkm : Km h0 h) (hW : Wx X h H) (hZ : va_S (aA (eB X)) s.heap H locs) (ls : Array Slot) (hl : lv_has ls 7 [(0, .ref x0), (1, .ref x1), (2, .int x2), (4, .int x4)]) (hE : sX15_nextToken_153 F h x0 x1 x2 x4 t0 = some o) : W p l e (rm 1 23) s m args below meth c H locs 0 0 (MQ below (QV X h0 o) args s 0 0 (aA (eB X))) (F0 m 153 ls [.int t0]) := by
  refine lv_istore (lv' := [(5, .int t0), (0, .ref x0), (1, .ref x1), (2, .int x2), (4, .int x4)]) C.1 C.2.1 dX15_nextToken_153 hl (by decide) rfl (fun ls hl => ?_)
  refine lv_iload C.1 C.2.1 dX15_nextToken_155 (lv_at hl 0 rfl) ?_
  refine lv_istore (lv' := [(6, .int t0), (5, .int t0), (0, .ref x0), (1, .ref x1), (2, .int x2), (4, .int x4)]) C.1 C.2.1 dX15_nextToken_157 hl (by decide) rfl (fun ls hl => ?_)
  exact bX15_nextToken_159 C F k_x0 k_x1 hkm hW hZ _ (lv_sub hl [2, 3, 4, 5, 1, 0] rfl) hE
set_option maxRecDepth 20000 in
theorem bX15_nextToken_139 {p : Program} {l : Launch} {e : Env} {s : State} {m : MethodId} {args : Array Value} {below : List Frame} {meth : Method} {c : Code} {X : Ec} {h0 : Hp} {o : Hp} {F : Nat} (C : Cx X p s m args meth c RX15 cX15_nextToken 7 none "nextToken") {h : Hp} {x0 : Nat} {x1 : Nat} {x2 : Int32} {x3 : Int32} {x4 : Int32} {H : Heap} {locs : List Loc} (k_x0 : hK h x0 = 15) (k_x1 : hK h x1 = 16) (hkm : Km h0 h) (hW : Wx X h H) (hZ : va_S (aA (eB X)) s.heap H locs) (ls : Array Slot) (hl : lv_has ls 7 [(0, .ref x0), (1, .ref x1), (2, .int x2), (3, .int x3), (4, .int x4)]) (hE : sX15_nextToken_139 F h x0 x1 x2 x3 x4 = some o) : W p l e (rm 1 23) s m args below meth c H locs 0 0 (MQ below (QV X h0 o) args s 0 0 (aA (eB X))) (F0 m 139 ls []) := by
  refine lv_iload C.1 C.2.1 dX15_nextToken_139 (lv_at hl 4 rfl) ?_
  refine lv_bipush (v := (45 : Int32)) C.1 C.2.1 dX15_nextToken_141 (by decide) ?_
  refine lv_icmp_ne (tgt := 152) C.1 C.2.1 dX15_nextToken_143 (by decide) (fun c_1 => ?_) (fun c_1 => ?_)
  · have hE := br_n hE c_1
    refine lv_iload_n C.1 C.2.1 dX15_nextToken_152 rfl (lv_at hl 3 rfl) ?_
    exact bX15_nextToken_153 C k_x0 k_x1 hkm hW hZ _ (lv_sub hl [0, 1, 2, 4] rfl) hE
  · have hE := br_p hE c_1
    refine lv_iload_n C.1 C.2.1 dX15_nextToken_146 rfl (lv_at hl 3 rfl) ?_
    refine lv_iconst (v := (1 : Int32)) C.1 C.2.1 dX15_nextToken_147 (by decide) ?_
    refine lv_iadd C.1 C.2.1 dX15_nextToken_148 ?_
    refine lv_goto (tgt := 153) C.1 C.2.1 dX15_nextToken_149 (by decide) ?_
    exact bX15_nextToken_153 C k_x0 k_x1 hkm hW hZ _ (lv_sub hl [0, 1, 2, 4] rfl) hE
set_option maxRecDepth 20000 in
theorem bX15_nextToken_298 {p : Program} {l : Launch} {e : Env} {s : State} {m : MethodId} {args : Array Value} {below : List Frame} {meth : Method} {c : Code} {X : Ec} {h0 : Hp} {o : Hp} {F : Nat} (C : Cx X p s m args meth c RX15 cX15_nextToken 7 none "nextToken") {h : Hp} {x0 : Nat} {x3 : Int32} {t0 : Int32} {t1 : Nat} {H : Heap} {locs : List Loc} (k_x0 : hK h x0 = 15) (k_t1 : hK h t1 = 15) (hkm : Km h0 h) (hW : Wx X h H) (hZ : va_S (aA (eB X)) s.heap H locs) (ls : Array Slot) (hl : lv_has ls 7 [(0, .ref x0), (3, .int x3)]) (hE : sX15_nextToken_298 F h x0 x3 t0 t1 = some o) : W p l e (rm 1 23) s m args below meth c H locs 0 0 (MQ below (QV X h0 o) args s 0 0 (aA (eB X))) (F0 m 298 ls [.int t0, .ref t1]) := by
  obtain ⟨h_1, eh_1, hE⟩ := nm_e2 hE
  refine pf_X15_34 C hW hZ k_t1 eh_1 dX15_nextToken_298 (fun _ _ hW km hZ => ?_)
  replace hkm := hkm.tr km
  replace k_x0 := km.at k_x0 (by decide)
  refine lv_aload_n C.1 C.2.1 dX15_nextToken_301 rfl (lv_at hl 0 rfl) ?_
  refine lv_iload_n C.1 C.2.1 dX15_nextToken_302 rfl (lv_at hl 1 rfl) ?_
  refine lv_iconst (v := (1 : Int32)) C.1 C.2.1 dX15_nextToken_303 (by decide) ?_
  refine lv_iadd C.1 C.2.1 dX15_nextToken_304 ?_
  obtain ⟨h_2, eh_2, hE⟩ := nm_e2 hE
  refine pf_X15_24 C hW hZ k_x0 eh_2 dX15_nextToken_305 (fun _ _ hW km hZ => ?_)
  replace hkm := hkm.tr km
  replace k_x0 := km.at k_x0 (by decide)
  exact bX15_nextToken_308 C hkm hW hZ _ (lv_sub hl [] rfl) hE
set_option maxRecDepth 20000 in
theorem bX15_nextToken_293 {p : Program} {l : Launch} {e : Env} {s : State} {m : MethodId} {args : Array Value} {below : List Frame} {meth : Method} {c : Code} {X : Ec} {h0 : Hp} {o : Hp} {F : Nat} (C : Cx X p s m args meth c RX15 cX15_nextToken 7 none "nextToken") {h : Hp} {x0 : Nat} {x3 : Int32} {t0 : Nat} {H : Heap} {locs : List Loc} (k_x0 : hK h x0 = 15) (k_t0 : hK h t0 = 15) (hkm : Km h0 h) (hW : Wx X h H) (hZ : va_S (aA (eB X)) s.heap H locs) (ls : Array Slot) (hl : lv_has ls 7 [(0, .ref x0), (3, .int x3)]) (hE : sX15_nextToken_293 F h x0 x3 t0 = some o) : W p l e (rm 1 23) s m args below meth c H locs 0 0 (MQ below (QV X h0 o) args s 0 0 (aA (eB X))) (F0 m 293 ls [.ref t0]) := by
  refine lv_iconst (v := (3 : Int32)) C.1 C.2.1 dX15_nextToken_293 (by decide) ?_
  refine lv_goto (tgt := 298) C.1 C.2.1 dX15_nextToken_294 (by decide) ?_
  exact bX15_nextToken_298 C k_x0 k_t0 hkm hW hZ _ (lv_sub hl [0, 1] rfl) hE
set_option maxRecDepth 20000 in
theorem bX15_nextToken_278 {p : Program} {l : Launch} {e : Env} {s : State} {m : MethodId} {args : Array Value} {below : List Frame} {meth : Method} {c : Code} {X : Ec} {h0 : Hp} {o : Hp} {F : Nat} (C : Cx X p s m args meth c RX15 cX15_nextToken 7 none "nextToken") {h : Hp} {x0 : Nat} {x3 : Int32} {x4 : Int32} {H : Heap} {locs : List Loc} (k_x0 : hK h x0 = 15) (hkm : Km h0 h) (hW : Wx X h H) (hZ : va_S (aA (eB X)) s.heap H locs) (ls : Array Slot) (hl : lv_has ls 7 [(0, .ref x0), (3, .int x3), (4, .int x4)]) (hE : sX15_nextToken_278 F h x0 x3 x4 = some o) : W p l e (rm 1 23) s m args below meth c H locs 0 0 (MQ below (QV X h0 o) args s 0 0 (aA (eB X))) (F0 m 278 ls []) := by
  refine lv_aload_n C.1 C.2.1 dX15_nextToken_278 rfl (lv_at hl 0 rfl) ?_
  refine lv_iload C.1 C.2.1 dX15_nextToken_279 (lv_at hl 2 rfl) ?_
  refine lv_bipush (v := (59 : Int32)) C.1 C.2.1 dX15_nextToken_281 (by decide) ?_
  refine lv_icmp_eq (tgt := 293) C.1 C.2.1 dX15_nextToken_283 (by decide) (fun c_1 => ?_) (fun c_1 => ?_)
  · have hE := br_p hE c_1
    exact bX15_nextToken_293 C k_x0 k_x0 hkm hW hZ _ (lv_sub hl [0, 1] rfl) hE
  · have hE := br_n hE c_1
    refine lv_iload C.1 C.2.1 dX15_nextToken_286 (lv_at hl 2 rfl) ?_
    refine lv_bipush (v := (44 : Int32)) C.1 C.2.1 dX15_nextToken_288 (by decide) ?_
    refine lv_icmp_ne (tgt := 297) C.1 C.2.1 dX15_nextToken_290 (by decide) (fun c_2 => ?_) (fun c_2 => ?_)
    · have hE := br_n hE c_2
      refine lv_iconst (v := (5 : Int32)) C.1 C.2.1 dX15_nextToken_297 (by decide) ?_
      exact bX15_nextToken_298 C k_x0 k_x0 hkm hW hZ _ (lv_sub hl [0, 1] rfl) hE
    · have hE := br_p hE c_2
      exact bX15_nextToken_293 C k_x0 k_x0 hkm hW hZ _ (lv_sub hl [0, 1] rfl) hE
set_option maxRecDepth 20000 in
theorem bX15_nextToken_77 {p : Program} {l : Launch} {e : Env} {s : State} {m : MethodId} {args : Array Value} {below : List Frame} {meth : Method} {c : Code} {X : Ec} {h0 : Hp} {o : Hp} {F : Nat} (C : Cx X p s m args meth c RX15 cX15_nextToken 7 none "nextToken") : ∀ (f : Nat) {h : Hp} {x0 : Nat} {x1 : Nat} {x2 : Int32} {x3 : Int32} {H : Heap} {locs : List Loc} (k_x0 : hK h x0 = 15) (k_x1 : hK h x1 = 16), Km h0 h → Wx X h H → va_S (aA (eB X)) s.heap H locs → ∀ (ls : Array Slot), lv_has ls 7 [(0, .ref x0), (1, .ref x1), (2, .int x2), (3, .int x3)] → sX15_nextToken_77 F f h x0 x1 x2 x3 = some o → W p l e (rm 1 23) s m args below meth c H locs 0 0 (MQ below (QV X h0 o) args s 0 0 (aA (eB X))) (F0 m 77 ls []) := by
  intro f
  induction f with
  | zero =>
    intro h x0 x1 x2 x3 H locs k_x0 k_x1 hkm hW hZ ls hl hE
    rw [sX15_nextToken_77] at hE
    cases hE
  | succ f ih =>
    intro h x0 x1 x2 x3 H locs k_x0 k_x1 hkm hW hZ ls hl hE
    rw [sX15_nextToken_77] at hE
    have hk_77 : ∀ (h : Hp) (x0 : Nat) (x1 : Nat) (x2 : Int32) (x3 : Int32) (H : Heap) (locs : List Loc), hK h x0 = 15 → hK h x1 = 16 → Km h0 h → Wx X h H → va_S (aA (eB X)) s.heap H locs → ∀ (ls : Array Slot), lv_has ls 7 [(0, .ref x0), (1, .ref x1), (2, .int x2), (3, .int x3)] → sX15_nextToken_77 F f h x0 x1 x2 x3 = some o → W p l e (rm 1 23) s m args below meth c H locs 0 0 (MQ below (QV X h0 o) args s 0 0 (aA (eB X))) (F0 m 77 ls []) := fun h x0 x1 x2 x3 H locs k_x0 k_x1 a b c ls hl hE => ih k_x0 k_x1 a b c ls hl hE
    refine lv_aload_n C.1 C.2.1 dX15_nextToken_77 rfl (lv_at hl 0 rfl) ?_
    refine lv_aload_n C.1 C.2.1 dX15_nextToken_78 rfl (lv_at hl 1 rfl) ?_
    refine lv_iload_n C.1 C.2.1 dX15_nextToken_79 rfl (lv_at hl 2 rfl) ?_
    refine lv_iload_n C.1 C.2.1 dX15_nextToken_80 rfl (lv_at hl 3 rfl) ?_
    obtain ⟨o_1, eo_1, hE⟩ := cl_e hE
    refine x_kI (o := o_1) (z_runV (As := [.ref x1, .int x2, .int x3]) (rest := []) C (ct_X15_byteAt l X k_x0 k_x1 eo_1) cw_X15_30 hW hZ k_x0 (by decide) rfl rfl rfl hl.1 (Nat.le_of_ble_eq_true rfl) rfl dX15_nextToken_81 ⟨Nat.le_of_ble_eq_true rfl, Nat.le_of_ble_eq_true rfl⟩ ⟨Nat.le_refl _, Nat.le_refl _⟩) hZ (fun _ _ hW km hZ => ?_)
    replace hkm := hkm.tr km
    replace k_x0 := km.at k_x0 (by decide)
    replace k_x1 := km.at k_x1 (by decide)
    obtain ⟨o_2, eo_2, hE⟩ := cl_e hE
    refine x_kI (o := o_2) (z_runS (As := [.int o_1.1]) (rest := []) C (ct_X15_isSmall l X eo_2) cw_X15_37 hW hZ rfl hl.1 (Nat.le_of_ble_eq_true rfl) rfl dX15_nextToken_84 ⟨Nat.le_of_ble_eq_true rfl, Nat.le_of_ble_eq_true rfl⟩ ⟨Nat.le_refl _, Nat.le_refl _⟩) hZ (fun _ _ hW km hZ => ?_)
    replace hkm := hkm.tr km
    replace k_x0 := km.at k_x0 (by decide)
    replace k_x1 := km.at k_x1 (by decide)
    refine lv_if_eq (tgt := 96) C.1 C.2.1 dX15_nextToken_87 (by decide) (fun c_3 => ?_) (fun c_3 => ?_)
    · have hE := br_p hE c_3
      refine lv_aload_n C.1 C.2.1 dX15_nextToken_96 rfl (lv_at hl 0 rfl) ?_
      refine lv_iconst (v := (1 : Int32)) C.1 C.2.1 dX15_nextToken_97 (by decide) ?_
      obtain ⟨h_4, eh_4, hE⟩ := nm_e2 hE
      refine pf_X15_34 C hW hZ k_x0 eh_4 dX15_nextToken_98 (fun _ _ hW km hZ => ?_)
      replace hkm := hkm.tr km
      replace k_x0 := km.at k_x0 (by decide)
      replace k_x1 := km.at k_x1 (by decide)
      refine lv_aload_n C.1 C.2.1 dX15_nextToken_101 rfl (lv_at hl 0 rfl) ?_
      refine lv_iload_n C.1 C.2.1 dX15_nextToken_102 rfl (lv_at hl 3 rfl) ?_
      obtain ⟨h_5, eh_5, hE⟩ := nm_e2 hE
      refine pf_X15_24 C hW hZ k_x0 eh_5 dX15_nextToken_103 (fun _ _ hW km hZ => ?_)
      replace hkm := hkm.tr km
      replace k_x0 := km.at k_x0 (by decide)
      replace k_x1 := km.at k_x1 (by decide)
      refine lv_goto (tgt := 308) C.1 C.2.1 dX15_nextToken_106 (by decide) ?_
      exact bX15_nextToken_308 C hkm hW hZ _ (lv_sub hl [] rfl) hE
    · have hE := br_n hE c_3
      obtain ⟨v_6, ev_6, hE⟩ := nm_e2 hE
      refine lv_iinc (v := v_6) (lv' := [(3, .int v_6), (0, .ref x0), (1, .ref x1), (2, .int x2)]) C.1 C.2.1 dX15_nextToken_90 hl (k := 3) rfl (by rw [ev_6]; rfl) (by decide) rfl (fun ls hl => ?_)
      refine lv_goto (tgt := 77) C.1 C.2.1 dX15_nextToken_93 (by decide) ?_
      exact hk_77 _ _ _ _ _ _ _ k_x0 k_x1 hkm hW hZ _ (lv_sub hl [1, 2, 3, 0] rfl) hE
set_option maxRecDepth 20000 in
theorem bX15_nextToken_32 {p : Program} {l : Launch} {e : Env} {s : State} {m : MethodId} {args : Array Value} {below : List Frame} {meth : Method} {c : Code} {X : Ec} {h0 : Hp} {o : Hp} {F : Nat} (C : Cx X p s m args meth c RX15 cX15_nextToken 7 none "nextToken") {h : Hp} {x0 : Nat} {x1 : Nat} {x2 : Int32} {x3 : Int32} {H : Heap} {locs : List Loc} (k_x0 : hK h x0 = 15) (k_x1 : hK h x1 = 16) (hkm : Km h0 h) (hW : Wx X h H) (hZ : va_S (aA (eB X)) s.heap H locs) (ls : Array Slot) (hl : lv_has ls 7 [(0, .ref x0), (1, .ref x1), (2, .int x2), (3, .int x3)]) (hE : sX15_nextToken_32 F h x0 x1 x2 x3 = some o) : W p l e (rm 1 23) s m args below meth c H locs 0 0 (MQ below (QV X h0 o) args s 0 0 (aA (eB X))) (F0 m 32 ls []) := by
  refine lv_aload_n C.1 C.2.1 dX15_nextToken_32 rfl (lv_at hl 0 rfl) ?_
  refine lv_iload_n C.1 C.2.1 dX15_nextToken_33 rfl (lv_at hl 3 rfl) ?_
  obtain ⟨h_1, eh_1, hE⟩ := nm_e2 hE
  refine pf_X15_27 C hW hZ k_x0 eh_1 dX15_nextToken_34 (fun _ _ hW km hZ => ?_)
  replace hkm := hkm.tr km
  replace k_x0 := km.at k_x0 (by decide)
  replace k_x1 := km.at k_x1 (by decide)
  refine lv_aload_n C.1 C.2.1 dX15_nextToken_37 rfl (lv_at hl 0 rfl) ?_
  refine lv_aload_n C.1 C.2.1 dX15_nextToken_38 rfl (lv_at hl 1 rfl) ?_
  refine lv_iload_n C.1 C.2.1 dX15_nextToken_39 rfl (lv_at hl 2 rfl) ?_
  refine lv_iload_n C.1 C.2.1 dX15_nextToken_40 rfl (lv_at hl 3 rfl) ?_
  obtain ⟨o_2, eo_2, hE⟩ := cl_e hE
  refine x_kI (o := o_2) (z_runV (As := [.ref x1, .int x2, .int x3]) (rest := []) C (ct_X15_byteAt l X k_x0 k_x1 eo_2) cw_X15_30 hW hZ k_x0 (by decide) rfl rfl rfl hl.1 (Nat.le_of_ble_eq_true rfl) rfl dX15_nextToken_41 ⟨Nat.le_of_ble_eq_true rfl, Nat.le_of_ble_eq_true rfl⟩ ⟨Nat.le_refl _, Nat.le_refl _⟩) hZ (fun _ _ hW km hZ => ?_)
  replace hkm := hkm.tr km
  replace k_x0 := km.at k_x0 (by decide)
  replace k_x1 := km.at k_x1 (by decide)
  refine lv_istore (lv' := [(4, .int o_2.1), (0, .ref x0), (1, .ref x1), (2, .int x2), (3, .int x3)]) C.1 C.2.1 dX15_nextToken_44 hl (by decide) rfl (fun ls hl => ?_)
  refine lv_iload_n C.1 C.2.1 dX15_nextToken_46 rfl (lv_at hl 4 rfl) ?_
  refine lv_iload_n C.1 C.2.1 dX15_nextToken_47 rfl (lv_at hl 3 rfl) ?_
  refine lv_icmp_lt (tgt := 69) C.1 C.2.1 dX15_nextToken_48 (by decide) (fun c_3 => ?_) (fun c_3 => ?_)
  · have hE := br_p hE c_3
    refine lv_iload C.1 C.2.1 dX15_nextToken_69 (lv_at hl 0 rfl) ?_
    obtain ⟨o_4, eo_4, hE⟩ := cl_e hE
    refine x_kI (o := o_4) (z_runS (As := [.int o_2.1]) (rest := []) C (ct_X15_isSmall l X eo_4) cw_X15_37 hW hZ rfl hl.1 (Nat.le_of_ble_eq_true rfl) rfl dX15_nextToken_71 ⟨Nat.le_of_ble_eq_true rfl, Nat.le_of_ble_eq_true rfl⟩ ⟨Nat.le_refl _, Nat.le_refl _⟩) hZ (fun _ _ hW km hZ => ?_)
    replace hkm := hkm.tr km
    replace k_x0 := km.at k_x0 (by decide)
    replace k_x1 := km.at k_x1 (by decide)
    refine lv_if_eq (tgt := 109) C.1 C.2.1 dX15_nextToken_74 (by decide) (fun c_5 => ?_) (fun c_5 => ?_)
    · have hE := br_p hE c_5
      refine lv_iload C.1 C.2.1 dX15_nextToken_109 (lv_at hl 0 rfl) ?_
      obtain ⟨o_6, eo_6, hE⟩ := cl_e hE
      refine x_kI (o := o_6) (z_runS (As := [.int o_2.1]) (rest := []) C (ct_X15_isDigit l X eo_6) cw_X15_41 hW hZ rfl hl.1 (Nat.le_of_ble_eq_true rfl) rfl dX15_nextToken_111 ⟨Nat.le_of_ble_eq_true rfl, Nat.le_of_ble_eq_true rfl⟩ ⟨Nat.le_refl _, Nat.le_refl _⟩) hZ (fun _ _ hW km hZ => ?_)
      replace hkm := hkm.tr km
      replace k_x0 := km.at k_x0 (by decide)
      replace k_x1 := km.at k_x1 (by decide)
      refine lv_if_ne (tgt := 139) C.1 C.2.1 dX15_nextToken_114 (by decide) (fun c_7 => ?_) (fun c_7 => ?_)
      · have hE := br_n hE c_7
        exact bX15_nextToken_139 C k_x0 k_x1 hkm hW hZ _ (lv_sub hl [1, 2, 3, 4, 0] rfl) hE
      · have hE := br_p hE c_7
        refine lv_iload C.1 C.2.1 dX15_nextToken_117 (lv_at hl 0 rfl) ?_
        refine lv_bipush (v := (45 : Int32)) C.1 C.2.1 dX15_nextToken_119 (by decide) ?_
        refine lv_icmp_ne (tgt := 278) C.1 C.2.1 dX15_nextToken_121 (by decide) (fun c_8 => ?_) (fun c_8 => ?_)
        · have hE := br_n hE c_8
          exact bX15_nextToken_278 C k_x0 hkm hW hZ _ (lv_sub hl [1, 4, 0] rfl) hE
        · have hE := br_p hE c_8
          refine lv_aload_n C.1 C.2.1 dX15_nextToken_124 rfl (lv_at hl 1 rfl) ?_
          refine lv_aload_n C.1 C.2.1 dX15_nextToken_125 rfl (lv_at hl 2 rfl) ?_
          refine lv_iload_n C.1 C.2.1 dX15_nextToken_126 rfl (lv_at hl 3 rfl) ?_
          refine lv_iload_n C.1 C.2.1 dX15_nextToken_127 rfl (lv_at hl 4 rfl) ?_
          refine lv_iconst (v := (1 : Int32)) C.1 C.2.1 dX15_nextToken_128 (by decide) ?_
          refine lv_iadd C.1 C.2.1 dX15_nextToken_129 ?_
          obtain ⟨o_9, eo_9, hE⟩ := cl_e hE
          refine x_kI (o := o_9) (z_runV (As := [.ref x1, .int x2, .int (x3 + (1 : Int32))]) (rest := []) C (ct_X15_byteAt l X k_x0 k_x1 eo_9) cw_X15_30 hW hZ k_x0 (by decide) rfl rfl rfl hl.1 (Nat.le_of_ble_eq_true rfl) rfl dX15_nextToken_130 ⟨Nat.le_of_ble_eq_true rfl, Nat.le_of_ble_eq_true rfl⟩ ⟨Nat.le_refl _, Nat.le_refl _⟩) hZ (fun _ _ hW km hZ => ?_)
          replace hkm := hkm.tr km
          replace k_x0 := km.at k_x0 (by decide)
          replace k_x1 := km.at k_x1 (by decide)
          obtain ⟨o_10, eo_10, hE⟩ := cl_e hE
          refine x_kI (o := o_10) (z_runS (As := [.int o_9.1]) (rest := []) C (ct_X15_isDigit l X eo_10) cw_X15_41 hW hZ rfl hl.1 (Nat.le_of_ble_eq_true rfl) rfl dX15_nextToken_133 ⟨Nat.le_of_ble_eq_true rfl, Nat.le_of_ble_eq_true rfl⟩ ⟨Nat.le_refl _, Nat.le_refl _⟩) hZ (fun _ _ hW km hZ => ?_)
          replace hkm := hkm.tr km
          replace k_x0 := km.at k_x0 (by decide)
          replace k_x1 := km.at k_x1 (by decide)
          refine lv_if_eq (tgt := 278) C.1 C.2.1 dX15_nextToken_136 (by decide) (fun c_11 => ?_) (fun c_11 => ?_)
          · have hE := br_p hE c_11
            exact bX15_nextToken_278 C k_x0 hkm hW hZ _ (lv_sub hl [1, 4, 0] rfl) hE
          · have hE := br_n hE c_11
            exact bX15_nextToken_139 C k_x0 k_x1 hkm hW hZ _ (lv_sub hl [1, 2, 3, 4, 0] rfl) hE
    · have hE := br_n hE c_5
      exact bX15_nextToken_77 C F k_x0 k_x1 hkm hW hZ _ (lv_sub hl [1, 2, 3, 4] rfl) hE
  · have hE := br_n hE c_3
    refine lv_aload_n C.1 C.2.1 dX15_nextToken_51 rfl (lv_at hl 1 rfl) ?_
    refine lv_iload_n C.1 C.2.1 dX15_nextToken_52 rfl (lv_at hl 3 rfl) ?_
    obtain ⟨h_12, eh_12, hE⟩ := nm_e2 hE
    refine pf_X15_27 C hW hZ k_x0 eh_12 dX15_nextToken_53 (fun _ _ hW km hZ => ?_)
    replace hkm := hkm.tr km
    replace k_x0 := km.at k_x0 (by decide)
    replace k_x1 := km.at k_x1 (by decide)
    refine lv_aload_n C.1 C.2.1 dX15_nextToken_56 rfl (lv_at hl 1 rfl) ?_
    refine lv_iload_n C.1 C.2.1 dX15_nextToken_57 rfl (lv_at hl 3 rfl) ?_
    obtain ⟨h_13, eh_13, hE⟩ := nm_e2 hE
    refine pf_X15_24 C hW hZ k_x0 eh_13 dX15_nextToken_58 (fun _ _ hW km hZ => ?_)
    replace hkm := hkm.tr km
    replace k_x0 := km.at k_x0 (by decide)
    replace k_x1 := km.at k_x1 (by decide)
    refine lv_aload_n C.1 C.2.1 dX15_nextToken_61 rfl (lv_at hl 1 rfl) ?_
    refine lv_iconst (v := (4 : Int32)) C.1 C.2.1 dX15_nextToken_62 (by decide) ?_
    obtain ⟨h_14, eh_14, hE⟩ := nm_e2 hE
    refine pf_X15_34 C hW hZ k_x0 eh_14 dX15_nextToken_63 (fun _ _ hW km hZ => ?_)
    replace hkm := hkm.tr km
    replace k_x0 := km.at k_x0 (by decide)
    replace k_x1 := km.at k_x1 (by decide)
    refine lv_goto (tgt := 308) C.1 C.2.1 dX15_nextToken_66 (by decide) ?_
    exact bX15_nextToken_308 C hkm hW hZ _ (lv_sub hl [] rfl) hE
set_option maxRecDepth 20000 in
theorem bX15_nextToken_26 {p : Program} {l : Launch} {e : Env} {s : State} {m : MethodId} {args : Array Value} {below : List Frame} {meth : Method} {c : Code} {X : Ec} {h0 : Hp} {o : Hp} {k_5 : Hp → Nat → Nat → Int32 → Int32 → Option (Hp)} {F : Nat} (C : Cx X p s m args meth c RX15 cX15_nextToken 7 none "nextToken") (hk_5 : ∀ (h : Hp) (x0 : Nat) (x1 : Nat) (x2 : Int32) (x3 : Int32) (H : Heap) (locs : List Loc), hK h x0 = 15 → hK h x1 = 16 → Km h0 h → Wx X h H → va_S (aA (eB X)) s.heap H locs → ∀ (ls : Array Slot), lv_has ls 7 [(0, .ref x0), (1, .ref x1), (2, .int x2), (3, .int x3)] → k_5 h x0 x1 x2 x3 = some o → W p l e (rm 1 23) s m args below meth c H locs 0 0 (MQ below (QV X h0 o) args s 0 0 (aA (eB X))) (F0 m 5 ls [])) {h : Hp} {x0 : Nat} {x1 : Nat} {x2 : Int32} {x3 : Int32} {H : Heap} {locs : List Loc} (k_x0 : hK h x0 = 15) (k_x1 : hK h x1 = 16) (hkm : Km h0 h) (hW : Wx X h H) (hZ : va_S (aA (eB X)) s.heap H locs) (ls : Array Slot) (hl : lv_has ls 7 [(0, .ref x0), (1, .ref x1), (2, .int x2), (3, .int x3)]) (hE : sX15_nextToken_26 F k_5 h x0 x1 x2 x3 = some o) : W p l e (rm 1 23) s m args below meth c H locs 0 0 (MQ below (QV X h0 o) args s 0 0 (aA (eB X))) (F0 m 26 ls []) := by
  obtain ⟨v_1, ev_1, hE⟩ := nm_e2 hE
  refine lv_iinc (v := v_1) (lv' := [(3, .int v_1), (0, .ref x0), (1, .ref x1), (2, .int x2)]) C.1 C.2.1 dX15_nextToken_26 hl (k := 3) rfl (by rw [ev_1]; rfl) (by decide) rfl (fun ls hl => ?_)
  refine lv_goto (tgt := 5) C.1 C.2.1 dX15_nextToken_29 (by decide) ?_
  exact hk_5 _ _ _ _ _ _ _ k_x0 k_x1 hkm hW hZ _ (lv_sub hl [1, 2, 3, 0] rfl) hE
set_option maxRecDepth 20000 in
theorem bX15_nextToken_5 {p : Program} {l : Launch} {e : Env} {s : State} {m : MethodId} {args : Array Value} {below : List Frame} {meth : Method} {c : Code} {X : Ec} {h0 : Hp} {o : Hp} {F : Nat} (C : Cx X p s m args meth c RX15 cX15_nextToken 7 none "nextToken") : ∀ (f : Nat) {h : Hp} {x0 : Nat} {x1 : Nat} {x2 : Int32} {x3 : Int32} {H : Heap} {locs : List Loc} (k_x0 : hK h x0 = 15) (k_x1 : hK h x1 = 16), Km h0 h → Wx X h H → va_S (aA (eB X)) s.heap H locs → ∀ (ls : Array Slot), lv_has ls 7 [(0, .ref x0), (1, .ref x1), (2, .int x2), (3, .int x3)] → sX15_nextToken_5 F f h x0 x1 x2 x3 = some o → W p l e (rm 1 23) s m args below meth c H locs 0 0 (MQ below (QV X h0 o) args s 0 0 (aA (eB X))) (F0 m 5 ls []) := by
  intro f
  induction f with
  | zero =>
    intro h x0 x1 x2 x3 H locs k_x0 k_x1 hkm hW hZ ls hl hE
    rw [sX15_nextToken_5] at hE
    cases hE
  | succ f ih =>
    intro h x0 x1 x2 x3 H locs k_x0 k_x1 hkm hW hZ ls hl hE
    rw [sX15_nextToken_5] at hE
    have hk_5 : ∀ (h : Hp) (x0 : Nat) (x1 : Nat) (x2 : Int32) (x3 : Int32) (H : Heap) (locs : List Loc), hK h x0 = 15 → hK h x1 = 16 → Km h0 h → Wx X h H → va_S (aA (eB X)) s.heap H locs → ∀ (ls : Array Slot), lv_has ls 7 [(0, .ref x0), (1, .ref x1), (2, .int x2), (3, .int x3)] → sX15_nextToken_5 F f h x0 x1 x2 x3 = some o → W p l e (rm 1 23) s m args below meth c H locs 0 0 (MQ below (QV X h0 o) args s 0 0 (aA (eB X))) (F0 m 5 ls []) := fun h x0 x1 x2 x3 H locs k_x0 k_x1 a b c ls hl hE => ih k_x0 k_x1 a b c ls hl hE
    refine lv_iload_n C.1 C.2.1 dX15_nextToken_5 rfl (lv_at hl 3 rfl) ?_
    refine lv_iload_n C.1 C.2.1 dX15_nextToken_6 rfl (lv_at hl 2 rfl) ?_
    refine lv_icmp_ge (tgt := 32) C.1 C.2.1 dX15_nextToken_7 (by decide) (fun c_1 => ?_) (fun c_1 => ?_)
    · have hE := br_p hE c_1
      exact bX15_nextToken_32 C k_x0 k_x1 hkm hW hZ _ (lv_sub hl [0, 1, 2, 3] rfl) hE
    · have hE := br_n hE c_1
      refine lv_aload_n C.1 C.2.1 dX15_nextToken_10 rfl (lv_at hl 1 rfl) ?_
      refine lv_iload_n C.1 C.2.1 dX15_nextToken_11 rfl (lv_at hl 3 rfl) ?_
      obtain ⟨g_2, hE⟩ := gd_e hE
      refine y_bald C hW k_x1 g_2 dX15_nextToken_12 ?_
      refine lv_bipush (v := (32 : Int32)) C.1 C.2.1 dX15_nextToken_13 (by decide) ?_
      refine lv_icmp_eq (tgt := 26) C.1 C.2.1 dX15_nextToken_15 (by decide) (fun c_3 => ?_) (fun c_3 => ?_)
      · have hE := br_p hE c_3
        exact bX15_nextToken_26 C hk_5 k_x0 k_x1 hkm hW hZ _ (lv_sub hl [0, 1, 2, 3] rfl) hE
      · have hE := br_n hE c_3
        refine lv_aload_n C.1 C.2.1 dX15_nextToken_18 rfl (lv_at hl 1 rfl) ?_
        refine lv_iload_n C.1 C.2.1 dX15_nextToken_19 rfl (lv_at hl 3 rfl) ?_
        obtain ⟨g_4, hE⟩ := gd_e hE
        refine y_bald C hW k_x1 g_4 dX15_nextToken_20 ?_
        refine lv_bipush (v := (10 : Int32)) C.1 C.2.1 dX15_nextToken_21 (by decide) ?_
        refine lv_icmp_ne (tgt := 32) C.1 C.2.1 dX15_nextToken_23 (by decide) (fun c_5 => ?_) (fun c_5 => ?_)
        · have hE := br_n hE c_5
          exact bX15_nextToken_32 C k_x0 k_x1 hkm hW hZ _ (lv_sub hl [0, 1, 2, 3] rfl) hE
        · have hE := br_p hE c_5
          exact bX15_nextToken_26 C hk_5 k_x0 k_x1 hkm hW hZ _ (lv_sub hl [0, 1, 2, 3] rfl) hE
set_option maxRecDepth 20000 in
theorem ct_X15_nextToken (l : Launch) (X : Ec) (F : Nat) {h : Hp} {x0 : Nat} {x1 : Nat} {x2 : Int32} {o : Hp} (k_x0 : hK h x0 = 15) (k_x1 : hK h x1 = 16) (hE : sX15_nextToken F h x0 x1 x2 = some o) : MetV l yX15_nextToken cX15_nextToken 7 none 1 23 X [.ref x0, .ref x1, .int x2] h o := by
  refine x_met (by decide) (Nat.le_of_ble_eq_true rfl) ?_
  intro p e s m below meth c ls C hl hW hZ
  have hl : lv_has ls 7 [(0, .ref x0), (1, .ref x1), (2, .int x2)] := hl
  have hkm : Km h h := Km.rf h
  refine lv_aload_n C.1 C.2.1 dX15_nextToken_0 rfl (lv_at hl 0 rfl) ?_
  refine gf_X15_24 C hW k_x0 dX15_nextToken_1 ?_
  obtain ⟨v_1, ev_1, hE⟩ := nm_e2 hE
  refine x_nmI ev_1 ?_
  refine lv_istore_n (lv' := [(3, .int v_1), (0, .ref x0), (1, .ref x1), (2, .int x2)]) C.1 C.2.1 dX15_nextToken_4 rfl hl (by decide) rfl (fun ls hl => ?_)
  exact bX15_nextToken_5 C F k_x0 k_x1 hkm hW hZ _ (lv_sub hl [1, 2, 3, 0] rfl) hE
theorem m_2005 : Cond.methodLink RX15 47 yJ0_length_8abf5 ∈ W0 := w0_in (List.mem_append_right _ (List.mem_of_getElem? (i := 2005) (by decide +kernel))) rfl
theorem m_2006 : Cond.methodLink RX15 53 yJ0_charAt_5068e ∈ W0 := w0_in (List.mem_append_right _ (List.mem_of_getElem? (i := 2006) (by decide +kernel))) rfl
section
variable {p : Program} {l : Launch} {e : Env} {R : Room} {s : State} {m : MethodId} {args : Array Value} {below : List Frame} {meth : Method} {c : Code} {H : Heap} {locs : List Loc} {cells slots : Nat} {Q : State → Prop}
variable {cc : ByteArray} {pc : Nat} {ls : Array Slot} {rest : List Value} {X : Ec} {h h1 : Hp} {nL : Nat} {rt : Option FieldType} {mn : String}
theorem gf_X15_27 {a : Nat} (C : Cx X p s m args meth c RX15 cc nL rt mn) (hW : Wx X h H) (ha : hK h a = 15) (hdg : decode cc pc = .ok (.getfield 27, 3)) (kk : W p l e R s m args below meth c H locs cells slots Q (F0 m (pc + 3) ls (.int (hI h a 7) :: rest))) : W p l e R s m args below meth c H locs cells slots Q (F0 m pc ls (.ref a :: rest)) :=
  y_geti C hW ha i_X15 (by decide) rfl (by decide) m_2139 rfl hdg kk
theorem gf_X15_34 {a : Nat} (C : Cx X p s m args meth c RX15 cc nL rt mn) (hW : Wx X h H) (ha : hK h a = 15) (hdg : decode cc pc = .ok (.getfield 34, 3)) (kk : W p l e R s m args below meth c H locs cells slots Q (F0 m (pc + 3) ls (.int (hI h a 6) :: rest))) : W p l e R s m args below meth c H locs cells slots Q (F0 m pc ls (.ref a :: rest)) :=
  y_geti C hW ha i_X15 (by decide) rfl (by decide) m_2138 rfl hdg kk
end
theorem cw_X15_47 : cwd RX15 47 yJ0_length_8abf5 cJ0_length_8abf5 1 (some .int) false 0 := ⟨m_592, m_2005, m_15, ⟨m_590, m_591⟩, by decide, by decide, by decide +kernel⟩
theorem cw_X15_53 : cwd RX15 53 yJ0_charAt_5068e cJ0_charAt_5068e 2 (some .char) false 1 := ⟨m_602, m_2006, m_15, ⟨m_600, m_601⟩, by decide, by decide, by decide +kernel⟩
theorem dX15_isWord_0 : decode cX15_isWord 0 = .ok (.aload_n 0, 1) := by decide +kernel
theorem dX15_isWord_1 : decode cX15_isWord 1 = .ok (.getfield 34, 3) := by decide +kernel
theorem dX15_isWord_4 : decode cX15_isWord 4 = .ok (.iconst 1, 1) := by decide +kernel
theorem dX15_isWord_5 : decode cX15_isWord 5 = .ok (.if_icmp .ne 19, 3) := by decide +kernel
theorem dX15_isWord_8 : decode cX15_isWord 8 = .ok (.aload_n 0, 1) := by decide +kernel
theorem dX15_isWord_9 : decode cX15_isWord 9 = .ok (.getfield 24, 3) := by decide +kernel
theorem dX15_isWord_12 : decode cX15_isWord 12 = .ok (.aload_n 0, 1) := by decide +kernel
theorem dX15_isWord_13 : decode cX15_isWord 13 = .ok (.getfield 27, 3) := by decide +kernel
theorem dX15_isWord_16 : decode cX15_isWord 16 = .ok (.isub, 1) := by decide +kernel
theorem dX15_isWord_17 : decode cX15_isWord 17 = .ok (.aload_n 2, 1) := by decide +kernel
theorem dX15_isWord_18 : decode cX15_isWord 18 = .ok (.invokevirtual 47, 3) := by decide +kernel
theorem dX15_isWord_21 : decode cX15_isWord 21 = .ok (.if_icmp .eq 5, 3) := by decide +kernel
theorem dX15_isWord_24 : decode cX15_isWord 24 = .ok (.iconst 0, 1) := by decide +kernel
theorem dX15_isWord_25 : decode cX15_isWord 25 = .ok (.ireturn, 1) := by decide +kernel
theorem dX15_isWord_26 : decode cX15_isWord 26 = .ok (.iconst 0, 1) := by decide +kernel
theorem dX15_isWord_27 : decode cX15_isWord 27 = .ok (.istore_n 3, 1) := by decide +kernel
theorem dX15_isWord_28 : decode cX15_isWord 28 = .ok (.iload_n 3, 1) := by decide +kernel
theorem dX15_isWord_29 : decode cX15_isWord 29 = .ok (.aload_n 2, 1) := by decide +kernel
theorem dX15_isWord_30 : decode cX15_isWord 30 = .ok (.invokevirtual 47, 3) := by decide +kernel
theorem dX15_isWord_33 : decode cX15_isWord 33 = .ok (.if_icmp .ge 27, 3) := by decide +kernel
theorem dX15_isWord_36 : decode cX15_isWord 36 = .ok (.aload_n 1, 1) := by decide +kernel
theorem dX15_isWord_37 : decode cX15_isWord 37 = .ok (.aload_n 0, 1) := by decide +kernel
theorem dX15_isWord_38 : decode cX15_isWord 38 = .ok (.getfield 27, 3) := by decide +kernel
theorem dX15_isWord_41 : decode cX15_isWord 41 = .ok (.iload_n 3, 1) := by decide +kernel
theorem dX15_isWord_42 : decode cX15_isWord 42 = .ok (.iadd, 1) := by decide +kernel
theorem dX15_isWord_43 : decode cX15_isWord 43 = .ok (.baload, 1) := by decide +kernel
theorem dX15_isWord_44 : decode cX15_isWord 44 = .ok (.aload_n 2, 1) := by decide +kernel
theorem dX15_isWord_45 : decode cX15_isWord 45 = .ok (.iload_n 3, 1) := by decide +kernel
theorem dX15_isWord_46 : decode cX15_isWord 46 = .ok (.invokevirtual 53, 3) := by decide +kernel
theorem dX15_isWord_49 : decode cX15_isWord 49 = .ok (.if_icmp .eq 5, 3) := by decide +kernel
theorem dX15_isWord_52 : decode cX15_isWord 52 = .ok (.iconst 0, 1) := by decide +kernel
theorem dX15_isWord_53 : decode cX15_isWord 53 = .ok (.ireturn, 1) := by decide +kernel
theorem dX15_isWord_54 : decode cX15_isWord 54 = .ok (.iinc 3 1, 3) := by decide +kernel
theorem dX15_isWord_57 : decode cX15_isWord 57 = .ok (.goto (-29), 3) := by decide +kernel
theorem dX15_isWord_60 : decode cX15_isWord 60 = .ok (.iconst 1, 1) := by decide +kernel
theorem dX15_isWord_61 : decode cX15_isWord 61 = .ok (.ireturn, 1) := by decide +kernel
def sX15_isWord_24 (F : Nat) (h : Hp) : Option (Int32 × Hp) := some ((0 : Int32), h)
def sX15_isWord_28 (F : Nat) : Nat → Hp → Nat → Nat → Nat → Int32 → Option (Int32 × Hp)
  | 0, _, _, _, _, _ => none
  | f + 1, h, x0, x1, x2, x3 => br ((nI (lB x2).length) ≤ x3) (some ((1 : Int32), h)) (gd (inB ((hI h x0 7) + x3) (hN h x1)) <| gd (inB x3 (lB x2).length) <| br ((hI h x1 ((hI h x0 7) + x3).toNatClampNeg) = (schr x2 x3)) (nm (x3 + (1 : Int32)) fun v_5 => sX15_isWord_28 F f h x0 x1 x2 v_5) (some ((0 : Int32), h)))
def sX15_isWord (F : Nat) (h : Hp) (x0 : Nat) (x1 : Nat) (x2 : Nat) : Option (Int32 × Hp) := br ((hI h x0 6) = (1 : Int32)) (br (((hI h x0 8) - (hI h x0 7)) = (nI (lB x2).length)) (sX15_isWord_28 F F h x0 x1 x2 (0 : Int32)) (sX15_isWord_24 F h )) (sX15_isWord_24 F h )
theorem moX15_isWord_24 {o : Int32 × Hp} {F : Nat} {h : Hp} (hE : sX15_isWord_24 F h  = some o) : Le h o.2 := by
  cases hE
  exact Le.rf _
theorem moX15_isWord_28 {o : Int32 × Hp} {F : Nat} : ∀ (f : Nat) {h : Hp} {x0 : Nat} {x1 : Nat} {x2 : Nat} {x3 : Int32}, sX15_isWord_28 F f h x0 x1 x2 x3 = some o → Le h o.2 := by
  intro f
  induction f with
  | zero =>
    intro h x0 x1 x2 x3 hE
    rw [sX15_isWord_28] at hE
    cases hE
  | succ f ih =>
    intro h x0 x1 x2 x3 hE
    rw [sX15_isWord_28] at hE
    have mk_28 : ∀ (h : Hp) (x0 : Nat) (x1 : Nat) (x2 : Nat) (x3 : Int32), sX15_isWord_28 F f h x0 x1 x2 x3 = some o → Le h o.2 := fun h x0 x1 x2 x3 hE => ih hE
    rcases br_e hE with ⟨_, hE⟩ | ⟨_, hE⟩
    · cases hE
      exact Le.rf _
    · obtain ⟨g_2, hE⟩ := gd_e hE
      obtain ⟨g_3, hE⟩ := gd_e hE
      rcases br_e hE with ⟨_, hE⟩ | ⟨_, hE⟩
      · obtain ⟨v_5, ev_5, hE⟩ := nm_e2 hE
        exact mk_28 _ _ _ _ _ hE
      · cases hE
        exact Le.rf _
theorem moX15_isWord {o : Int32 × Hp} {F : Nat} {h : Hp} {x0 : Nat} {x1 : Nat} {x2 : Nat} (hE : sX15_isWord F h x0 x1 x2 = some o) : Le h o.2 := by
  rcases br_e hE with ⟨_, hE⟩ | ⟨_, hE⟩
  · rcases br_e hE with ⟨_, hE⟩ | ⟨_, hE⟩
    · exact moX15_isWord_28 _ hE
    · exact moX15_isWord_24 hE
  · exact moX15_isWord_24 hE
set_option maxRecDepth 20000 in
theorem bX15_isWord_24 {p : Program} {l : Launch} {e : Env} {s : State} {m : MethodId} {args : Array Value} {below : List Frame} {meth : Method} {c : Code} {X : Ec} {h0 : Hp} {o : Int32 × Hp} {F : Nat} (C : Cx X p s m args meth c RX15 cX15_isWord 4 (some .boolean) "isWord") {h : Hp} {H : Heap} {locs : List Loc} (hkm : Km h0 h) (hW : Wx X h H) (hZ : va_S (aA (eB X)) s.heap H locs) (ls : Array Slot) (hl : lv_has ls 4 []) (hE : sX15_isWord_24 F h  = some o) : W p l e (rm 4 85) s m args below meth c H locs 0 0 (MQ below (QI X h0 o.1 o.2) args s 0 0 (aA (eB X))) (F0 m 24 ls []) := by
  refine lv_iconst (v := (0 : Int32)) C.1 C.2.1 dX15_isWord_24 (by decide) ?_
  exact x_iret C rfl (by decide) hW hZ hkm hE dX15_isWord_25
set_option maxRecDepth 20000 in
theorem bX15_isWord_28 {p : Program} {l : Launch} {e : Env} {s : State} {m : MethodId} {args : Array Value} {below : List Frame} {meth : Method} {c : Code} {X : Ec} {h0 : Hp} {o : Int32 × Hp} {F : Nat} (C : Cx X p s m args meth c RX15 cX15_isWord 4 (some .boolean) "isWord") : ∀ (f : Nat) {h : Hp} {x0 : Nat} {x1 : Nat} {x2 : Nat} {x3 : Int32} {H : Heap} {locs : List Loc} (k_x0 : hK h x0 = 15) (k_x1 : hK h x1 = 16) (k_x2 : x2 < 52), Km h0 h → Wx X h H → va_S (aA (eB X)) s.heap H locs → ∀ (ls : Array Slot), lv_has ls 4 [(0, .ref x0), (1, .ref x1), (2, .ref (X.2.2.2.1 x2)), (3, .int x3)] → sX15_isWord_28 F f h x0 x1 x2 x3 = some o → W p l e (rm 4 85) s m args below meth c H locs 0 0 (MQ below (QI X h0 o.1 o.2) args s 0 0 (aA (eB X))) (F0 m 28 ls []) := by
  intro f
  induction f with
  | zero =>
    intro h x0 x1 x2 x3 H locs k_x0 k_x1 k_x2 hkm hW hZ ls hl hE
    rw [sX15_isWord_28] at hE
    cases hE
  | succ f ih =>
    intro h x0 x1 x2 x3 H locs k_x0 k_x1 k_x2 hkm hW hZ ls hl hE
    rw [sX15_isWord_28] at hE
    have hk_28 : ∀ (h : Hp) (x0 : Nat) (x1 : Nat) (x2 : Nat) (x3 : Int32) (H : Heap) (locs : List Loc), hK h x0 = 15 → hK h x1 = 16 → x2 < 52 → Km h0 h → Wx X h H → va_S (aA (eB X)) s.heap H locs → ∀ (ls : Array Slot), lv_has ls 4 [(0, .ref x0), (1, .ref x1), (2, .ref (X.2.2.2.1 x2)), (3, .int x3)] → sX15_isWord_28 F f h x0 x1 x2 x3 = some o → W p l e (rm 4 85) s m args below meth c H locs 0 0 (MQ below (QI X h0 o.1 o.2) args s 0 0 (aA (eB X))) (F0 m 28 ls []) := fun h x0 x1 x2 x3 H locs k_x0 k_x1 k_x2 a b c ls hl hE => ih k_x0 k_x1 k_x2 a b c ls hl hE
    refine lv_iload_n C.1 C.2.1 dX15_isWord_28 rfl (lv_at hl 3 rfl) ?_
    refine lv_aload_n C.1 C.2.1 dX15_isWord_29 rfl (lv_at hl 2 rfl) ?_
    refine x_kI (o := (nI (lB x2).length, h)) (x_runVS (As := []) (rest := [.int x3]) C (ct_J0_length_8abf5 l X k_x2) cw_X15_47 hW hZ k_x2 rfl rfl hl.1 (Nat.le_of_ble_eq_true rfl) rfl dX15_isWord_30 ⟨Nat.le_of_ble_eq_true rfl, Nat.le_of_ble_eq_true rfl⟩ ⟨Nat.le_refl _, Nat.le_refl _⟩) hZ (fun _ _ hW km hZ => ?_)
    refine lv_icmp_ge (tgt := 60) C.1 C.2.1 dX15_isWord_33 (by decide) (fun c_1 => ?_) (fun c_1 => ?_)
    · have hE := br_p hE c_1
      refine lv_iconst (v := (1 : Int32)) C.1 C.2.1 dX15_isWord_60 (by decide) ?_
      exact x_iret C rfl (by decide) hW hZ hkm hE dX15_isWord_61
    · have hE := br_n hE c_1
      refine lv_aload_n C.1 C.2.1 dX15_isWord_36 rfl (lv_at hl 1 rfl) ?_
      refine lv_aload_n C.1 C.2.1 dX15_isWord_37 rfl (lv_at hl 0 rfl) ?_
      refine gf_X15_27 C hW k_x0 dX15_isWord_38 ?_
      refine lv_iload_n C.1 C.2.1 dX15_isWord_41 rfl (lv_at hl 3 rfl) ?_
      refine lv_iadd C.1 C.2.1 dX15_isWord_42 ?_
      obtain ⟨g_2, hE⟩ := gd_e hE
      refine y_bald C hW k_x1 g_2 dX15_isWord_43 ?_
      refine lv_aload_n C.1 C.2.1 dX15_isWord_44 rfl (lv_at hl 2 rfl) ?_
      refine lv_iload_n C.1 C.2.1 dX15_isWord_45 rfl (lv_at hl 3 rfl) ?_
      obtain ⟨g_3, hE⟩ := gd_e hE
      refine x_kI (o := (schr x2 x3, h)) (x_runVS (As := [.int x3]) (rest := [.int (hI h x1 ((hI h x0 7) + x3).toNatClampNeg)]) C (ct_J0_charAt_5068e l X k_x2 g_3) cw_X15_53 hW hZ k_x2 rfl rfl hl.1 (Nat.le_of_ble_eq_true rfl) rfl dX15_isWord_46 ⟨Nat.le_of_ble_eq_true rfl, Nat.le_of_ble_eq_true rfl⟩ ⟨Nat.le_refl _, Nat.le_refl _⟩) hZ (fun _ _ hW km hZ => ?_)
      refine lv_icmp_eq (tgt := 54) C.1 C.2.1 dX15_isWord_49 (by decide) (fun c_4 => ?_) (fun c_4 => ?_)
      · have hE := br_p hE c_4
        obtain ⟨v_5, ev_5, hE⟩ := nm_e2 hE
        refine lv_iinc (v := v_5) (lv' := [(3, .int v_5), (0, .ref x0), (1, .ref x1), (2, .ref (X.2.2.2.1 x2))]) C.1 C.2.1 dX15_isWord_54 hl (k := 3) rfl (by rw [ev_5]; rfl) (by decide) rfl (fun ls hl => ?_)
        refine lv_goto (tgt := 28) C.1 C.2.1 dX15_isWord_57 (by decide) ?_
        exact hk_28 _ _ _ _ _ _ _ k_x0 k_x1 k_x2 hkm hW hZ _ (lv_sub hl [1, 2, 3, 0] rfl) hE
      · have hE := br_n hE c_4
        refine lv_iconst (v := (0 : Int32)) C.1 C.2.1 dX15_isWord_52 (by decide) ?_
        exact x_iret C rfl (by decide) hW hZ hkm hE dX15_isWord_53
set_option maxRecDepth 20000 in
theorem ct_X15_isWord (l : Launch) (X : Ec) (F : Nat) {h : Hp} {x0 : Nat} {x1 : Nat} {x2 : Nat} {o : Int32 × Hp} (k_x0 : hK h x0 = 15) (k_x1 : hK h x1 = 16) (k_x2 : x2 < 52) (hE : sX15_isWord F h x0 x1 x2 = some o) : MetI l yX15_isWord cX15_isWord 4 (some .boolean) 4 85 X [.ref x0, .ref x1, .ref (X.2.2.2.1 x2)] h o := by
  refine x_met (by decide) (Nat.le_of_ble_eq_true rfl) ?_
  intro p e s m below meth c ls C hl hW hZ
  have hl : lv_has ls 4 [(0, .ref x0), (1, .ref x1), (2, .ref (X.2.2.2.1 x2))] := hl
  have hkm : Km h h := Km.rf h
  refine lv_aload_n C.1 C.2.1 dX15_isWord_0 rfl (lv_at hl 0 rfl) ?_
  refine gf_X15_34 C hW k_x0 dX15_isWord_1 ?_
  refine lv_iconst (v := (1 : Int32)) C.1 C.2.1 dX15_isWord_4 (by decide) ?_
  refine lv_icmp_ne (tgt := 24) C.1 C.2.1 dX15_isWord_5 (by decide) (fun c_1 => ?_) (fun c_1 => ?_)
  · have hE := br_n hE c_1
    exact bX15_isWord_24 C hkm hW hZ _ (lv_sub hl [] rfl) hE
  · have hE := br_p hE c_1
    refine lv_aload_n C.1 C.2.1 dX15_isWord_8 rfl (lv_at hl 0 rfl) ?_
    refine gf_X15_24 C hW k_x0 dX15_isWord_9 ?_
    refine lv_aload_n C.1 C.2.1 dX15_isWord_12 rfl (lv_at hl 0 rfl) ?_
    refine gf_X15_27 C hW k_x0 dX15_isWord_13 ?_
    refine lv_isub C.1 C.2.1 dX15_isWord_16 ?_
    refine lv_aload_n C.1 C.2.1 dX15_isWord_17 rfl (lv_at hl 2 rfl) ?_
    refine x_kI (o := (nI (lB x2).length, h)) (x_runVS (As := []) (rest := [.int ((hI h x0 8) - (hI h x0 7))]) C (ct_J0_length_8abf5 l X k_x2) cw_X15_47 hW hZ k_x2 rfl rfl hl.1 (Nat.le_of_ble_eq_true rfl) rfl dX15_isWord_18 ⟨Nat.le_of_ble_eq_true rfl, Nat.le_of_ble_eq_true rfl⟩ ⟨Nat.le_refl _, Nat.le_refl _⟩) hZ (fun _ _ hW km hZ => ?_)
    refine lv_icmp_eq (tgt := 26) C.1 C.2.1 dX15_isWord_21 (by decide) (fun c_2 => ?_) (fun c_2 => ?_)
    · have hE := br_p hE c_2
      refine lv_iconst (v := (0 : Int32)) C.1 C.2.1 dX15_isWord_26 (by decide) ?_
      refine lv_istore_n (lv' := [(3, .int (0 : Int32)), (0, .ref x0), (1, .ref x1), (2, .ref (X.2.2.2.1 x2))]) C.1 C.2.1 dX15_isWord_27 rfl hl (by decide) rfl (fun ls hl => ?_)
      exact bX15_isWord_28 C F k_x0 k_x1 k_x2 hkm hW hZ _ (lv_sub hl [1, 2, 3, 0] rfl) hE
    · have hE := br_n hE c_2
      exact bX15_isWord_24 C hkm hW hZ _ (lv_sub hl [] rfl) hE
theorem dX15_isNumber_0 : decode cX15_isNumber 0 = .ok (.aload_n 0, 1) := by decide +kernel
theorem dX15_isNumber_1 : decode cX15_isNumber 1 = .ok (.getfield 34, 3) := by decide +kernel
theorem dX15_isNumber_4 : decode cX15_isNumber 4 = .ok (.iconst 2, 1) := by decide +kernel
theorem dX15_isNumber_5 : decode cX15_isNumber 5 = .ok (.if_icmp .ne 23, 3) := by decide +kernel
theorem dX15_isNumber_8 : decode cX15_isNumber 8 = .ok (.aload_n 0, 1) := by decide +kernel
theorem dX15_isNumber_9 : decode cX15_isNumber 9 = .ok (.getfield 44, 3) := by decide +kernel
theorem dX15_isNumber_12 : decode cX15_isNumber 12 = .ok (.iload_n 1, 1) := by decide +kernel
theorem dX15_isNumber_13 : decode cX15_isNumber 13 = .ok (.if_icmp .lt 15, 3) := by decide +kernel
theorem dX15_isNumber_16 : decode cX15_isNumber 16 = .ok (.aload_n 0, 1) := by decide +kernel
theorem dX15_isNumber_17 : decode cX15_isNumber 17 = .ok (.getfield 44, 3) := by decide +kernel
theorem dX15_isNumber_20 : decode cX15_isNumber 20 = .ok (.iload_n 2, 1) := by decide +kernel
theorem dX15_isNumber_21 : decode cX15_isNumber 21 = .ok (.if_icmp .gt 7, 3) := by decide +kernel
theorem dX15_isNumber_24 : decode cX15_isNumber 24 = .ok (.iconst 1, 1) := by decide +kernel
theorem dX15_isNumber_25 : decode cX15_isNumber 25 = .ok (.goto 4, 3) := by decide +kernel
theorem dX15_isNumber_28 : decode cX15_isNumber 28 = .ok (.iconst 0, 1) := by decide +kernel
theorem dX15_isNumber_29 : decode cX15_isNumber 29 = .ok (.ireturn, 1) := by decide +kernel
def sX15_isNumber_29 (h : Hp) (t0 : Int32) : Option (Int32 × Hp) := gd (t0 &&& 1 = t0) <| some (t0, h)
def sX15_isNumber_28 (h : Hp) : Option (Int32 × Hp) := sX15_isNumber_29  h (0 : Int32)
def sX15_isNumber (h : Hp) (x0 : Nat) (x1 : Int32) (x2 : Int32) : Option (Int32 × Hp) := br ((hI h x0 6) = (2 : Int32)) (br ((hI h x0 9) < x1) (sX15_isNumber_28  h ) (br (x2 < (hI h x0 9)) (sX15_isNumber_28  h ) (sX15_isNumber_29  h (1 : Int32)))) (sX15_isNumber_28  h )
theorem moX15_isNumber_29 {o : Int32 × Hp} {h : Hp} {t0 : Int32} (hE : sX15_isNumber_29 h  t0 = some o) : Le h o.2 := by
  obtain ⟨g_1, hE⟩ := gd_e hE
  cases hE
  exact Le.rf _
theorem moX15_isNumber_28 {o : Int32 × Hp} {h : Hp} (hE : sX15_isNumber_28 h  = some o) : Le h o.2 := by
  exact moX15_isNumber_29 hE
theorem moX15_isNumber {o : Int32 × Hp} {h : Hp} {x0 : Nat} {x1 : Int32} {x2 : Int32} (hE : sX15_isNumber h x0 x1 x2 = some o) : Le h o.2 := by
  rcases br_e hE with ⟨_, hE⟩ | ⟨_, hE⟩
  · rcases br_e hE with ⟨_, hE⟩ | ⟨_, hE⟩
    · exact moX15_isNumber_28 hE
    · rcases br_e hE with ⟨_, hE⟩ | ⟨_, hE⟩
      · exact moX15_isNumber_28 hE
      · exact moX15_isNumber_29 hE
  · exact moX15_isNumber_28 hE
set_option maxRecDepth 20000 in
theorem bX15_isNumber_29 {p : Program} {l : Launch} {e : Env} {s : State} {m : MethodId} {args : Array Value} {below : List Frame} {meth : Method} {c : Code} {X : Ec} {h0 : Hp} {o : Int32 × Hp} (C : Cx X p s m args meth c RX15 cX15_isNumber 3 (some .boolean) "isNumber") {h : Hp} {t0 : Int32} {H : Heap} {locs : List Loc} (hkm : Km h0 h) (hW : Wx X h H) (hZ : va_S (aA (eB X)) s.heap H locs) (ls : Array Slot) (hl : lv_has ls 3 []) (hE : sX15_isNumber_29 h  t0 = some o) : W p l e (rm 0 0) s m args below meth c H locs 0 0 (MQ below (QI X h0 o.1 o.2) args s 0 0 (aA (eB X))) (F0 m 29 ls [.int t0]) := by
  obtain ⟨g_1, hE⟩ := gd_e hE
  exact x_iret C rfl (narB g_1) hW hZ hkm hE dX15_isNumber_29
set_option maxRecDepth 20000 in
theorem bX15_isNumber_28 {p : Program} {l : Launch} {e : Env} {s : State} {m : MethodId} {args : Array Value} {below : List Frame} {meth : Method} {c : Code} {X : Ec} {h0 : Hp} {o : Int32 × Hp} (C : Cx X p s m args meth c RX15 cX15_isNumber 3 (some .boolean) "isNumber") {h : Hp} {H : Heap} {locs : List Loc} (hkm : Km h0 h) (hW : Wx X h H) (hZ : va_S (aA (eB X)) s.heap H locs) (ls : Array Slot) (hl : lv_has ls 3 []) (hE : sX15_isNumber_28 h  = some o) : W p l e (rm 0 0) s m args below meth c H locs 0 0 (MQ below (QI X h0 o.1 o.2) args s 0 0 (aA (eB X))) (F0 m 28 ls []) := by
  refine lv_iconst (v := (0 : Int32)) C.1 C.2.1 dX15_isNumber_28 (by decide) ?_
  exact bX15_isNumber_29 C hkm hW hZ _ (lv_sub hl [] rfl) hE
set_option maxRecDepth 20000 in
theorem ct_X15_isNumber (l : Launch) (X : Ec) {h : Hp} {x0 : Nat} {x1 : Int32} {x2 : Int32} {o : Int32 × Hp} (k_x0 : hK h x0 = 15) (hE : sX15_isNumber h x0 x1 x2 = some o) : MetI l yX15_isNumber cX15_isNumber 3 (some .boolean) 0 0 X [.ref x0, .int x1, .int x2] h o := by
  refine x_met (by decide) (Nat.le_of_ble_eq_true rfl) ?_
  intro p e s m below meth c ls C hl hW hZ
  have hl : lv_has ls 3 [(0, .ref x0), (1, .int x1), (2, .int x2)] := hl
  have hkm : Km h h := Km.rf h
  refine lv_aload_n C.1 C.2.1 dX15_isNumber_0 rfl (lv_at hl 0 rfl) ?_
  refine gf_X15_34 C hW k_x0 dX15_isNumber_1 ?_
  refine lv_iconst (v := (2 : Int32)) C.1 C.2.1 dX15_isNumber_4 (by decide) ?_
  refine lv_icmp_ne (tgt := 28) C.1 C.2.1 dX15_isNumber_5 (by decide) (fun c_1 => ?_) (fun c_1 => ?_)
  · have hE := br_n hE c_1
    exact bX15_isNumber_28 C hkm hW hZ _ (lv_sub hl [] rfl) hE
  · have hE := br_p hE c_1
    refine lv_aload_n C.1 C.2.1 dX15_isNumber_8 rfl (lv_at hl 0 rfl) ?_
    refine gf_X15_44 C hW k_x0 dX15_isNumber_9 ?_
    refine lv_iload_n C.1 C.2.1 dX15_isNumber_12 rfl (lv_at hl 1 rfl) ?_
    refine lv_icmp_lt (tgt := 28) C.1 C.2.1 dX15_isNumber_13 (by decide) (fun c_2 => ?_) (fun c_2 => ?_)
    · have hE := br_p hE c_2
      exact bX15_isNumber_28 C hkm hW hZ _ (lv_sub hl [] rfl) hE
    · have hE := br_n hE c_2
      refine lv_aload_n C.1 C.2.1 dX15_isNumber_16 rfl (lv_at hl 0 rfl) ?_
      refine gf_X15_44 C hW k_x0 dX15_isNumber_17 ?_
      refine lv_iload_n C.1 C.2.1 dX15_isNumber_20 rfl (lv_at hl 2 rfl) ?_
      refine lv_icmp_gt (tgt := 28) C.1 C.2.1 dX15_isNumber_21 (by decide) (fun c_3 => ?_) (fun c_3 => ?_)
      · have hE := br_p hE c_3
        exact bX15_isNumber_28 C hkm hW hZ _ (lv_sub hl [] rfl) hE
      · have hE := br_n hE c_3
        refine lv_iconst (v := (1 : Int32)) C.1 C.2.1 dX15_isNumber_24 (by decide) ?_
        refine lv_goto (tgt := 29) C.1 C.2.1 dX15_isNumber_25 (by decide) ?_
        exact bX15_isNumber_29 C hkm hW hZ _ (lv_sub hl [] rfl) hE
theorem dX15_isSign_0 : decode cX15_isSign 0 = .ok (.aload_n 0, 1) := by decide +kernel
theorem dX15_isSign_1 : decode cX15_isSign 1 = .ok (.getfield 34, 3) := by decide +kernel
theorem dX15_isSign_4 : decode cX15_isSign 4 = .ok (.iconst 3, 1) := by decide +kernel
theorem dX15_isSign_5 : decode cX15_isSign 5 = .ok (.if_icmp .ne 17, 3) := by decide +kernel
theorem dX15_isSign_8 : decode cX15_isSign 8 = .ok (.aload_n 1, 1) := by decide +kernel
theorem dX15_isSign_9 : decode cX15_isSign 9 = .ok (.aload_n 0, 1) := by decide +kernel
theorem dX15_isSign_10 : decode cX15_isSign 10 = .ok (.getfield 27, 3) := by decide +kernel
theorem dX15_isSign_13 : decode cX15_isSign 13 = .ok (.baload, 1) := by decide +kernel
theorem dX15_isSign_14 : decode cX15_isSign 14 = .ok (.iload_n 2, 1) := by decide +kernel
theorem dX15_isSign_15 : decode cX15_isSign 15 = .ok (.if_icmp .ne 7, 3) := by decide +kernel
theorem dX15_isSign_18 : decode cX15_isSign 18 = .ok (.iconst 1, 1) := by decide +kernel
theorem dX15_isSign_19 : decode cX15_isSign 19 = .ok (.goto 4, 3) := by decide +kernel
theorem dX15_isSign_22 : decode cX15_isSign 22 = .ok (.iconst 0, 1) := by decide +kernel
theorem dX15_isSign_23 : decode cX15_isSign 23 = .ok (.ireturn, 1) := by decide +kernel
def sX15_isSign_23 (h : Hp) (t0 : Int32) : Option (Int32 × Hp) := gd (t0 &&& 1 = t0) <| some (t0, h)
def sX15_isSign_22 (h : Hp) : Option (Int32 × Hp) := sX15_isSign_23  h (0 : Int32)
def sX15_isSign (h : Hp) (x0 : Nat) (x1 : Nat) (x2 : Int32) : Option (Int32 × Hp) := br ((hI h x0 6) = (3 : Int32)) (gd (inB (hI h x0 7) (hN h x1)) <| br ((hI h x1 (hI h x0 7).toNatClampNeg) = x2) (sX15_isSign_23  h (1 : Int32)) (sX15_isSign_22  h )) (sX15_isSign_22  h )
theorem moX15_isSign_23 {o : Int32 × Hp} {h : Hp} {t0 : Int32} (hE : sX15_isSign_23 h  t0 = some o) : Le h o.2 := by
  obtain ⟨g_1, hE⟩ := gd_e hE
  cases hE
  exact Le.rf _
theorem moX15_isSign_22 {o : Int32 × Hp} {h : Hp} (hE : sX15_isSign_22 h  = some o) : Le h o.2 := by
  exact moX15_isSign_23 hE
theorem moX15_isSign {o : Int32 × Hp} {h : Hp} {x0 : Nat} {x1 : Nat} {x2 : Int32} (hE : sX15_isSign h x0 x1 x2 = some o) : Le h o.2 := by
  rcases br_e hE with ⟨_, hE⟩ | ⟨_, hE⟩
  · obtain ⟨g_2, hE⟩ := gd_e hE
    rcases br_e hE with ⟨_, hE⟩ | ⟨_, hE⟩
    · exact moX15_isSign_23 hE
    · exact moX15_isSign_22 hE
  · exact moX15_isSign_22 hE
set_option maxRecDepth 20000 in
theorem bX15_isSign_23 {p : Program} {l : Launch} {e : Env} {s : State} {m : MethodId} {args : Array Value} {below : List Frame} {meth : Method} {c : Code} {X : Ec} {h0 : Hp} {o : Int32 × Hp} (C : Cx X p s m args meth c RX15 cX15_isSign 3 (some .boolean) "isSign") {h : Hp} {t0 : Int32} {H : Heap} {locs : List Loc} (hkm : Km h0 h) (hW : Wx X h H) (hZ : va_S (aA (eB X)) s.heap H locs) (ls : Array Slot) (hl : lv_has ls 3 []) (hE : sX15_isSign_23 h  t0 = some o) : W p l e (rm 0 0) s m args below meth c H locs 0 0 (MQ below (QI X h0 o.1 o.2) args s 0 0 (aA (eB X))) (F0 m 23 ls [.int t0]) := by
  obtain ⟨g_1, hE⟩ := gd_e hE
  exact x_iret C rfl (narB g_1) hW hZ hkm hE dX15_isSign_23
set_option maxRecDepth 20000 in
theorem bX15_isSign_22 {p : Program} {l : Launch} {e : Env} {s : State} {m : MethodId} {args : Array Value} {below : List Frame} {meth : Method} {c : Code} {X : Ec} {h0 : Hp} {o : Int32 × Hp} (C : Cx X p s m args meth c RX15 cX15_isSign 3 (some .boolean) "isSign") {h : Hp} {H : Heap} {locs : List Loc} (hkm : Km h0 h) (hW : Wx X h H) (hZ : va_S (aA (eB X)) s.heap H locs) (ls : Array Slot) (hl : lv_has ls 3 []) (hE : sX15_isSign_22 h  = some o) : W p l e (rm 0 0) s m args below meth c H locs 0 0 (MQ below (QI X h0 o.1 o.2) args s 0 0 (aA (eB X))) (F0 m 22 ls []) := by
  refine lv_iconst (v := (0 : Int32)) C.1 C.2.1 dX15_isSign_22 (by decide) ?_
  exact bX15_isSign_23 C hkm hW hZ _ (lv_sub hl [] rfl) hE
set_option maxRecDepth 20000 in
theorem ct_X15_isSign (l : Launch) (X : Ec) {h : Hp} {x0 : Nat} {x1 : Nat} {x2 : Int32} {o : Int32 × Hp} (k_x0 : hK h x0 = 15) (k_x1 : hK h x1 = 16) (hE : sX15_isSign h x0 x1 x2 = some o) : MetI l yX15_isSign cX15_isSign 3 (some .boolean) 0 0 X [.ref x0, .ref x1, .int x2] h o := by
  refine x_met (by decide) (Nat.le_of_ble_eq_true rfl) ?_
  intro p e s m below meth c ls C hl hW hZ
  have hl : lv_has ls 3 [(0, .ref x0), (1, .ref x1), (2, .int x2)] := hl
  have hkm : Km h h := Km.rf h
  refine lv_aload_n C.1 C.2.1 dX15_isSign_0 rfl (lv_at hl 0 rfl) ?_
  refine gf_X15_34 C hW k_x0 dX15_isSign_1 ?_
  refine lv_iconst (v := (3 : Int32)) C.1 C.2.1 dX15_isSign_4 (by decide) ?_
  refine lv_icmp_ne (tgt := 22) C.1 C.2.1 dX15_isSign_5 (by decide) (fun c_1 => ?_) (fun c_1 => ?_)
  · have hE := br_n hE c_1
    exact bX15_isSign_22 C hkm hW hZ _ (lv_sub hl [] rfl) hE
  · have hE := br_p hE c_1
    refine lv_aload_n C.1 C.2.1 dX15_isSign_8 rfl (lv_at hl 1 rfl) ?_
    refine lv_aload_n C.1 C.2.1 dX15_isSign_9 rfl (lv_at hl 0 rfl) ?_
    refine gf_X15_27 C hW k_x0 dX15_isSign_10 ?_
    obtain ⟨g_2, hE⟩ := gd_e hE
    refine y_bald C hW k_x1 g_2 dX15_isSign_13 ?_
    refine lv_iload_n C.1 C.2.1 dX15_isSign_14 rfl (lv_at hl 2 rfl) ?_
    refine lv_icmp_ne (tgt := 22) C.1 C.2.1 dX15_isSign_15 (by decide) (fun c_3 => ?_) (fun c_3 => ?_)
    · have hE := br_n hE c_3
      exact bX15_isSign_22 C hkm hW hZ _ (lv_sub hl [] rfl) hE
    · have hE := br_p hE c_3
      refine lv_iconst (v := (1 : Int32)) C.1 C.2.1 dX15_isSign_18 (by decide) ?_
      refine lv_goto (tgt := 23) C.1 C.2.1 dX15_isSign_19 (by decide) ?_
      exact bX15_isSign_23 C hkm hW hZ _ (lv_sub hl [] rfl) hE
theorem m_21 : Cond.initialized RX14 ∈ W0 := w0_in (List.mem_append_right _ (List.mem_of_getElem? (i := 21) (by decide +kernel))) rfl
theorem m_2055 : Cond.methodLink RX15 61 yX14_find ∈ W0 := w0_in (List.mem_append_right _ (List.mem_of_getElem? (i := 2055) (by decide +kernel))) rfl
theorem m_2056 : Cond.instanceMethod yX14_find ∈ W0 := w0_in (List.mem_append_right _ (List.mem_of_getElem? (i := 2056) (by decide +kernel))) rfl
theorem m_2057 : Cond.selects RX14 yX14_find yX14_find ∈ W0 := w0_in (List.mem_append_right _ (List.mem_of_getElem? (i := 2057) (by decide +kernel))) rfl
theorem m_2058 : Cond.code yX14_find cX14_find 3 (some .int) ∈ W0 := w0_in (List.mem_append_right _ (List.mem_of_getElem? (i := 2058) (by decide +kernel))) rfl
theorem m_2137 : Cond.fieldLink RX15 57 (TX15 5).1 (TX15 5).2.1 (TX15 5).2.2.1 ∈ W0 := w0_in (List.mem_append_right _ (List.mem_of_getElem? (i := 2137) (by decide +kernel))) rfl
section
variable {p : Program} {l : Launch} {e : Env} {R : Room} {s : State} {m : MethodId} {args : Array Value} {below : List Frame} {meth : Method} {c : Code} {H : Heap} {locs : List Loc} {cells slots : Nat} {Q : State → Prop}
variable {cc : ByteArray} {pc : Nat} {ls : Array Slot} {rest : List Value} {X : Ec} {h h1 : Hp} {nL : Nat} {rt : Option FieldType} {mn : String}
theorem gf_X15_57 {a r : Nat} (C : Cx X p s m args meth c RX15 cc nL rt mn) (hW : Wx X h H) (ha : hK h a = 15) (hr : hR h a 5 = some r) (hdg : decode cc pc = .ok (.getfield 57, 3)) (kk : hK h r = 14 → W p l e R s m args below meth c H locs cells slots Q (F0 m (pc + 3) ls (.ref r :: rest))) : W p l e R s m args below meth c H locs cells slots Q (F0 m pc ls (.ref a :: rest)) :=
  y_getr C hW ha i_X15 (by decide) rfl (by decide) m_2137 rfl rfl hr hdg kk
end
theorem cw_X15_61 : cwd RX15 61 yX14_find cX14_find 3 (some .int) false 1 := ⟨m_2058, m_2055, m_21, ⟨m_2056, m_2057⟩, by decide, by decide, by decide +kernel⟩
theorem dX15_manAt_0 : decode cX15_manAt 0 = .ok (.aload_n 0, 1) := by decide +kernel
theorem dX15_manAt_1 : decode cX15_manAt 1 = .ok (.getfield 34, 3) := by decide +kernel
theorem dX15_manAt_4 : decode cX15_manAt 4 = .ok (.iconst 1, 1) := by decide +kernel
theorem dX15_manAt_5 : decode cX15_manAt 5 = .ok (.if_icmp .ne 32, 3) := by decide +kernel
theorem dX15_manAt_8 : decode cX15_manAt 8 = .ok (.aload_n 0, 1) := by decide +kernel
theorem dX15_manAt_9 : decode cX15_manAt 9 = .ok (.getfield 24, 3) := by decide +kernel
theorem dX15_manAt_12 : decode cX15_manAt 12 = .ok (.aload_n 0, 1) := by decide +kernel
theorem dX15_manAt_13 : decode cX15_manAt 13 = .ok (.getfield 27, 3) := by decide +kernel
theorem dX15_manAt_16 : decode cX15_manAt 16 = .ok (.iconst 1, 1) := by decide +kernel
theorem dX15_manAt_17 : decode cX15_manAt 17 = .ok (.iadd, 1) := by decide +kernel
theorem dX15_manAt_18 : decode cX15_manAt 18 = .ok (.if_icmp .ne 19, 3) := by decide +kernel
theorem dX15_manAt_21 : decode cX15_manAt 21 = .ok (.aload_n 0, 1) := by decide +kernel
theorem dX15_manAt_22 : decode cX15_manAt 22 = .ok (.getfield 57, 3) := by decide +kernel
theorem dX15_manAt_25 : decode cX15_manAt 25 = .ok (.aload_n 1, 1) := by decide +kernel
theorem dX15_manAt_26 : decode cX15_manAt 26 = .ok (.aload_n 0, 1) := by decide +kernel
theorem dX15_manAt_27 : decode cX15_manAt 27 = .ok (.getfield 27, 3) := by decide +kernel
theorem dX15_manAt_30 : decode cX15_manAt 30 = .ok (.baload, 1) := by decide +kernel
theorem dX15_manAt_31 : decode cX15_manAt 31 = .ok (.invokevirtual 61, 3) := by decide +kernel
theorem dX15_manAt_34 : decode cX15_manAt 34 = .ok (.goto 4, 3) := by decide +kernel
theorem dX15_manAt_37 : decode cX15_manAt 37 = .ok (.iconst (-1), 1) := by decide +kernel
theorem dX15_manAt_38 : decode cX15_manAt 38 = .ok (.ireturn, 1) := by decide +kernel
def sX15_manAt_38 (F : Nat) (h : Hp) (t0 : Int32) : Option (Int32 × Hp) := some (t0, h)
def sX15_manAt_37 (F : Nat) (h : Hp) : Option (Int32 × Hp) := sX15_manAt_38 F h (-1 : Int32)
def sX15_manAt (F : Nat) (h : Hp) (x0 : Nat) (x1 : Nat) : Option (Int32 × Hp) := br ((hI h x0 6) = (1 : Int32)) (br ((hI h x0 8) = ((hI h x0 7) + (1 : Int32))) (cl (hR h x0 5) fun r_3 => gd (inB (hI h x0 7) (hN h x1)) <| cl (sX14_find F h r_3 (hI h x1 (hI h x0 7).toNatClampNeg)) fun o_5 => sX15_manAt_38 F o_5.2 o_5.1) (sX15_manAt_37 F h )) (sX15_manAt_37 F h )
theorem moX15_manAt_38 {o : Int32 × Hp} {F : Nat} {h : Hp} {t0 : Int32} (hE : sX15_manAt_38 F h  t0 = some o) : Le h o.2 := by
  cases hE
  exact Le.rf _
theorem moX15_manAt_37 {o : Int32 × Hp} {F : Nat} {h : Hp} (hE : sX15_manAt_37 F h  = some o) : Le h o.2 := by
  exact moX15_manAt_38 hE
theorem moX15_manAt {o : Int32 × Hp} {F : Nat} {h : Hp} {x0 : Nat} {x1 : Nat} (hE : sX15_manAt F h x0 x1 = some o) : Le h o.2 := by
  rcases br_e hE with ⟨_, hE⟩ | ⟨_, hE⟩
  · rcases br_e hE with ⟨_, hE⟩ | ⟨_, hE⟩
    · obtain ⟨r_3, er_3, hE⟩ := cl_e hE
      obtain ⟨g_4, hE⟩ := gd_e hE
      obtain ⟨o_5, eo_5, hE⟩ := cl_e hE
      refine (moX14_find eo_5).tr ?_
      exact moX15_manAt_38 hE
    · exact moX15_manAt_37 hE
  · exact moX15_manAt_37 hE
set_option maxRecDepth 20000 in
theorem bX15_manAt_38 {p : Program} {l : Launch} {e : Env} {s : State} {m : MethodId} {args : Array Value} {below : List Frame} {meth : Method} {c : Code} {X : Ec} {h0 : Hp} {o : Int32 × Hp} {F : Nat} (C : Cx X p s m args meth c RX15 cX15_manAt 2 (some .int) "manAt") {h : Hp} {t0 : Int32} {H : Heap} {locs : List Loc} (hkm : Km h0 h) (hW : Wx X h H) (hZ : va_S (aA (eB X)) s.heap H locs) (ls : Array Slot) (hl : lv_has ls 2 []) (hE : sX15_manAt_38 F h  t0 = some o) : W p l e (rm 1 22) s m args below meth c H locs 0 0 (MQ below (QI X h0 o.1 o.2) args s 0 0 (aA (eB X))) (F0 m 38 ls [.int t0]) := by
  exact x_iret C rfl rfl hW hZ hkm hE dX15_manAt_38
set_option maxRecDepth 20000 in
theorem bX15_manAt_37 {p : Program} {l : Launch} {e : Env} {s : State} {m : MethodId} {args : Array Value} {below : List Frame} {meth : Method} {c : Code} {X : Ec} {h0 : Hp} {o : Int32 × Hp} {F : Nat} (C : Cx X p s m args meth c RX15 cX15_manAt 2 (some .int) "manAt") {h : Hp} {H : Heap} {locs : List Loc} (hkm : Km h0 h) (hW : Wx X h H) (hZ : va_S (aA (eB X)) s.heap H locs) (ls : Array Slot) (hl : lv_has ls 2 []) (hE : sX15_manAt_37 F h  = some o) : W p l e (rm 1 22) s m args below meth c H locs 0 0 (MQ below (QI X h0 o.1 o.2) args s 0 0 (aA (eB X))) (F0 m 37 ls []) := by
  refine lv_iconst (v := (-1 : Int32)) C.1 C.2.1 dX15_manAt_37 (by decide) ?_
  exact bX15_manAt_38 C hkm hW hZ _ (lv_sub hl [] rfl) hE
set_option maxRecDepth 20000 in
theorem ct_X15_manAt (l : Launch) (X : Ec) (F : Nat) {h : Hp} {x0 : Nat} {x1 : Nat} {o : Int32 × Hp} (k_x0 : hK h x0 = 15) (k_x1 : hK h x1 = 16) (hE : sX15_manAt F h x0 x1 = some o) : MetI l yX15_manAt cX15_manAt 2 (some .int) 1 22 X [.ref x0, .ref x1] h o := by
  refine x_met (by decide) (Nat.le_of_ble_eq_true rfl) ?_
  intro p e s m below meth c ls C hl hW hZ
  have hl : lv_has ls 2 [(0, .ref x0), (1, .ref x1)] := hl
  have hkm : Km h h := Km.rf h
  refine lv_aload_n C.1 C.2.1 dX15_manAt_0 rfl (lv_at hl 0 rfl) ?_
  refine gf_X15_34 C hW k_x0 dX15_manAt_1 ?_
  refine lv_iconst (v := (1 : Int32)) C.1 C.2.1 dX15_manAt_4 (by decide) ?_
  refine lv_icmp_ne (tgt := 37) C.1 C.2.1 dX15_manAt_5 (by decide) (fun c_1 => ?_) (fun c_1 => ?_)
  · have hE := br_n hE c_1
    exact bX15_manAt_37 C hkm hW hZ _ (lv_sub hl [] rfl) hE
  · have hE := br_p hE c_1
    refine lv_aload_n C.1 C.2.1 dX15_manAt_8 rfl (lv_at hl 0 rfl) ?_
    refine gf_X15_24 C hW k_x0 dX15_manAt_9 ?_
    refine lv_aload_n C.1 C.2.1 dX15_manAt_12 rfl (lv_at hl 0 rfl) ?_
    refine gf_X15_27 C hW k_x0 dX15_manAt_13 ?_
    refine lv_iconst (v := (1 : Int32)) C.1 C.2.1 dX15_manAt_16 (by decide) ?_
    refine lv_iadd C.1 C.2.1 dX15_manAt_17 ?_
    refine lv_icmp_ne (tgt := 37) C.1 C.2.1 dX15_manAt_18 (by decide) (fun c_2 => ?_) (fun c_2 => ?_)
    · have hE := br_n hE c_2
      exact bX15_manAt_37 C hkm hW hZ _ (lv_sub hl [] rfl) hE
    · have hE := br_p hE c_2
      refine lv_aload_n C.1 C.2.1 dX15_manAt_21 rfl (lv_at hl 0 rfl) ?_
      obtain ⟨r_3, er_3, hE⟩ := cl_e hE
      refine gf_X15_57 C hW k_x0 er_3 dX15_manAt_22 (fun k_r_3 => ?_)
      refine lv_aload_n C.1 C.2.1 dX15_manAt_25 rfl (lv_at hl 1 rfl) ?_
      refine lv_aload_n C.1 C.2.1 dX15_manAt_26 rfl (lv_at hl 0 rfl) ?_
      refine gf_X15_27 C hW k_x0 dX15_manAt_27 ?_
      obtain ⟨g_4, hE⟩ := gd_e hE
      refine y_bald C hW k_x1 g_4 dX15_manAt_30 ?_
      obtain ⟨o_5, eo_5, hE⟩ := cl_e hE
      refine x_kI (o := o_5) (z_runV (As := [.int (hI h x1 (hI h x0 7).toNatClampNeg)]) (rest := []) C (ct_X14_find l X F k_r_3 eo_5) cw_X15_61 hW hZ k_r_3 (by decide) rfl rfl rfl hl.1 (Nat.le_of_ble_eq_true rfl) rfl dX15_manAt_31 ⟨Nat.le_of_ble_eq_true rfl, Nat.le_of_ble_eq_true rfl⟩ ⟨Nat.le_refl _, Nat.le_refl _⟩) hZ (fun _ _ hW km hZ => ?_)
      replace hkm := hkm.tr km
      replace k_x0 := km.at k_x0 (by decide)
      replace k_x1 := km.at k_x1 (by decide)
      refine lv_goto (tgt := 38) C.1 C.2.1 dX15_manAt_34 (by decide) ?_
      exact bX15_manAt_38 C hkm hW hZ _ (lv_sub hl [] rfl) hE
theorem ms_116 : Cond.selects RX15 yX15_isWord yX15_isWord ∈ W0 := w0_in (List.mem_append_left _ (List.mem_of_getElem? (i := 116) (by decide +kernel))) rfl
theorem m_2030 : Cond.methodLink RX15 80 yX15_isWord ∈ W0 := w0_in (List.mem_append_right _ (List.mem_of_getElem? (i := 2030) (by decide +kernel))) rfl
theorem m_2032 : Cond.instanceMethod yX15_isWord ∈ W0 := w0_in (List.mem_append_right _ (List.mem_of_getElem? (i := 2032) (by decide +kernel))) rfl
theorem m_2033 : Cond.code yX15_isWord cX15_isWord 4 (some .boolean) ∈ W0 := w0_in (List.mem_append_right _ (List.mem_of_getElem? (i := 2033) (by decide +kernel))) rfl
theorem cw_X15_80 : cwd RX15 80 yX15_isWord cX15_isWord 4 (some .boolean) false 2 := ⟨m_2033, m_2030, m_20, ⟨m_2032, ms_116⟩, by decide, by decide, by decide +kernel⟩
theorem dX15_flagAt_0 : decode cX15_flagAt 0 = .ok (.aload_n 0, 1) := by decide +kernel
theorem dX15_flagAt_1 : decode cX15_flagAt 1 = .ok (.aload_n 1, 1) := by decide +kernel
theorem dX15_flagAt_2 : decode cX15_flagAt 2 = .ok (.ldc 183, 2) := by decide +kernel
theorem dX15_flagAt_4 : decode cX15_flagAt 4 = .ok (.invokevirtual 80, 3) := by decide +kernel
theorem dX15_flagAt_7 : decode cX15_flagAt 7 = .ok (.ifCond .eq 7, 3) := by decide +kernel
theorem dX15_flagAt_10 : decode cX15_flagAt 10 = .ok (.iconst 1, 1) := by decide +kernel
theorem dX15_flagAt_11 : decode cX15_flagAt 11 = .ok (.goto 77, 3) := by decide +kernel
theorem dX15_flagAt_14 : decode cX15_flagAt 14 = .ok (.aload_n 0, 1) := by decide +kernel
theorem dX15_flagAt_15 : decode cX15_flagAt 15 = .ok (.aload_n 1, 1) := by decide +kernel
theorem dX15_flagAt_16 : decode cX15_flagAt 16 = .ok (.ldc 185, 2) := by decide +kernel
theorem dX15_flagAt_18 : decode cX15_flagAt 18 = .ok (.invokevirtual 80, 3) := by decide +kernel
theorem dX15_flagAt_21 : decode cX15_flagAt 21 = .ok (.ifCond .eq 7, 3) := by decide +kernel
theorem dX15_flagAt_24 : decode cX15_flagAt 24 = .ok (.iconst 2, 1) := by decide +kernel
theorem dX15_flagAt_25 : decode cX15_flagAt 25 = .ok (.goto 63, 3) := by decide +kernel
theorem dX15_flagAt_28 : decode cX15_flagAt 28 = .ok (.aload_n 0, 1) := by decide +kernel
theorem dX15_flagAt_29 : decode cX15_flagAt 29 = .ok (.aload_n 1, 1) := by decide +kernel
theorem dX15_flagAt_30 : decode cX15_flagAt 30 = .ok (.ldc 187, 2) := by decide +kernel
theorem dX15_flagAt_32 : decode cX15_flagAt 32 = .ok (.invokevirtual 80, 3) := by decide +kernel
theorem dX15_flagAt_35 : decode cX15_flagAt 35 = .ok (.ifCond .eq 7, 3) := by decide +kernel
theorem dX15_flagAt_38 : decode cX15_flagAt 38 = .ok (.iconst 4, 1) := by decide +kernel
theorem dX15_flagAt_39 : decode cX15_flagAt 39 = .ok (.goto 49, 3) := by decide +kernel
theorem dX15_flagAt_42 : decode cX15_flagAt 42 = .ok (.aload_n 0, 1) := by decide +kernel
theorem dX15_flagAt_43 : decode cX15_flagAt 43 = .ok (.aload_n 1, 1) := by decide +kernel
theorem dX15_flagAt_44 : decode cX15_flagAt 44 = .ok (.ldc 189, 2) := by decide +kernel
theorem dX15_flagAt_46 : decode cX15_flagAt 46 = .ok (.invokevirtual 80, 3) := by decide +kernel
theorem dX15_flagAt_49 : decode cX15_flagAt 49 = .ok (.ifCond .eq 8, 3) := by decide +kernel
theorem dX15_flagAt_52 : decode cX15_flagAt 52 = .ok (.bipush 8, 2) := by decide +kernel
theorem dX15_flagAt_54 : decode cX15_flagAt 54 = .ok (.goto 34, 3) := by decide +kernel
theorem dX15_flagAt_57 : decode cX15_flagAt 57 = .ok (.aload_n 0, 1) := by decide +kernel
theorem dX15_flagAt_58 : decode cX15_flagAt 58 = .ok (.aload_n 1, 1) := by decide +kernel
theorem dX15_flagAt_59 : decode cX15_flagAt 59 = .ok (.ldc 191, 2) := by decide +kernel
theorem dX15_flagAt_61 : decode cX15_flagAt 61 = .ok (.invokevirtual 80, 3) := by decide +kernel
theorem dX15_flagAt_64 : decode cX15_flagAt 64 = .ok (.ifCond .eq 8, 3) := by decide +kernel
theorem dX15_flagAt_67 : decode cX15_flagAt 67 = .ok (.bipush 16, 2) := by decide +kernel
theorem dX15_flagAt_69 : decode cX15_flagAt 69 = .ok (.goto 19, 3) := by decide +kernel
theorem dX15_flagAt_72 : decode cX15_flagAt 72 = .ok (.aload_n 0, 1) := by decide +kernel
theorem dX15_flagAt_73 : decode cX15_flagAt 73 = .ok (.aload_n 1, 1) := by decide +kernel
theorem dX15_flagAt_74 : decode cX15_flagAt 74 = .ok (.ldc 193, 2) := by decide +kernel
theorem dX15_flagAt_76 : decode cX15_flagAt 76 = .ok (.invokevirtual 80, 3) := by decide +kernel
theorem dX15_flagAt_79 : decode cX15_flagAt 79 = .ok (.ifCond .eq 8, 3) := by decide +kernel
theorem dX15_flagAt_82 : decode cX15_flagAt 82 = .ok (.bipush 32, 2) := by decide +kernel
theorem dX15_flagAt_84 : decode cX15_flagAt 84 = .ok (.goto 4, 3) := by decide +kernel
theorem dX15_flagAt_87 : decode cX15_flagAt 87 = .ok (.iconst 0, 1) := by decide +kernel
theorem dX15_flagAt_88 : decode cX15_flagAt 88 = .ok (.ireturn, 1) := by decide +kernel
def sX15_flagAt_88 (F : Nat) (h : Hp) (t0 : Int32) : Option (Int32 × Hp) := some (t0, h)
def sX15_flagAt (F : Nat) (h : Hp) (x0 : Nat) (x1 : Nat) : Option (Int32 × Hp) := cl (sX15_isWord F h x0 x1 31) fun o_1 => br (o_1.1 = 0) (cl (sX15_isWord F o_1.2 x0 x1 32) fun o_3 => br (o_3.1 = 0) (cl (sX15_isWord F o_3.2 x0 x1 33) fun o_5 => br (o_5.1 = 0) (cl (sX15_isWord F o_5.2 x0 x1 34) fun o_7 => br (o_7.1 = 0) (cl (sX15_isWord F o_7.2 x0 x1 35) fun o_9 => br (o_9.1 = 0) (cl (sX15_isWord F o_9.2 x0 x1 36) fun o_11 => br (o_11.1 = 0) (sX15_flagAt_88 F o_11.2 (0 : Int32)) (sX15_flagAt_88 F o_11.2 (32 : Int32))) (sX15_flagAt_88 F o_9.2 (16 : Int32))) (sX15_flagAt_88 F o_7.2 (8 : Int32))) (sX15_flagAt_88 F o_5.2 (4 : Int32))) (sX15_flagAt_88 F o_3.2 (2 : Int32))) (sX15_flagAt_88 F o_1.2 (1 : Int32))
theorem moX15_flagAt_88 {o : Int32 × Hp} {F : Nat} {h : Hp} {t0 : Int32} (hE : sX15_flagAt_88 F h  t0 = some o) : Le h o.2 := by
  cases hE
  exact Le.rf _
theorem moX15_flagAt {o : Int32 × Hp} {F : Nat} {h : Hp} {x0 : Nat} {x1 : Nat} (hE : sX15_flagAt F h x0 x1 = some o) : Le h o.2 := by
  obtain ⟨o_1, eo_1, hE⟩ := cl_e hE
  refine (moX15_isWord eo_1).tr ?_
  rcases br_e hE with ⟨_, hE⟩ | ⟨_, hE⟩
  · obtain ⟨o_3, eo_3, hE⟩ := cl_e hE
    refine (moX15_isWord eo_3).tr ?_
    rcases br_e hE with ⟨_, hE⟩ | ⟨_, hE⟩
    · obtain ⟨o_5, eo_5, hE⟩ := cl_e hE
      refine (moX15_isWord eo_5).tr ?_
      rcases br_e hE with ⟨_, hE⟩ | ⟨_, hE⟩
      · obtain ⟨o_7, eo_7, hE⟩ := cl_e hE
        refine (moX15_isWord eo_7).tr ?_
        rcases br_e hE with ⟨_, hE⟩ | ⟨_, hE⟩
        · obtain ⟨o_9, eo_9, hE⟩ := cl_e hE
          refine (moX15_isWord eo_9).tr ?_
          rcases br_e hE with ⟨_, hE⟩ | ⟨_, hE⟩
          · obtain ⟨o_11, eo_11, hE⟩ := cl_e hE
            refine (moX15_isWord eo_11).tr ?_
            rcases br_e hE with ⟨_, hE⟩ | ⟨_, hE⟩
            · exact moX15_flagAt_88 hE
            · exact moX15_flagAt_88 hE
          · exact moX15_flagAt_88 hE
        · exact moX15_flagAt_88 hE
      · exact moX15_flagAt_88 hE
    · exact moX15_flagAt_88 hE
  · exact moX15_flagAt_88 hE
set_option maxRecDepth 20000 in
theorem bX15_flagAt_88 {p : Program} {l : Launch} {e : Env} {s : State} {m : MethodId} {args : Array Value} {below : List Frame} {meth : Method} {c : Code} {X : Ec} {h0 : Hp} {o : Int32 × Hp} {F : Nat} (C : Cx X p s m args meth c RX15 cX15_flagAt 2 (some .int) "flagAt") {h : Hp} {t0 : Int32} {H : Heap} {locs : List Loc} (hkm : Km h0 h) (hW : Wx X h H) (hZ : va_S (aA (eB X)) s.heap H locs) (ls : Array Slot) (hl : lv_has ls 2 []) (hE : sX15_flagAt_88 F h  t0 = some o) : W p l e (rm 5 108) s m args below meth c H locs 0 0 (MQ below (QI X h0 o.1 o.2) args s 0 0 (aA (eB X))) (F0 m 88 ls [.int t0]) := by
  exact x_iret C rfl rfl hW hZ hkm hE dX15_flagAt_88
set_option maxRecDepth 20000 in
theorem ct_X15_flagAt (l : Launch) (X : Ec) (F : Nat) {h : Hp} {x0 : Nat} {x1 : Nat} {o : Int32 × Hp} (k_x0 : hK h x0 = 15) (k_x1 : hK h x1 = 16) (hE : sX15_flagAt F h x0 x1 = some o) : MetI l yX15_flagAt cX15_flagAt 2 (some .int) 5 108 X [.ref x0, .ref x1] h o := by
  refine x_met (by decide) (Nat.le_of_ble_eq_true rfl) ?_
  intro p e s m below meth c ls C hl hW hZ
  have hl : lv_has ls 2 [(0, .ref x0), (1, .ref x1)] := hl
  have hkm : Km h h := Km.rf h
  refine lv_aload_n C.1 C.2.1 dX15_flagAt_0 rfl (lv_at hl 0 rfl) ?_
  refine lv_aload_n C.1 C.2.1 dX15_flagAt_1 rfl (lv_at hl 1 rfl) ?_
  refine va_ldcS C.1 C.2.1 C.2.2.2.1 (C.2.2.2.2.2.2.2.2.1 31 (by decide)).2 dX15_flagAt_2 ?_
  obtain ⟨o_1, eo_1, hE⟩ := cl_e hE
  refine x_kI (o := o_1) (z_runV (As := [.ref x1, .ref (X.2.2.2.1 31)]) (rest := []) C (ct_X15_isWord l X F k_x0 k_x1 (by decide) eo_1) cw_X15_80 hW hZ k_x0 (by decide) rfl rfl rfl hl.1 (Nat.le_of_ble_eq_true rfl) rfl dX15_flagAt_4 ⟨Nat.le_of_ble_eq_true rfl, Nat.le_of_ble_eq_true rfl⟩ ⟨Nat.le_refl _, Nat.le_refl _⟩) hZ (fun _ _ hW km hZ => ?_)
  replace hkm := hkm.tr km
  replace k_x0 := km.at k_x0 (by decide)
  replace k_x1 := km.at k_x1 (by decide)
  refine lv_if_eq (tgt := 14) C.1 C.2.1 dX15_flagAt_7 (by decide) (fun c_2 => ?_) (fun c_2 => ?_)
  · have hE := br_p hE c_2
    refine lv_aload_n C.1 C.2.1 dX15_flagAt_14 rfl (lv_at hl 0 rfl) ?_
    refine lv_aload_n C.1 C.2.1 dX15_flagAt_15 rfl (lv_at hl 1 rfl) ?_
    refine va_ldcS C.1 C.2.1 C.2.2.2.1 (C.2.2.2.2.2.2.2.2.1 32 (by decide)).2 dX15_flagAt_16 ?_
    obtain ⟨o_3, eo_3, hE⟩ := cl_e hE
    refine x_kI (o := o_3) (z_runV (As := [.ref x1, .ref (X.2.2.2.1 32)]) (rest := []) C (ct_X15_isWord l X F k_x0 k_x1 (by decide) eo_3) cw_X15_80 hW hZ k_x0 (by decide) rfl rfl rfl hl.1 (Nat.le_of_ble_eq_true rfl) rfl dX15_flagAt_18 ⟨Nat.le_of_ble_eq_true rfl, Nat.le_of_ble_eq_true rfl⟩ ⟨Nat.le_refl _, Nat.le_refl _⟩) hZ (fun _ _ hW km hZ => ?_)
    replace hkm := hkm.tr km
    replace k_x0 := km.at k_x0 (by decide)
    replace k_x1 := km.at k_x1 (by decide)
    refine lv_if_eq (tgt := 28) C.1 C.2.1 dX15_flagAt_21 (by decide) (fun c_4 => ?_) (fun c_4 => ?_)
    · have hE := br_p hE c_4
      refine lv_aload_n C.1 C.2.1 dX15_flagAt_28 rfl (lv_at hl 0 rfl) ?_
      refine lv_aload_n C.1 C.2.1 dX15_flagAt_29 rfl (lv_at hl 1 rfl) ?_
      refine va_ldcS C.1 C.2.1 C.2.2.2.1 (C.2.2.2.2.2.2.2.2.1 33 (by decide)).2 dX15_flagAt_30 ?_
      obtain ⟨o_5, eo_5, hE⟩ := cl_e hE
      refine x_kI (o := o_5) (z_runV (As := [.ref x1, .ref (X.2.2.2.1 33)]) (rest := []) C (ct_X15_isWord l X F k_x0 k_x1 (by decide) eo_5) cw_X15_80 hW hZ k_x0 (by decide) rfl rfl rfl hl.1 (Nat.le_of_ble_eq_true rfl) rfl dX15_flagAt_32 ⟨Nat.le_of_ble_eq_true rfl, Nat.le_of_ble_eq_true rfl⟩ ⟨Nat.le_refl _, Nat.le_refl _⟩) hZ (fun _ _ hW km hZ => ?_)
      replace hkm := hkm.tr km
      replace k_x0 := km.at k_x0 (by decide)
      replace k_x1 := km.at k_x1 (by decide)
      refine lv_if_eq (tgt := 42) C.1 C.2.1 dX15_flagAt_35 (by decide) (fun c_6 => ?_) (fun c_6 => ?_)
      · have hE := br_p hE c_6
        refine lv_aload_n C.1 C.2.1 dX15_flagAt_42 rfl (lv_at hl 0 rfl) ?_
        refine lv_aload_n C.1 C.2.1 dX15_flagAt_43 rfl (lv_at hl 1 rfl) ?_
        refine va_ldcS C.1 C.2.1 C.2.2.2.1 (C.2.2.2.2.2.2.2.2.1 34 (by decide)).2 dX15_flagAt_44 ?_
        obtain ⟨o_7, eo_7, hE⟩ := cl_e hE
        refine x_kI (o := o_7) (z_runV (As := [.ref x1, .ref (X.2.2.2.1 34)]) (rest := []) C (ct_X15_isWord l X F k_x0 k_x1 (by decide) eo_7) cw_X15_80 hW hZ k_x0 (by decide) rfl rfl rfl hl.1 (Nat.le_of_ble_eq_true rfl) rfl dX15_flagAt_46 ⟨Nat.le_of_ble_eq_true rfl, Nat.le_of_ble_eq_true rfl⟩ ⟨Nat.le_refl _, Nat.le_refl _⟩) hZ (fun _ _ hW km hZ => ?_)
        replace hkm := hkm.tr km
        replace k_x0 := km.at k_x0 (by decide)
        replace k_x1 := km.at k_x1 (by decide)
        refine lv_if_eq (tgt := 57) C.1 C.2.1 dX15_flagAt_49 (by decide) (fun c_8 => ?_) (fun c_8 => ?_)
        · have hE := br_p hE c_8
          refine lv_aload_n C.1 C.2.1 dX15_flagAt_57 rfl (lv_at hl 0 rfl) ?_
          refine lv_aload_n C.1 C.2.1 dX15_flagAt_58 rfl (lv_at hl 1 rfl) ?_
          refine va_ldcS C.1 C.2.1 C.2.2.2.1 (C.2.2.2.2.2.2.2.2.1 35 (by decide)).2 dX15_flagAt_59 ?_
          obtain ⟨o_9, eo_9, hE⟩ := cl_e hE
          refine x_kI (o := o_9) (z_runV (As := [.ref x1, .ref (X.2.2.2.1 35)]) (rest := []) C (ct_X15_isWord l X F k_x0 k_x1 (by decide) eo_9) cw_X15_80 hW hZ k_x0 (by decide) rfl rfl rfl hl.1 (Nat.le_of_ble_eq_true rfl) rfl dX15_flagAt_61 ⟨Nat.le_of_ble_eq_true rfl, Nat.le_of_ble_eq_true rfl⟩ ⟨Nat.le_refl _, Nat.le_refl _⟩) hZ (fun _ _ hW km hZ => ?_)
          replace hkm := hkm.tr km
          replace k_x0 := km.at k_x0 (by decide)
          replace k_x1 := km.at k_x1 (by decide)
          refine lv_if_eq (tgt := 72) C.1 C.2.1 dX15_flagAt_64 (by decide) (fun c_10 => ?_) (fun c_10 => ?_)
          · have hE := br_p hE c_10
            refine lv_aload_n C.1 C.2.1 dX15_flagAt_72 rfl (lv_at hl 0 rfl) ?_
            refine lv_aload_n C.1 C.2.1 dX15_flagAt_73 rfl (lv_at hl 1 rfl) ?_
            refine va_ldcS C.1 C.2.1 C.2.2.2.1 (C.2.2.2.2.2.2.2.2.1 36 (by decide)).2 dX15_flagAt_74 ?_
            obtain ⟨o_11, eo_11, hE⟩ := cl_e hE
            refine x_kI (o := o_11) (z_runV (As := [.ref x1, .ref (X.2.2.2.1 36)]) (rest := []) C (ct_X15_isWord l X F k_x0 k_x1 (by decide) eo_11) cw_X15_80 hW hZ k_x0 (by decide) rfl rfl rfl hl.1 (Nat.le_of_ble_eq_true rfl) rfl dX15_flagAt_76 ⟨Nat.le_of_ble_eq_true rfl, Nat.le_of_ble_eq_true rfl⟩ ⟨Nat.le_refl _, Nat.le_refl _⟩) hZ (fun _ _ hW km hZ => ?_)
            replace hkm := hkm.tr km
            replace k_x0 := km.at k_x0 (by decide)
            replace k_x1 := km.at k_x1 (by decide)
            refine lv_if_eq (tgt := 87) C.1 C.2.1 dX15_flagAt_79 (by decide) (fun c_12 => ?_) (fun c_12 => ?_)
            · have hE := br_p hE c_12
              refine lv_iconst (v := (0 : Int32)) C.1 C.2.1 dX15_flagAt_87 (by decide) ?_
              exact bX15_flagAt_88 C hkm hW hZ _ (lv_sub hl [] rfl) hE
            · have hE := br_n hE c_12
              refine lv_bipush (v := (32 : Int32)) C.1 C.2.1 dX15_flagAt_82 (by decide) ?_
              refine lv_goto (tgt := 88) C.1 C.2.1 dX15_flagAt_84 (by decide) ?_
              exact bX15_flagAt_88 C hkm hW hZ _ (lv_sub hl [] rfl) hE
          · have hE := br_n hE c_10
            refine lv_bipush (v := (16 : Int32)) C.1 C.2.1 dX15_flagAt_67 (by decide) ?_
            refine lv_goto (tgt := 88) C.1 C.2.1 dX15_flagAt_69 (by decide) ?_
            exact bX15_flagAt_88 C hkm hW hZ _ (lv_sub hl [] rfl) hE
        · have hE := br_n hE c_8
          refine lv_bipush (v := (8 : Int32)) C.1 C.2.1 dX15_flagAt_52 (by decide) ?_
          refine lv_goto (tgt := 88) C.1 C.2.1 dX15_flagAt_54 (by decide) ?_
          exact bX15_flagAt_88 C hkm hW hZ _ (lv_sub hl [] rfl) hE
      · have hE := br_n hE c_6
        refine lv_iconst (v := (4 : Int32)) C.1 C.2.1 dX15_flagAt_38 (by decide) ?_
        refine lv_goto (tgt := 88) C.1 C.2.1 dX15_flagAt_39 (by decide) ?_
        exact bX15_flagAt_88 C hkm hW hZ _ (lv_sub hl [] rfl) hE
    · have hE := br_n hE c_4
      refine lv_iconst (v := (2 : Int32)) C.1 C.2.1 dX15_flagAt_24 (by decide) ?_
      refine lv_goto (tgt := 88) C.1 C.2.1 dX15_flagAt_25 (by decide) ?_
      exact bX15_flagAt_88 C hkm hW hZ _ (lv_sub hl [] rfl) hE
  · have hE := br_n hE c_2
    refine lv_iconst (v := (1 : Int32)) C.1 C.2.1 dX15_flagAt_10 (by decide) ?_
    refine lv_goto (tgt := 88) C.1 C.2.1 dX15_flagAt_11 (by decide) ?_
    exact bX15_flagAt_88 C hkm hW hZ _ (lv_sub hl [] rfl) hE
theorem ms_123 : Cond.selects RX15 yX15_flagAt yX15_flagAt ∈ W0 := w0_in (List.mem_append_left _ (List.mem_of_getElem? (i := 123) (by decide +kernel))) rfl
theorem ms_117 : Cond.selects RX15 yX15_isNumber yX15_isNumber ∈ W0 := w0_in (List.mem_append_left _ (List.mem_of_getElem? (i := 117) (by decide +kernel))) rfl
theorem ms_114 : Cond.selects RX15 yX15_nextToken yX15_nextToken ∈ W0 := w0_in (List.mem_append_left _ (List.mem_of_getElem? (i := 114) (by decide +kernel))) rfl
theorem n_1828 : Cond.fieldLinkNest RX15 91 (TX14 1).1 (TX14 1).2.1 (TX14 1).2.2.1 "GameRulesModel" ∈ tables_1 := List.mem_of_getElem? (i := 1828) (by decide +kernel)
theorem n_1836 : Cond.fieldLinkNest RX15 198 (TX14 5).1 (TX14 5).2.1 (TX14 5).2.2.1 "GameRulesModel" ∈ tables_1 := List.mem_of_getElem? (i := 1836) (by decide +kernel)
theorem n_1838 : Cond.fieldLinkNest RX15 201 (TX14 6).1 (TX14 6).2.1 (TX14 6).2.2.1 "GameRulesModel" ∈ tables_1 := List.mem_of_getElem? (i := 1838) (by decide +kernel)
theorem n_1840 : Cond.fieldLinkNest RX15 204 (TX14 7).1 (TX14 7).2.1 (TX14 7).2.2.1 "GameRulesModel" ∈ tables_1 := List.mem_of_getElem? (i := 1840) (by decide +kernel)
theorem n_1842 : Cond.fieldLinkNest RX15 207 (TX14 8).1 (TX14 8).2.1 (TX14 8).2.2.1 "GameRulesModel" ∈ tables_1 := List.mem_of_getElem? (i := 1842) (by decide +kernel)
theorem n_1844 : Cond.fieldLinkNest RX15 210 (TX14 9).1 (TX14 9).2.1 (TX14 9).2.2.1 "GameRulesModel" ∈ tables_1 := List.mem_of_getElem? (i := 1844) (by decide +kernel)
theorem m_2015 : Cond.methodLink RX15 74 yX15_nextToken ∈ W0 := w0_in (List.mem_append_right _ (List.mem_of_getElem? (i := 2015) (by decide +kernel))) rfl
theorem m_2017 : Cond.instanceMethod yX15_nextToken ∈ W0 := w0_in (List.mem_append_right _ (List.mem_of_getElem? (i := 2017) (by decide +kernel))) rfl
theorem m_2018 : Cond.code yX15_nextToken cX15_nextToken 7 none ∈ W0 := w0_in (List.mem_append_right _ (List.mem_of_getElem? (i := 2018) (by decide +kernel))) rfl
theorem m_2034 : Cond.methodLink RX15 84 yX15_isNumber ∈ W0 := w0_in (List.mem_append_right _ (List.mem_of_getElem? (i := 2034) (by decide +kernel))) rfl
theorem m_2036 : Cond.instanceMethod yX15_isNumber ∈ W0 := w0_in (List.mem_append_right _ (List.mem_of_getElem? (i := 2036) (by decide +kernel))) rfl
theorem m_2037 : Cond.code yX15_isNumber cX15_isNumber 3 (some .boolean) ∈ W0 := w0_in (List.mem_append_right _ (List.mem_of_getElem? (i := 2037) (by decide +kernel))) rfl
theorem m_2063 : Cond.methodLink RX15 195 yX15_flagAt ∈ W0 := w0_in (List.mem_append_right _ (List.mem_of_getElem? (i := 2063) (by decide +kernel))) rfl
theorem m_2065 : Cond.instanceMethod yX15_flagAt ∈ W0 := w0_in (List.mem_append_right _ (List.mem_of_getElem? (i := 2065) (by decide +kernel))) rfl
theorem m_2066 : Cond.code yX15_flagAt cX15_flagAt 2 (some .int) ∈ W0 := w0_in (List.mem_append_right _ (List.mem_of_getElem? (i := 2066) (by decide +kernel))) rfl
section
variable {p : Program} {l : Launch} {e : Env} {R : Room} {s : State} {m : MethodId} {args : Array Value} {below : List Frame} {meth : Method} {c : Code} {H : Heap} {locs : List Loc} {cells slots : Nat} {Q : State → Prop}
variable {cc : ByteArray} {pc : Nat} {ls : Array Slot} {rest : List Value} {X : Ec} {h h1 : Hp} {nL : Nat} {rt : Option FieldType} {mn : String}
theorem gf_X15_91 {a : Nat} (C : Cx X p s m args meth c RX15 cc nL rt mn) (hW : Wx X h H) (ha : hK h a = 14) (hdg : decode cc pc = .ok (.getfield 91, 3)) (kk : W p l e R s m args below meth c H locs cells slots Q (F0 m (pc + 3) ls (.int (hI h a 1) :: rest))) : W p l e R s m args below meth c H locs cells slots Q (F0 m pc ls (.ref a :: rest)) :=
  y_getiN C hW ha i_X14 (by decide) rfl (by decide) n_1828 rfl hdg kk
theorem gf_X15_210 {a r : Nat} (C : Cx X p s m args meth c RX15 cc nL rt mn) (hW : Wx X h H) (ha : hK h a = 14) (hr : hR h a 9 = some r) (hdg : decode cc pc = .ok (.getfield 210, 3)) (kk : hK h r = 17 → W p l e R s m args below meth c H locs cells slots Q (F0 m (pc + 3) ls (.ref r :: rest))) : W p l e R s m args below meth c H locs cells slots Q (F0 m pc ls (.ref a :: rest)) :=
  y_getrN C hW ha i_X14 (by decide) rfl (by decide) n_1844 rfl rfl hr hdg kk
theorem gf_X15_204 {a r : Nat} (C : Cx X p s m args meth c RX15 cc nL rt mn) (hW : Wx X h H) (ha : hK h a = 14) (hr : hR h a 7 = some r) (hdg : decode cc pc = .ok (.getfield 204, 3)) (kk : hK h r = 17 → W p l e R s m args below meth c H locs cells slots Q (F0 m (pc + 3) ls (.ref r :: rest))) : W p l e R s m args below meth c H locs cells slots Q (F0 m pc ls (.ref a :: rest)) :=
  y_getrN C hW ha i_X14 (by decide) rfl (by decide) n_1840 rfl rfl hr hdg kk
theorem gf_X15_207 {a r : Nat} (C : Cx X p s m args meth c RX15 cc nL rt mn) (hW : Wx X h H) (ha : hK h a = 14) (hr : hR h a 8 = some r) (hdg : decode cc pc = .ok (.getfield 207, 3)) (kk : hK h r = 17 → W p l e R s m args below meth c H locs cells slots Q (F0 m (pc + 3) ls (.ref r :: rest))) : W p l e R s m args below meth c H locs cells slots Q (F0 m pc ls (.ref a :: rest)) :=
  y_getrN C hW ha i_X14 (by decide) rfl (by decide) n_1842 rfl rfl hr hdg kk
theorem gf_X15_198 {a r : Nat} (C : Cx X p s m args meth c RX15 cc nL rt mn) (hW : Wx X h H) (ha : hK h a = 14) (hr : hR h a 5 = some r) (hdg : decode cc pc = .ok (.getfield 198, 3)) (kk : hK h r = 17 → W p l e R s m args below meth c H locs cells slots Q (F0 m (pc + 3) ls (.ref r :: rest))) : W p l e R s m args below meth c H locs cells slots Q (F0 m pc ls (.ref a :: rest)) :=
  y_getrN C hW ha i_X14 (by decide) rfl (by decide) n_1836 rfl rfl hr hdg kk
theorem gf_X15_201 {a r : Nat} (C : Cx X p s m args meth c RX15 cc nL rt mn) (hW : Wx X h H) (ha : hK h a = 14) (hr : hR h a 6 = some r) (hdg : decode cc pc = .ok (.getfield 201, 3)) (kk : hK h r = 17 → W p l e R s m args below meth c H locs cells slots Q (F0 m (pc + 3) ls (.ref r :: rest))) : W p l e R s m args below meth c H locs cells slots Q (F0 m pc ls (.ref a :: rest)) :=
  y_getrN C hW ha i_X14 (by decide) rfl (by decide) n_1838 rfl rfl hr hdg kk
end
theorem cw_X15_74 : cwd RX15 74 yX15_nextToken cX15_nextToken 7 none false 2 := ⟨m_2018, m_2015, m_20, ⟨m_2017, ms_114⟩, by decide, by decide, by decide +kernel⟩
theorem cw_X15_84 : cwd RX15 84 yX15_isNumber cX15_isNumber 3 (some .boolean) false 2 := ⟨m_2037, m_2034, m_20, ⟨m_2036, ms_117⟩, by decide, by decide, by decide +kernel⟩
theorem cw_X15_195 : cwd RX15 195 yX15_flagAt cX15_flagAt 2 (some .int) false 1 := ⟨m_2066, m_2063, m_20, ⟨m_2065, ms_123⟩, by decide, by decide, by decide +kernel⟩
theorem dX15_isStep_0 : decode cX15_isStep 0 = .ok (.iconst 0, 1) := by decide +kernel
theorem dX15_isStep_1 : decode cX15_isStep 1 = .ok (.istore 4, 2) := by decide +kernel
theorem dX15_isStep_3 : decode cX15_isStep 3 = .ok (.aload_n 0, 1) := by decide +kernel
theorem dX15_isStep_4 : decode cX15_isStep 4 = .ok (.getfield 34, 3) := by decide +kernel
theorem dX15_isStep_7 : decode cX15_isStep 7 = .ok (.iconst 1, 1) := by decide +kernel
theorem dX15_isStep_8 : decode cX15_isStep 8 = .ok (.if_icmp .ne 75, 3) := by decide +kernel
theorem dX15_isStep_11 : decode cX15_isStep 11 = .ok (.aload_n 0, 1) := by decide +kernel
theorem dX15_isStep_12 : decode cX15_isStep 12 = .ok (.aload_n 1, 1) := by decide +kernel
theorem dX15_isStep_13 : decode cX15_isStep 13 = .ok (.invokevirtual 195, 3) := by decide +kernel
theorem dX15_isStep_16 : decode cX15_isStep 16 = .ok (.istore 5, 2) := by decide +kernel
theorem dX15_isStep_18 : decode cX15_isStep 18 = .ok (.iload 4, 2) := by decide +kernel
theorem dX15_isStep_20 : decode cX15_isStep 20 = .ok (.iload 5, 2) := by decide +kernel
theorem dX15_isStep_22 : decode cX15_isStep 22 = .ok (.ior, 1) := by decide +kernel
theorem dX15_isStep_23 : decode cX15_isStep 23 = .ok (.istore 6, 2) := by decide +kernel
theorem dX15_isStep_25 : decode cX15_isStep 25 = .ok (.iload 5, 2) := by decide +kernel
theorem dX15_isStep_27 : decode cX15_isStep 27 = .ok (.ifCond .eq 41, 3) := by decide +kernel
theorem dX15_isStep_30 : decode cX15_isStep 30 = .ok (.iload 4, 2) := by decide +kernel
theorem dX15_isStep_32 : decode cX15_isStep 32 = .ok (.iload 5, 2) := by decide +kernel
theorem dX15_isStep_34 : decode cX15_isStep 34 = .ok (.iand, 1) := by decide +kernel
theorem dX15_isStep_35 : decode cX15_isStep 35 = .ok (.ifCond .ne 33, 3) := by decide +kernel
theorem dX15_isStep_38 : decode cX15_isStep 38 = .ok (.iload 6, 2) := by decide +kernel
theorem dX15_isStep_40 : decode cX15_isStep 40 = .ok (.iconst 1, 1) := by decide +kernel
theorem dX15_isStep_41 : decode cX15_isStep 41 = .ok (.iand, 1) := by decide +kernel
theorem dX15_isStep_42 : decode cX15_isStep 42 = .ok (.ifCond .eq 10, 3) := by decide +kernel
theorem dX15_isStep_45 : decode cX15_isStep 45 = .ok (.iload 6, 2) := by decide +kernel
theorem dX15_isStep_47 : decode cX15_isStep 47 = .ok (.iconst 2, 1) := by decide +kernel
theorem dX15_isStep_48 : decode cX15_isStep 48 = .ok (.iand, 1) := by decide +kernel
theorem dX15_isStep_49 : decode cX15_isStep 49 = .ok (.ifCond .ne 19, 3) := by decide +kernel
theorem dX15_isStep_52 : decode cX15_isStep 52 = .ok (.iload 6, 2) := by decide +kernel
theorem dX15_isStep_54 : decode cX15_isStep 54 = .ok (.bipush 8, 2) := by decide +kernel
theorem dX15_isStep_56 : decode cX15_isStep 56 = .ok (.iand, 1) := by decide +kernel
theorem dX15_isStep_57 : decode cX15_isStep 57 = .ok (.ifCond .eq 13, 3) := by decide +kernel
theorem dX15_isStep_60 : decode cX15_isStep 60 = .ok (.iload 6, 2) := by decide +kernel
theorem dX15_isStep_62 : decode cX15_isStep 62 = .ok (.bipush 16, 2) := by decide +kernel
theorem dX15_isStep_64 : decode cX15_isStep 64 = .ok (.iand, 1) := by decide +kernel
theorem dX15_isStep_65 : decode cX15_isStep 65 = .ok (.ifCond .eq 5, 3) := by decide +kernel
theorem dX15_isStep_68 : decode cX15_isStep 68 = .ok (.iconst 0, 1) := by decide +kernel
theorem dX15_isStep_69 : decode cX15_isStep 69 = .ok (.ireturn, 1) := by decide +kernel
theorem dX15_isStep_70 : decode cX15_isStep 70 = .ok (.iload 6, 2) := by decide +kernel
theorem dX15_isStep_72 : decode cX15_isStep 72 = .ok (.istore 4, 2) := by decide +kernel
theorem dX15_isStep_74 : decode cX15_isStep 74 = .ok (.aload_n 0, 1) := by decide +kernel
theorem dX15_isStep_75 : decode cX15_isStep 75 = .ok (.aload_n 1, 1) := by decide +kernel
theorem dX15_isStep_76 : decode cX15_isStep 76 = .ok (.iload_n 2, 1) := by decide +kernel
theorem dX15_isStep_77 : decode cX15_isStep 77 = .ok (.invokevirtual 74, 3) := by decide +kernel
theorem dX15_isStep_80 : decode cX15_isStep 80 = .ok (.goto (-77), 3) := by decide +kernel
theorem dX15_isStep_83 : decode cX15_isStep 83 = .ok (.aload_n 0, 1) := by decide +kernel
theorem dX15_isStep_84 : decode cX15_isStep 84 = .ok (.getfield 57, 3) := by decide +kernel
theorem dX15_isStep_87 : decode cX15_isStep 87 = .ok (.getfield 198, 3) := by decide +kernel
theorem dX15_isStep_90 : decode cX15_isStep 90 = .ok (.iload_n 3, 1) := by decide +kernel
theorem dX15_isStep_91 : decode cX15_isStep 91 = .ok (.iload 4, 2) := by decide +kernel
theorem dX15_isStep_93 : decode cX15_isStep 93 = .ok (.iastore, 1) := by decide +kernel
theorem dX15_isStep_94 : decode cX15_isStep 94 = .ok (.aload_n 0, 1) := by decide +kernel
theorem dX15_isStep_95 : decode cX15_isStep 95 = .ok (.bipush (-7), 2) := by decide +kernel
theorem dX15_isStep_97 : decode cX15_isStep 97 = .ok (.bipush 7, 2) := by decide +kernel
theorem dX15_isStep_99 : decode cX15_isStep 99 = .ok (.invokevirtual 84, 3) := by decide +kernel
theorem dX15_isStep_102 : decode cX15_isStep 102 = .ok (.ifCond .ne 5, 3) := by decide +kernel
theorem dX15_isStep_105 : decode cX15_isStep 105 = .ok (.iconst 0, 1) := by decide +kernel
theorem dX15_isStep_106 : decode cX15_isStep 106 = .ok (.ireturn, 1) := by decide +kernel
theorem dX15_isStep_107 : decode cX15_isStep 107 = .ok (.aload_n 0, 1) := by decide +kernel
theorem dX15_isStep_108 : decode cX15_isStep 108 = .ok (.getfield 57, 3) := by decide +kernel
theorem dX15_isStep_111 : decode cX15_isStep 111 = .ok (.getfield 201, 3) := by decide +kernel
theorem dX15_isStep_114 : decode cX15_isStep 114 = .ok (.iload_n 3, 1) := by decide +kernel
theorem dX15_isStep_115 : decode cX15_isStep 115 = .ok (.aload_n 0, 1) := by decide +kernel
theorem dX15_isStep_116 : decode cX15_isStep 116 = .ok (.getfield 44, 3) := by decide +kernel
theorem dX15_isStep_119 : decode cX15_isStep 119 = .ok (.iastore, 1) := by decide +kernel
theorem dX15_isStep_120 : decode cX15_isStep 120 = .ok (.aload_n 0, 1) := by decide +kernel
theorem dX15_isStep_121 : decode cX15_isStep 121 = .ok (.aload_n 1, 1) := by decide +kernel
theorem dX15_isStep_122 : decode cX15_isStep 122 = .ok (.iload_n 2, 1) := by decide +kernel
theorem dX15_isStep_123 : decode cX15_isStep 123 = .ok (.invokevirtual 74, 3) := by decide +kernel
theorem dX15_isStep_126 : decode cX15_isStep 126 = .ok (.aload_n 0, 1) := by decide +kernel
theorem dX15_isStep_127 : decode cX15_isStep 127 = .ok (.bipush (-7), 2) := by decide +kernel
theorem dX15_isStep_129 : decode cX15_isStep 129 = .ok (.bipush 7, 2) := by decide +kernel
theorem dX15_isStep_131 : decode cX15_isStep 131 = .ok (.invokevirtual 84, 3) := by decide +kernel
theorem dX15_isStep_134 : decode cX15_isStep 134 = .ok (.ifCond .eq 22, 3) := by decide +kernel
theorem dX15_isStep_137 : decode cX15_isStep 137 = .ok (.aload_n 0, 1) := by decide +kernel
theorem dX15_isStep_138 : decode cX15_isStep 138 = .ok (.getfield 44, 3) := by decide +kernel
theorem dX15_isStep_141 : decode cX15_isStep 141 = .ok (.ifCond .ne 17, 3) := by decide +kernel
theorem dX15_isStep_144 : decode cX15_isStep 144 = .ok (.aload_n 0, 1) := by decide +kernel
theorem dX15_isStep_145 : decode cX15_isStep 145 = .ok (.getfield 57, 3) := by decide +kernel
theorem dX15_isStep_148 : decode cX15_isStep 148 = .ok (.getfield 201, 3) := by decide +kernel
theorem dX15_isStep_151 : decode cX15_isStep 151 = .ok (.iload_n 3, 1) := by decide +kernel
theorem dX15_isStep_152 : decode cX15_isStep 152 = .ok (.iaload, 1) := by decide +kernel
theorem dX15_isStep_153 : decode cX15_isStep 153 = .ok (.ifCond .ne 5, 3) := by decide +kernel
theorem dX15_isStep_156 : decode cX15_isStep 156 = .ok (.iconst 0, 1) := by decide +kernel
theorem dX15_isStep_157 : decode cX15_isStep 157 = .ok (.ireturn, 1) := by decide +kernel
theorem dX15_isStep_158 : decode cX15_isStep 158 = .ok (.aload_n 0, 1) := by decide +kernel
theorem dX15_isStep_159 : decode cX15_isStep 159 = .ok (.getfield 57, 3) := by decide +kernel
theorem dX15_isStep_162 : decode cX15_isStep 162 = .ok (.getfield 204, 3) := by decide +kernel
theorem dX15_isStep_165 : decode cX15_isStep 165 = .ok (.iload_n 3, 1) := by decide +kernel
theorem dX15_isStep_166 : decode cX15_isStep 166 = .ok (.aload_n 0, 1) := by decide +kernel
theorem dX15_isStep_167 : decode cX15_isStep 167 = .ok (.getfield 44, 3) := by decide +kernel
theorem dX15_isStep_170 : decode cX15_isStep 170 = .ok (.iastore, 1) := by decide +kernel
theorem dX15_isStep_171 : decode cX15_isStep 171 = .ok (.aload_n 0, 1) := by decide +kernel
theorem dX15_isStep_172 : decode cX15_isStep 172 = .ok (.getfield 57, 3) := by decide +kernel
theorem dX15_isStep_175 : decode cX15_isStep 175 = .ok (.getfield 207, 3) := by decide +kernel
theorem dX15_isStep_178 : decode cX15_isStep 178 = .ok (.iload_n 3, 1) := by decide +kernel
theorem dX15_isStep_179 : decode cX15_isStep 179 = .ok (.iconst 1, 1) := by decide +kernel
theorem dX15_isStep_180 : decode cX15_isStep 180 = .ok (.iastore, 1) := by decide +kernel
theorem dX15_isStep_181 : decode cX15_isStep 181 = .ok (.aload_n 0, 1) := by decide +kernel
theorem dX15_isStep_182 : decode cX15_isStep 182 = .ok (.getfield 57, 3) := by decide +kernel
theorem dX15_isStep_185 : decode cX15_isStep 185 = .ok (.getfield 210, 3) := by decide +kernel
theorem dX15_isStep_188 : decode cX15_isStep 188 = .ok (.iload_n 3, 1) := by decide +kernel
theorem dX15_isStep_189 : decode cX15_isStep 189 = .ok (.iconst 0, 1) := by decide +kernel
theorem dX15_isStep_190 : decode cX15_isStep 190 = .ok (.iastore, 1) := by decide +kernel
theorem dX15_isStep_191 : decode cX15_isStep 191 = .ok (.aload_n 0, 1) := by decide +kernel
theorem dX15_isStep_192 : decode cX15_isStep 192 = .ok (.aload_n 1, 1) := by decide +kernel
theorem dX15_isStep_193 : decode cX15_isStep 193 = .ok (.iload_n 2, 1) := by decide +kernel
theorem dX15_isStep_194 : decode cX15_isStep 194 = .ok (.invokevirtual 74, 3) := by decide +kernel
theorem dX15_isStep_197 : decode cX15_isStep 197 = .ok (.aload_n 0, 1) := by decide +kernel
theorem dX15_isStep_198 : decode cX15_isStep 198 = .ok (.aload_n 1, 1) := by decide +kernel
theorem dX15_isStep_199 : decode cX15_isStep 199 = .ok (.ldc 213, 2) := by decide +kernel
theorem dX15_isStep_201 : decode cX15_isStep 201 = .ok (.invokevirtual 80, 3) := by decide +kernel
theorem dX15_isStep_204 : decode cX15_isStep 204 = .ok (.ifCond .eq 40, 3) := by decide +kernel
theorem dX15_isStep_207 : decode cX15_isStep 207 = .ok (.aload_n 0, 1) := by decide +kernel
theorem dX15_isStep_208 : decode cX15_isStep 208 = .ok (.aload_n 1, 1) := by decide +kernel
theorem dX15_isStep_209 : decode cX15_isStep 209 = .ok (.iload_n 2, 1) := by decide +kernel
theorem dX15_isStep_210 : decode cX15_isStep 210 = .ok (.invokevirtual 74, 3) := by decide +kernel
theorem dX15_isStep_213 : decode cX15_isStep 213 = .ok (.aload_n 0, 1) := by decide +kernel
theorem dX15_isStep_214 : decode cX15_isStep 214 = .ok (.iconst 2, 1) := by decide +kernel
theorem dX15_isStep_215 : decode cX15_isStep 215 = .ok (.bipush 7, 2) := by decide +kernel
theorem dX15_isStep_217 : decode cX15_isStep 217 = .ok (.invokevirtual 84, 3) := by decide +kernel
theorem dX15_isStep_220 : decode cX15_isStep 220 = .ok (.ifCond .ne 5, 3) := by decide +kernel
theorem dX15_isStep_223 : decode cX15_isStep 223 = .ok (.iconst 0, 1) := by decide +kernel
theorem dX15_isStep_224 : decode cX15_isStep 224 = .ok (.ireturn, 1) := by decide +kernel
theorem dX15_isStep_225 : decode cX15_isStep 225 = .ok (.aload_n 0, 1) := by decide +kernel
theorem dX15_isStep_226 : decode cX15_isStep 226 = .ok (.getfield 57, 3) := by decide +kernel
theorem dX15_isStep_229 : decode cX15_isStep 229 = .ok (.getfield 207, 3) := by decide +kernel
theorem dX15_isStep_232 : decode cX15_isStep 232 = .ok (.iload_n 3, 1) := by decide +kernel
theorem dX15_isStep_233 : decode cX15_isStep 233 = .ok (.aload_n 0, 1) := by decide +kernel
theorem dX15_isStep_234 : decode cX15_isStep 234 = .ok (.getfield 44, 3) := by decide +kernel
theorem dX15_isStep_237 : decode cX15_isStep 237 = .ok (.iastore, 1) := by decide +kernel
theorem dX15_isStep_238 : decode cX15_isStep 238 = .ok (.aload_n 0, 1) := by decide +kernel
theorem dX15_isStep_239 : decode cX15_isStep 239 = .ok (.aload_n 1, 1) := by decide +kernel
theorem dX15_isStep_240 : decode cX15_isStep 240 = .ok (.iload_n 2, 1) := by decide +kernel
theorem dX15_isStep_241 : decode cX15_isStep 241 = .ok (.invokevirtual 74, 3) := by decide +kernel
theorem dX15_isStep_244 : decode cX15_isStep 244 = .ok (.aload_n 0, 1) := by decide +kernel
theorem dX15_isStep_245 : decode cX15_isStep 245 = .ok (.aload_n 1, 1) := by decide +kernel
theorem dX15_isStep_246 : decode cX15_isStep 246 = .ok (.ldc 214, 2) := by decide +kernel
theorem dX15_isStep_248 : decode cX15_isStep 248 = .ok (.invokevirtual 80, 3) := by decide +kernel
theorem dX15_isStep_251 : decode cX15_isStep 251 = .ok (.ifCond .eq 45, 3) := by decide +kernel
theorem dX15_isStep_254 : decode cX15_isStep 254 = .ok (.aload_n 0, 1) := by decide +kernel
theorem dX15_isStep_255 : decode cX15_isStep 255 = .ok (.aload_n 1, 1) := by decide +kernel
theorem dX15_isStep_256 : decode cX15_isStep 256 = .ok (.iload_n 2, 1) := by decide +kernel
theorem dX15_isStep_257 : decode cX15_isStep 257 = .ok (.invokevirtual 74, 3) := by decide +kernel
theorem dX15_isStep_260 : decode cX15_isStep 260 = .ok (.aload_n 0, 1) := by decide +kernel
theorem dX15_isStep_261 : decode cX15_isStep 261 = .ok (.iconst 1, 1) := by decide +kernel
theorem dX15_isStep_262 : decode cX15_isStep 262 = .ok (.aload_n 0, 1) := by decide +kernel
theorem dX15_isStep_263 : decode cX15_isStep 263 = .ok (.getfield 57, 3) := by decide +kernel
theorem dX15_isStep_266 : decode cX15_isStep 266 = .ok (.getfield 91, 3) := by decide +kernel
theorem dX15_isStep_269 : decode cX15_isStep 269 = .ok (.invokevirtual 84, 3) := by decide +kernel
theorem dX15_isStep_272 : decode cX15_isStep 272 = .ok (.ifCond .ne 5, 3) := by decide +kernel
theorem dX15_isStep_275 : decode cX15_isStep 275 = .ok (.iconst 0, 1) := by decide +kernel
theorem dX15_isStep_276 : decode cX15_isStep 276 = .ok (.ireturn, 1) := by decide +kernel
theorem dX15_isStep_277 : decode cX15_isStep 277 = .ok (.aload_n 0, 1) := by decide +kernel
theorem dX15_isStep_278 : decode cX15_isStep 278 = .ok (.getfield 57, 3) := by decide +kernel
theorem dX15_isStep_281 : decode cX15_isStep 281 = .ok (.getfield 210, 3) := by decide +kernel
theorem dX15_isStep_284 : decode cX15_isStep 284 = .ok (.iload_n 3, 1) := by decide +kernel
theorem dX15_isStep_285 : decode cX15_isStep 285 = .ok (.aload_n 0, 1) := by decide +kernel
theorem dX15_isStep_286 : decode cX15_isStep 286 = .ok (.getfield 44, 3) := by decide +kernel
theorem dX15_isStep_289 : decode cX15_isStep 289 = .ok (.iastore, 1) := by decide +kernel
theorem dX15_isStep_290 : decode cX15_isStep 290 = .ok (.aload_n 0, 1) := by decide +kernel
theorem dX15_isStep_291 : decode cX15_isStep 291 = .ok (.aload_n 1, 1) := by decide +kernel
theorem dX15_isStep_292 : decode cX15_isStep 292 = .ok (.iload_n 2, 1) := by decide +kernel
theorem dX15_isStep_293 : decode cX15_isStep 293 = .ok (.invokevirtual 74, 3) := by decide +kernel
theorem dX15_isStep_296 : decode cX15_isStep 296 = .ok (.iconst 1, 1) := by decide +kernel
theorem dX15_isStep_297 : decode cX15_isStep 297 = .ok (.ireturn, 1) := by decide +kernel
def sX15_isStep_156 (F : Nat) (h : Hp) : Option (Int32 × Hp) := some ((0 : Int32), h)
def sX15_isStep_296 (F : Nat) (h : Hp) : Option (Int32 × Hp) := some ((1 : Int32), h)
def sX15_isStep_244 (F : Nat) (h : Hp) (x0 : Nat) (x1 : Nat) (x2 : Int32) (x3 : Int32) : Option (Int32 × Hp) := cl (sX15_isWord F h x0 x1 38) fun o_1 => br (o_1.1 = 0) (sX15_isStep_296 F o_1.2 ) (cl (sX15_nextToken F o_1.2 x0 x1 x2) fun o_3 => cl (hR o_3 x0 5) fun r_4 => cl (sX15_isNumber o_3 x0 (1 : Int32) (hI o_3 r_4 1)) fun o_5 => br (o_5.1 = 0) (some ((0 : Int32), o_5.2)) (cl (hR o_5.2 x0 5) fun r_7 => cl (hR o_5.2 r_7 9) fun r_8 => gd (inB x3 (hN o_5.2 r_8)) <| nm (wI o_5.2 r_8 x3.toNatClampNeg (hI o_5.2 x0 9)) fun h_10 => cl (sX15_nextToken F h_10 x0 x1 x2) fun o_11 => sX15_isStep_296 F o_11 ))
def sX15_isStep_158 (F : Nat) (h : Hp) (x0 : Nat) (x1 : Nat) (x2 : Int32) (x3 : Int32) : Option (Int32 × Hp) := cl (hR h x0 5) fun r_1 => cl (hR h r_1 7) fun r_2 => gd (inB x3 (hN h r_2)) <| nm (wI h r_2 x3.toNatClampNeg (hI h x0 9)) fun h_4 => cl (hR h_4 x0 5) fun r_5 => cl (hR h_4 r_5 8) fun r_6 => gd (inB x3 (hN h_4 r_6)) <| nm (wI h_4 r_6 x3.toNatClampNeg (1 : Int32)) fun h_8 => cl (hR h_8 x0 5) fun r_9 => cl (hR h_8 r_9 9) fun r_10 => gd (inB x3 (hN h_8 r_10)) <| nm (wI h_8 r_10 x3.toNatClampNeg (0 : Int32)) fun h_12 => cl (sX15_nextToken F h_12 x0 x1 x2) fun o_13 => cl (sX15_isWord F o_13 x0 x1 37) fun o_14 => br (o_14.1 = 0) (sX15_isStep_244 F o_14.2 x0 x1 x2 x3) (cl (sX15_nextToken F o_14.2 x0 x1 x2) fun o_16 => cl (sX15_isNumber o_16 x0 (2 : Int32) (7 : Int32)) fun o_17 => br (o_17.1 = 0) (some ((0 : Int32), o_17.2)) (cl (hR o_17.2 x0 5) fun r_19 => cl (hR o_17.2 r_19 8) fun r_20 => gd (inB x3 (hN o_17.2 r_20)) <| nm (wI o_17.2 r_20 x3.toNatClampNeg (hI o_17.2 x0 9)) fun h_22 => cl (sX15_nextToken F h_22 x0 x1 x2) fun o_23 => sX15_isStep_244 F o_23 x0 x1 x2 x3))
def sX15_isStep_68 (F : Nat) (h : Hp) : Option (Int32 × Hp) := some ((0 : Int32), h)
def sX15_isStep_70 (F : Nat) (k_3 : Hp → Nat → Nat → Int32 → Int32 → Int32 → Option (Int32 × Hp)) (h : Hp) (x0 : Nat) (x1 : Nat) (x2 : Int32) (x3 : Int32) (x6 : Int32) : Option (Int32 × Hp) := cl (sX15_nextToken F h x0 x1 x2) fun o_1 => k_3 o_1 x0 x1 x2 x3 x6
def sX15_isStep_52 (F : Nat) (k_3 : Hp → Nat → Nat → Int32 → Int32 → Int32 → Option (Int32 × Hp)) (h : Hp) (x0 : Nat) (x1 : Nat) (x2 : Int32) (x3 : Int32) (x6 : Int32) : Option (Int32 × Hp) := br ((x6 &&& (8 : Int32)) = 0) (sX15_isStep_70 F k_3 h x0 x1 x2 x3 x6) (br ((x6 &&& (16 : Int32)) = 0) (sX15_isStep_70 F k_3 h x0 x1 x2 x3 x6) (sX15_isStep_68 F h ))
def sX15_isStep_3 (F : Nat) : Nat → Hp → Nat → Nat → Int32 → Int32 → Int32 → Option (Int32 × Hp)
  | 0, _, _, _, _, _, _ => none
  | f + 1, h, x0, x1, x2, x3, x4 => br ((hI h x0 6) = (1 : Int32)) (cl (sX15_flagAt F h x0 x1) fun o_20 => nm (x4 ||| o_20.1) fun v_21 => br (o_20.1 = 0) (sX15_isStep_68 F o_20.2 ) (br ((x4 &&& o_20.1) = 0) (br ((v_21 &&& (1 : Int32)) = 0) (sX15_isStep_52 F (sX15_isStep_3 F f) o_20.2 x0 x1 x2 x3 v_21) (br ((v_21 &&& (2 : Int32)) = 0) (sX15_isStep_52 F (sX15_isStep_3 F f) o_20.2 x0 x1 x2 x3 v_21) (sX15_isStep_68 F o_20.2 ))) (sX15_isStep_68 F o_20.2 ))) (cl (hR h x0 5) fun r_2 => cl (hR h r_2 5) fun r_3 => gd (inB x3 (hN h r_3)) <| nm (wI h r_3 x3.toNatClampNeg x4) fun h_5 => cl (sX15_isNumber h_5 x0 (-7 : Int32) (7 : Int32)) fun o_6 => br (o_6.1 = 0) (some ((0 : Int32), o_6.2)) (cl (hR o_6.2 x0 5) fun r_8 => cl (hR o_6.2 r_8 6) fun r_9 => gd (inB x3 (hN o_6.2 r_9)) <| nm (wI o_6.2 r_9 x3.toNatClampNeg (hI o_6.2 x0 9)) fun h_11 => cl (sX15_nextToken F h_11 x0 x1 x2) fun o_12 => cl (sX15_isNumber o_12 x0 (-7 : Int32) (7 : Int32)) fun o_13 => br (o_13.1 = 0) (sX15_isStep_156 F o_13.2 ) (br ((hI o_13.2 x0 9) = 0) (cl (hR o_13.2 x0 5) fun r_16 => cl (hR o_13.2 r_16 6) fun r_17 => gd (inB x3 (hN o_13.2 r_17)) <| br ((hI o_13.2 r_17 x3.toNatClampNeg) = 0) (sX15_isStep_156 F o_13.2 ) (sX15_isStep_158 F o_13.2 x0 x1 x2 x3)) (sX15_isStep_158 F o_13.2 x0 x1 x2 x3))))
def sX15_isStep (F : Nat) (h : Hp) (x0 : Nat) (x1 : Nat) (x2 : Int32) (x3 : Int32) : Option (Int32 × Hp) := sX15_isStep_3 F F h x0 x1 x2 x3 (0 : Int32)
theorem moX15_isStep_156 {o : Int32 × Hp} {F : Nat} {h : Hp} (hE : sX15_isStep_156 F h  = some o) : Le h o.2 := by
  cases hE
  exact Le.rf _
theorem moX15_isStep_296 {o : Int32 × Hp} {F : Nat} {h : Hp} (hE : sX15_isStep_296 F h  = some o) : Le h o.2 := by
  cases hE
  exact Le.rf _
theorem moX15_isStep_244 {o : Int32 × Hp} {F : Nat} {h : Hp} {x0 : Nat} {x1 : Nat} {x2 : Int32} {x3 : Int32} (hE : sX15_isStep_244 F h x0 x1 x2 x3 = some o) : Le h o.2 := by
  obtain ⟨o_1, eo_1, hE⟩ := cl_e hE
  refine (moX15_isWord eo_1).tr ?_
  rcases br_e hE with ⟨_, hE⟩ | ⟨_, hE⟩
  · exact moX15_isStep_296 hE
  · obtain ⟨o_3, eo_3, hE⟩ := cl_e hE
    refine (moX15_nextToken eo_3).tr ?_
    obtain ⟨r_4, er_4, hE⟩ := cl_e hE
    obtain ⟨o_5, eo_5, hE⟩ := cl_e hE
    refine (moX15_isNumber eo_5).tr ?_
    rcases br_e hE with ⟨_, hE⟩ | ⟨_, hE⟩
    · cases hE
      exact Le.rf _
    · obtain ⟨r_7, er_7, hE⟩ := cl_e hE
      obtain ⟨r_8, er_8, hE⟩ := cl_e hE
      obtain ⟨g_9, hE⟩ := gd_e hE
      obtain ⟨h_10, eh_10, hE⟩ := nm_e2 hE
      refine (le_I eh_10).tr ?_
      obtain ⟨o_11, eo_11, hE⟩ := cl_e hE
      refine (moX15_nextToken eo_11).tr ?_
      exact moX15_isStep_296 hE
theorem moX15_isStep_158 {o : Int32 × Hp} {F : Nat} {h : Hp} {x0 : Nat} {x1 : Nat} {x2 : Int32} {x3 : Int32} (hE : sX15_isStep_158 F h x0 x1 x2 x3 = some o) : Le h o.2 := by
  obtain ⟨r_1, er_1, hE⟩ := cl_e hE
  obtain ⟨r_2, er_2, hE⟩ := cl_e hE
  obtain ⟨g_3, hE⟩ := gd_e hE
  obtain ⟨h_4, eh_4, hE⟩ := nm_e2 hE
  refine (le_I eh_4).tr ?_
  obtain ⟨r_5, er_5, hE⟩ := cl_e hE
  obtain ⟨r_6, er_6, hE⟩ := cl_e hE
  obtain ⟨g_7, hE⟩ := gd_e hE
  obtain ⟨h_8, eh_8, hE⟩ := nm_e2 hE
  refine (le_I eh_8).tr ?_
  obtain ⟨r_9, er_9, hE⟩ := cl_e hE
  obtain ⟨r_10, er_10, hE⟩ := cl_e hE
  obtain ⟨g_11, hE⟩ := gd_e hE
  obtain ⟨h_12, eh_12, hE⟩ := nm_e2 hE
  refine (le_I eh_12).tr ?_
  obtain ⟨o_13, eo_13, hE⟩ := cl_e hE
  refine (moX15_nextToken eo_13).tr ?_
  obtain ⟨o_14, eo_14, hE⟩ := cl_e hE
  refine (moX15_isWord eo_14).tr ?_
  rcases br_e hE with ⟨_, hE⟩ | ⟨_, hE⟩
  · exact moX15_isStep_244 hE
  · obtain ⟨o_16, eo_16, hE⟩ := cl_e hE
    refine (moX15_nextToken eo_16).tr ?_
    obtain ⟨o_17, eo_17, hE⟩ := cl_e hE
    refine (moX15_isNumber eo_17).tr ?_
    rcases br_e hE with ⟨_, hE⟩ | ⟨_, hE⟩
    · cases hE
      exact Le.rf _
    · obtain ⟨r_19, er_19, hE⟩ := cl_e hE
      obtain ⟨r_20, er_20, hE⟩ := cl_e hE
      obtain ⟨g_21, hE⟩ := gd_e hE
      obtain ⟨h_22, eh_22, hE⟩ := nm_e2 hE
      refine (le_I eh_22).tr ?_
      obtain ⟨o_23, eo_23, hE⟩ := cl_e hE
      refine (moX15_nextToken eo_23).tr ?_
      exact moX15_isStep_244 hE
theorem moX15_isStep_68 {o : Int32 × Hp} {F : Nat} {h : Hp} (hE : sX15_isStep_68 F h  = some o) : Le h o.2 := by
  cases hE
  exact Le.rf _
theorem moX15_isStep_70 {o : Int32 × Hp} {k_3 : Hp → Nat → Nat → Int32 → Int32 → Int32 → Option (Int32 × Hp)} {F : Nat} (mk_3 : ∀ (h : Hp) (x0 : Nat) (x1 : Nat) (x2 : Int32) (x3 : Int32) (x4 : Int32), k_3 h x0 x1 x2 x3 x4 = some o → Le h o.2) {h : Hp} {x0 : Nat} {x1 : Nat} {x2 : Int32} {x3 : Int32} {x6 : Int32} (hE : sX15_isStep_70 F k_3 h x0 x1 x2 x3 x6 = some o) : Le h o.2 := by
  obtain ⟨o_1, eo_1, hE⟩ := cl_e hE
  refine (moX15_nextToken eo_1).tr ?_
  exact mk_3 _ _ _ _ _ _ hE
theorem moX15_isStep_52 {o : Int32 × Hp} {k_3 : Hp → Nat → Nat → Int32 → Int32 → Int32 → Option (Int32 × Hp)} {F : Nat} (mk_3 : ∀ (h : Hp) (x0 : Nat) (x1 : Nat) (x2 : Int32) (x3 : Int32) (x4 : Int32), k_3 h x0 x1 x2 x3 x4 = some o → Le h o.2) {h : Hp} {x0 : Nat} {x1 : Nat} {x2 : Int32} {x3 : Int32} {x6 : Int32} (hE : sX15_isStep_52 F k_3 h x0 x1 x2 x3 x6 = some o) : Le h o.2 := by
  rcases br_e hE with ⟨_, hE⟩ | ⟨_, hE⟩
  · exact moX15_isStep_70 mk_3 hE
  · rcases br_e hE with ⟨_, hE⟩ | ⟨_, hE⟩
    · exact moX15_isStep_70 mk_3 hE
    · exact moX15_isStep_68 hE
theorem moX15_isStep_3 {o : Int32 × Hp} {F : Nat} : ∀ (f : Nat) {h : Hp} {x0 : Nat} {x1 : Nat} {x2 : Int32} {x3 : Int32} {x4 : Int32}, sX15_isStep_3 F f h x0 x1 x2 x3 x4 = some o → Le h o.2 := by
  intro f
  induction f with
  | zero =>
    intro h x0 x1 x2 x3 x4 hE
    rw [sX15_isStep_3] at hE
    cases hE
  | succ f ih =>
    intro h x0 x1 x2 x3 x4 hE
    rw [sX15_isStep_3] at hE
    have mk_3 : ∀ (h : Hp) (x0 : Nat) (x1 : Nat) (x2 : Int32) (x3 : Int32) (x4 : Int32), sX15_isStep_3 F f h x0 x1 x2 x3 x4 = some o → Le h o.2 := fun h x0 x1 x2 x3 x4 hE => ih hE
    rcases br_e hE with ⟨_, hE⟩ | ⟨_, hE⟩
    · obtain ⟨o_20, eo_20, hE⟩ := cl_e hE
      refine (moX15_flagAt eo_20).tr ?_
      obtain ⟨v_21, ev_21, hE⟩ := nm_e2 hE
      rcases br_e hE with ⟨_, hE⟩ | ⟨_, hE⟩
      · exact moX15_isStep_68 hE
      · rcases br_e hE with ⟨_, hE⟩ | ⟨_, hE⟩
        · rcases br_e hE with ⟨_, hE⟩ | ⟨_, hE⟩
          · exact moX15_isStep_52 mk_3 hE
          · rcases br_e hE with ⟨_, hE⟩ | ⟨_, hE⟩
            · exact moX15_isStep_52 mk_3 hE
            · exact moX15_isStep_68 hE
        · exact moX15_isStep_68 hE
    · obtain ⟨r_2, er_2, hE⟩ := cl_e hE
      obtain ⟨r_3, er_3, hE⟩ := cl_e hE
      obtain ⟨g_4, hE⟩ := gd_e hE
      obtain ⟨h_5, eh_5, hE⟩ := nm_e2 hE
      refine (le_I eh_5).tr ?_
      obtain ⟨o_6, eo_6, hE⟩ := cl_e hE
      refine (moX15_isNumber eo_6).tr ?_
      rcases br_e hE with ⟨_, hE⟩ | ⟨_, hE⟩
      · cases hE
        exact Le.rf _
      · obtain ⟨r_8, er_8, hE⟩ := cl_e hE
        obtain ⟨r_9, er_9, hE⟩ := cl_e hE
        obtain ⟨g_10, hE⟩ := gd_e hE
        obtain ⟨h_11, eh_11, hE⟩ := nm_e2 hE
        refine (le_I eh_11).tr ?_
        obtain ⟨o_12, eo_12, hE⟩ := cl_e hE
        refine (moX15_nextToken eo_12).tr ?_
        obtain ⟨o_13, eo_13, hE⟩ := cl_e hE
        refine (moX15_isNumber eo_13).tr ?_
        rcases br_e hE with ⟨_, hE⟩ | ⟨_, hE⟩
        · exact moX15_isStep_156 hE
        · rcases br_e hE with ⟨_, hE⟩ | ⟨_, hE⟩
          · obtain ⟨r_16, er_16, hE⟩ := cl_e hE
            obtain ⟨r_17, er_17, hE⟩ := cl_e hE
            obtain ⟨g_18, hE⟩ := gd_e hE
            rcases br_e hE with ⟨_, hE⟩ | ⟨_, hE⟩
            · exact moX15_isStep_156 hE
            · exact moX15_isStep_158 hE
          · exact moX15_isStep_158 hE
theorem moX15_isStep {o : Int32 × Hp} {F : Nat} {h : Hp} {x0 : Nat} {x1 : Nat} {x2 : Int32} {x3 : Int32} (hE : sX15_isStep F h x0 x1 x2 x3 = some o) : Le h o.2 := by
  exact moX15_isStep_3 _ hE
set_option maxRecDepth 20000 in
theorem bX15_isStep_156 {p : Program} {l : Launch} {e : Env} {s : State} {m : MethodId} {args : Array Value} {below : List Frame} {meth : Method} {c : Code} {X : Ec} {h0 : Hp} {o : Int32 × Hp} {F : Nat} (C : Cx X p s m args meth c RX15 cX15_isStep 7 (some .boolean) "isStep") {h : Hp} {H : Heap} {locs : List Loc} (hkm : Km h0 h) (hW : Wx X h H) (hZ : va_S (aA (eB X)) s.heap H locs) (ls : Array Slot) (hl : lv_has ls 7 []) (hE : sX15_isStep_156 F h  = some o) : W p l e (rm 6 129) s m args below meth c H locs 0 0 (MQ below (QI X h0 o.1 o.2) args s 0 0 (aA (eB X))) (F0 m 156 ls []) := by
  refine lv_iconst (v := (0 : Int32)) C.1 C.2.1 dX15_isStep_156 (by decide) ?_
  exact x_iret C rfl (by decide) hW hZ hkm hE dX15_isStep_157
set_option maxRecDepth 20000 in
theorem bX15_isStep_296 {p : Program} {l : Launch} {e : Env} {s : State} {m : MethodId} {args : Array Value} {below : List Frame} {meth : Method} {c : Code} {X : Ec} {h0 : Hp} {o : Int32 × Hp} {F : Nat} (C : Cx X p s m args meth c RX15 cX15_isStep 7 (some .boolean) "isStep") {h : Hp} {H : Heap} {locs : List Loc} (hkm : Km h0 h) (hW : Wx X h H) (hZ : va_S (aA (eB X)) s.heap H locs) (ls : Array Slot) (hl : lv_has ls 7 []) (hE : sX15_isStep_296 F h  = some o) : W p l e (rm 6 129) s m args below meth c H locs 0 0 (MQ below (QI X h0 o.1 o.2) args s 0 0 (aA (eB X))) (F0 m 296 ls []) := by
  refine lv_iconst (v := (1 : Int32)) C.1 C.2.1 dX15_isStep_296 (by decide) ?_
  exact x_iret C rfl (by decide) hW hZ hkm hE dX15_isStep_297
set_option maxRecDepth 20000 in
theorem bX15_isStep_244 {p : Program} {l : Launch} {e : Env} {s : State} {m : MethodId} {args : Array Value} {below : List Frame} {meth : Method} {c : Code} {X : Ec} {h0 : Hp} {o : Int32 × Hp} {F : Nat} (C : Cx X p s m args meth c RX15 cX15_isStep 7 (some .boolean) "isStep") {h : Hp} {x0 : Nat} {x1 : Nat} {x2 : Int32} {x3 : Int32} {H : Heap} {locs : List Loc} (k_x0 : hK h x0 = 15) (k_x1 : hK h x1 = 16) (hkm : Km h0 h) (hW : Wx X h H) (hZ : va_S (aA (eB X)) s.heap H locs) (ls : Array Slot) (hl : lv_has ls 7 [(0, .ref x0), (1, .ref x1), (2, .int x2), (3, .int x3)]) (hE : sX15_isStep_244 F h x0 x1 x2 x3 = some o) : W p l e (rm 6 129) s m args below meth c H locs 0 0 (MQ below (QI X h0 o.1 o.2) args s 0 0 (aA (eB X))) (F0 m 244 ls []) := by
  refine lv_aload_n C.1 C.2.1 dX15_isStep_244 rfl (lv_at hl 0 rfl) ?_
  refine lv_aload_n C.1 C.2.1 dX15_isStep_245 rfl (lv_at hl 1 rfl) ?_
  refine va_ldcS C.1 C.2.1 C.2.2.2.1 (C.2.2.2.2.2.2.2.2.1 38 (by decide)).2 dX15_isStep_246 ?_
  obtain ⟨o_1, eo_1, hE⟩ := cl_e hE
  refine x_kI (o := o_1) (z_runV (As := [.ref x1, .ref (X.2.2.2.1 38)]) (rest := []) C (ct_X15_isWord l X F k_x0 k_x1 (by decide) eo_1) cw_X15_80 hW hZ k_x0 (by decide) rfl rfl rfl hl.1 (Nat.le_of_ble_eq_true rfl) rfl dX15_isStep_248 ⟨Nat.le_of_ble_eq_true rfl, Nat.le_of_ble_eq_true rfl⟩ ⟨Nat.le_refl _, Nat.le_refl _⟩) hZ (fun _ _ hW km hZ => ?_)
  replace hkm := hkm.tr km
  replace k_x0 := km.at k_x0 (by decide)
  replace k_x1 := km.at k_x1 (by decide)
  refine lv_if_eq (tgt := 296) C.1 C.2.1 dX15_isStep_251 (by decide) (fun c_2 => ?_) (fun c_2 => ?_)
  · have hE := br_p hE c_2
    exact bX15_isStep_296 C hkm hW hZ _ (lv_sub hl [] rfl) hE
  · have hE := br_n hE c_2
    refine lv_aload_n C.1 C.2.1 dX15_isStep_254 rfl (lv_at hl 0 rfl) ?_
    refine lv_aload_n C.1 C.2.1 dX15_isStep_255 rfl (lv_at hl 1 rfl) ?_
    refine lv_iload_n C.1 C.2.1 dX15_isStep_256 rfl (lv_at hl 2 rfl) ?_
    obtain ⟨o_3, eo_3, hE⟩ := cl_e hE
    refine x_kV (o := o_3) (z_runV (As := [.ref x1, .int x2]) (rest := []) C (ct_X15_nextToken l X F k_x0 k_x1 eo_3) cw_X15_74 hW hZ k_x0 (by decide) rfl rfl rfl hl.1 (Nat.le_of_ble_eq_true rfl) rfl dX15_isStep_257 ⟨Nat.le_of_ble_eq_true rfl, Nat.le_of_ble_eq_true rfl⟩ ⟨Nat.le_refl _, Nat.le_refl _⟩) hZ (fun _ _ hW km hZ => ?_)
    replace hkm := hkm.tr km
    replace k_x0 := km.at k_x0 (by decide)
    replace k_x1 := km.at k_x1 (by decide)
    refine lv_aload_n C.1 C.2.1 dX15_isStep_260 rfl (lv_at hl 0 rfl) ?_
    refine lv_iconst (v := (1 : Int32)) C.1 C.2.1 dX15_isStep_261 (by decide) ?_
    refine lv_aload_n C.1 C.2.1 dX15_isStep_262 rfl (lv_at hl 0 rfl) ?_
    obtain ⟨r_4, er_4, hE⟩ := cl_e hE
    refine gf_X15_57 C hW k_x0 er_4 dX15_isStep_263 (fun k_r_4 => ?_)
    refine gf_X15_91 C hW k_r_4 dX15_isStep_266 ?_
    obtain ⟨o_5, eo_5, hE⟩ := cl_e hE
    refine x_kI (o := o_5) (z_runV (As := [.int (1 : Int32), .int (hI o_3 r_4 1)]) (rest := []) C (ct_X15_isNumber l X k_x0 eo_5) cw_X15_84 hW hZ k_x0 (by decide) rfl rfl rfl hl.1 (Nat.le_of_ble_eq_true rfl) rfl dX15_isStep_269 ⟨Nat.le_of_ble_eq_true rfl, Nat.le_of_ble_eq_true rfl⟩ ⟨Nat.le_refl _, Nat.le_refl _⟩) hZ (fun _ _ hW km hZ => ?_)
    replace hkm := hkm.tr km
    replace k_x0 := km.at k_x0 (by decide)
    replace k_x1 := km.at k_x1 (by decide)
    refine lv_if_ne (tgt := 277) C.1 C.2.1 dX15_isStep_272 (by decide) (fun c_6 => ?_) (fun c_6 => ?_)
    · have hE := br_n hE c_6
      refine lv_aload_n C.1 C.2.1 dX15_isStep_277 rfl (lv_at hl 0 rfl) ?_
      obtain ⟨r_7, er_7, hE⟩ := cl_e hE
      refine gf_X15_57 C hW k_x0 er_7 dX15_isStep_278 (fun k_r_7 => ?_)
      obtain ⟨r_8, er_8, hE⟩ := cl_e hE
      refine gf_X15_210 C hW k_r_7 er_8 dX15_isStep_281 (fun k_r_8 => ?_)
      refine lv_iload_n C.1 C.2.1 dX15_isStep_284 rfl (lv_at hl 3 rfl) ?_
      refine lv_aload_n C.1 C.2.1 dX15_isStep_285 rfl (lv_at hl 0 rfl) ?_
      refine gf_X15_44 C hW k_x0 dX15_isStep_286 ?_
      obtain ⟨g_9, hE⟩ := gd_e hE
      obtain ⟨h_10, eh_10, hE⟩ := nm_e2 hE
      refine y_iast C hW hZ k_r_8 g_9 eh_10 dX15_isStep_289 (fun _ _ hW km hZ => ?_)
      replace hkm := hkm.tr km
      replace k_x0 := km.at k_x0 (by decide)
      replace k_x1 := km.at k_x1 (by decide)
      refine lv_aload_n C.1 C.2.1 dX15_isStep_290 rfl (lv_at hl 0 rfl) ?_
      refine lv_aload_n C.1 C.2.1 dX15_isStep_291 rfl (lv_at hl 1 rfl) ?_
      refine lv_iload_n C.1 C.2.1 dX15_isStep_292 rfl (lv_at hl 2 rfl) ?_
      obtain ⟨o_11, eo_11, hE⟩ := cl_e hE
      refine x_kV (o := o_11) (z_runV (As := [.ref x1, .int x2]) (rest := []) C (ct_X15_nextToken l X F k_x0 k_x1 eo_11) cw_X15_74 hW hZ k_x0 (by decide) rfl rfl rfl hl.1 (Nat.le_of_ble_eq_true rfl) rfl dX15_isStep_293 ⟨Nat.le_of_ble_eq_true rfl, Nat.le_of_ble_eq_true rfl⟩ ⟨Nat.le_refl _, Nat.le_refl _⟩) hZ (fun _ _ hW km hZ => ?_)
      replace hkm := hkm.tr km
      replace k_x0 := km.at k_x0 (by decide)
      replace k_x1 := km.at k_x1 (by decide)
      exact bX15_isStep_296 C hkm hW hZ _ (lv_sub hl [] rfl) hE
    · have hE := br_p hE c_6
      refine lv_iconst (v := (0 : Int32)) C.1 C.2.1 dX15_isStep_275 (by decide) ?_
      exact x_iret C rfl (by decide) hW hZ hkm hE dX15_isStep_276
set_option maxRecDepth 20000 in
theorem bX15_isStep_158 {p : Program} {l : Launch} {e : Env} {s : State} {m : MethodId} {args : Array Value} {below : List Frame} {meth : Method} {c : Code} {X : Ec} {h0 : Hp} {o : Int32 × Hp} {F : Nat} (C : Cx X p s m args meth c RX15 cX15_isStep 7 (some .boolean) "isStep") {h : Hp} {x0 : Nat} {x1 : Nat} {x2 : Int32} {x3 : Int32} {H : Heap} {locs : List Loc} (k_x0 : hK h x0 = 15) (k_x1 : hK h x1 = 16) (hkm : Km h0 h) (hW : Wx X h H) (hZ : va_S (aA (eB X)) s.heap H locs) (ls : Array Slot) (hl : lv_has ls 7 [(0, .ref x0), (1, .ref x1), (2, .int x2), (3, .int x3)]) (hE : sX15_isStep_158 F h x0 x1 x2 x3 = some o) : W p l e (rm 6 129) s m args below meth c H locs 0 0 (MQ below (QI X h0 o.1 o.2) args s 0 0 (aA (eB X))) (F0 m 158 ls []) := by
  refine lv_aload_n C.1 C.2.1 dX15_isStep_158 rfl (lv_at hl 0 rfl) ?_
  obtain ⟨r_1, er_1, hE⟩ := cl_e hE
  refine gf_X15_57 C hW k_x0 er_1 dX15_isStep_159 (fun k_r_1 => ?_)
  obtain ⟨r_2, er_2, hE⟩ := cl_e hE
  refine gf_X15_204 C hW k_r_1 er_2 dX15_isStep_162 (fun k_r_2 => ?_)
  refine lv_iload_n C.1 C.2.1 dX15_isStep_165 rfl (lv_at hl 3 rfl) ?_
  refine lv_aload_n C.1 C.2.1 dX15_isStep_166 rfl (lv_at hl 0 rfl) ?_
  refine gf_X15_44 C hW k_x0 dX15_isStep_167 ?_
  obtain ⟨g_3, hE⟩ := gd_e hE
  obtain ⟨h_4, eh_4, hE⟩ := nm_e2 hE
  refine y_iast C hW hZ k_r_2 g_3 eh_4 dX15_isStep_170 (fun _ _ hW km hZ => ?_)
  replace hkm := hkm.tr km
  replace k_x0 := km.at k_x0 (by decide)
  replace k_x1 := km.at k_x1 (by decide)
  refine lv_aload_n C.1 C.2.1 dX15_isStep_171 rfl (lv_at hl 0 rfl) ?_
  obtain ⟨r_5, er_5, hE⟩ := cl_e hE
  refine gf_X15_57 C hW k_x0 er_5 dX15_isStep_172 (fun k_r_5 => ?_)
  obtain ⟨r_6, er_6, hE⟩ := cl_e hE
  refine gf_X15_207 C hW k_r_5 er_6 dX15_isStep_175 (fun k_r_6 => ?_)
  refine lv_iload_n C.1 C.2.1 dX15_isStep_178 rfl (lv_at hl 3 rfl) ?_
  refine lv_iconst (v := (1 : Int32)) C.1 C.2.1 dX15_isStep_179 (by decide) ?_
  obtain ⟨g_7, hE⟩ := gd_e hE
  obtain ⟨h_8, eh_8, hE⟩ := nm_e2 hE
  refine y_iast C hW hZ k_r_6 g_7 eh_8 dX15_isStep_180 (fun _ _ hW km hZ => ?_)
  replace hkm := hkm.tr km
  replace k_x0 := km.at k_x0 (by decide)
  replace k_x1 := km.at k_x1 (by decide)
  refine lv_aload_n C.1 C.2.1 dX15_isStep_181 rfl (lv_at hl 0 rfl) ?_
  obtain ⟨r_9, er_9, hE⟩ := cl_e hE
  refine gf_X15_57 C hW k_x0 er_9 dX15_isStep_182 (fun k_r_9 => ?_)
  obtain ⟨r_10, er_10, hE⟩ := cl_e hE
  refine gf_X15_210 C hW k_r_9 er_10 dX15_isStep_185 (fun k_r_10 => ?_)
  refine lv_iload_n C.1 C.2.1 dX15_isStep_188 rfl (lv_at hl 3 rfl) ?_
  refine lv_iconst (v := (0 : Int32)) C.1 C.2.1 dX15_isStep_189 (by decide) ?_
  obtain ⟨g_11, hE⟩ := gd_e hE
  obtain ⟨h_12, eh_12, hE⟩ := nm_e2 hE
  refine y_iast C hW hZ k_r_10 g_11 eh_12 dX15_isStep_190 (fun _ _ hW km hZ => ?_)
  replace hkm := hkm.tr km
  replace k_x0 := km.at k_x0 (by decide)
  replace k_x1 := km.at k_x1 (by decide)
  refine lv_aload_n C.1 C.2.1 dX15_isStep_191 rfl (lv_at hl 0 rfl) ?_
  refine lv_aload_n C.1 C.2.1 dX15_isStep_192 rfl (lv_at hl 1 rfl) ?_
  refine lv_iload_n C.1 C.2.1 dX15_isStep_193 rfl (lv_at hl 2 rfl) ?_
  obtain ⟨o_13, eo_13, hE⟩ := cl_e hE
  refine x_kV (o := o_13) (z_runV (As := [.ref x1, .int x2]) (rest := []) C (ct_X15_nextToken l X F k_x0 k_x1 eo_13) cw_X15_74 hW hZ k_x0 (by decide) rfl rfl rfl hl.1 (Nat.le_of_ble_eq_true rfl) rfl dX15_isStep_194 ⟨Nat.le_of_ble_eq_true rfl, Nat.le_of_ble_eq_true rfl⟩ ⟨Nat.le_refl _, Nat.le_refl _⟩) hZ (fun _ _ hW km hZ => ?_)
  replace hkm := hkm.tr km
  replace k_x0 := km.at k_x0 (by decide)
  replace k_x1 := km.at k_x1 (by decide)
  refine lv_aload_n C.1 C.2.1 dX15_isStep_197 rfl (lv_at hl 0 rfl) ?_
  refine lv_aload_n C.1 C.2.1 dX15_isStep_198 rfl (lv_at hl 1 rfl) ?_
  refine va_ldcS C.1 C.2.1 C.2.2.2.1 (C.2.2.2.2.2.2.2.2.1 37 (by decide)).2 dX15_isStep_199 ?_
  obtain ⟨o_14, eo_14, hE⟩ := cl_e hE
  refine x_kI (o := o_14) (z_runV (As := [.ref x1, .ref (X.2.2.2.1 37)]) (rest := []) C (ct_X15_isWord l X F k_x0 k_x1 (by decide) eo_14) cw_X15_80 hW hZ k_x0 (by decide) rfl rfl rfl hl.1 (Nat.le_of_ble_eq_true rfl) rfl dX15_isStep_201 ⟨Nat.le_of_ble_eq_true rfl, Nat.le_of_ble_eq_true rfl⟩ ⟨Nat.le_refl _, Nat.le_refl _⟩) hZ (fun _ _ hW km hZ => ?_)
  replace hkm := hkm.tr km
  replace k_x0 := km.at k_x0 (by decide)
  replace k_x1 := km.at k_x1 (by decide)
  refine lv_if_eq (tgt := 244) C.1 C.2.1 dX15_isStep_204 (by decide) (fun c_15 => ?_) (fun c_15 => ?_)
  · have hE := br_p hE c_15
    exact bX15_isStep_244 C k_x0 k_x1 hkm hW hZ _ (lv_sub hl [0, 1, 2, 3] rfl) hE
  · have hE := br_n hE c_15
    refine lv_aload_n C.1 C.2.1 dX15_isStep_207 rfl (lv_at hl 0 rfl) ?_
    refine lv_aload_n C.1 C.2.1 dX15_isStep_208 rfl (lv_at hl 1 rfl) ?_
    refine lv_iload_n C.1 C.2.1 dX15_isStep_209 rfl (lv_at hl 2 rfl) ?_
    obtain ⟨o_16, eo_16, hE⟩ := cl_e hE
    refine x_kV (o := o_16) (z_runV (As := [.ref x1, .int x2]) (rest := []) C (ct_X15_nextToken l X F k_x0 k_x1 eo_16) cw_X15_74 hW hZ k_x0 (by decide) rfl rfl rfl hl.1 (Nat.le_of_ble_eq_true rfl) rfl dX15_isStep_210 ⟨Nat.le_of_ble_eq_true rfl, Nat.le_of_ble_eq_true rfl⟩ ⟨Nat.le_refl _, Nat.le_refl _⟩) hZ (fun _ _ hW km hZ => ?_)
    replace hkm := hkm.tr km
    replace k_x0 := km.at k_x0 (by decide)
    replace k_x1 := km.at k_x1 (by decide)
    refine lv_aload_n C.1 C.2.1 dX15_isStep_213 rfl (lv_at hl 0 rfl) ?_
    refine lv_iconst (v := (2 : Int32)) C.1 C.2.1 dX15_isStep_214 (by decide) ?_
    refine lv_bipush (v := (7 : Int32)) C.1 C.2.1 dX15_isStep_215 (by decide) ?_
    obtain ⟨o_17, eo_17, hE⟩ := cl_e hE
    refine x_kI (o := o_17) (z_runV (As := [.int (2 : Int32), .int (7 : Int32)]) (rest := []) C (ct_X15_isNumber l X k_x0 eo_17) cw_X15_84 hW hZ k_x0 (by decide) rfl rfl rfl hl.1 (Nat.le_of_ble_eq_true rfl) rfl dX15_isStep_217 ⟨Nat.le_of_ble_eq_true rfl, Nat.le_of_ble_eq_true rfl⟩ ⟨Nat.le_refl _, Nat.le_refl _⟩) hZ (fun _ _ hW km hZ => ?_)
    replace hkm := hkm.tr km
    replace k_x0 := km.at k_x0 (by decide)
    replace k_x1 := km.at k_x1 (by decide)
    refine lv_if_ne (tgt := 225) C.1 C.2.1 dX15_isStep_220 (by decide) (fun c_18 => ?_) (fun c_18 => ?_)
    · have hE := br_n hE c_18
      refine lv_aload_n C.1 C.2.1 dX15_isStep_225 rfl (lv_at hl 0 rfl) ?_
      obtain ⟨r_19, er_19, hE⟩ := cl_e hE
      refine gf_X15_57 C hW k_x0 er_19 dX15_isStep_226 (fun k_r_19 => ?_)
      obtain ⟨r_20, er_20, hE⟩ := cl_e hE
      refine gf_X15_207 C hW k_r_19 er_20 dX15_isStep_229 (fun k_r_20 => ?_)
      refine lv_iload_n C.1 C.2.1 dX15_isStep_232 rfl (lv_at hl 3 rfl) ?_
      refine lv_aload_n C.1 C.2.1 dX15_isStep_233 rfl (lv_at hl 0 rfl) ?_
      refine gf_X15_44 C hW k_x0 dX15_isStep_234 ?_
      obtain ⟨g_21, hE⟩ := gd_e hE
      obtain ⟨h_22, eh_22, hE⟩ := nm_e2 hE
      refine y_iast C hW hZ k_r_20 g_21 eh_22 dX15_isStep_237 (fun _ _ hW km hZ => ?_)
      replace hkm := hkm.tr km
      replace k_x0 := km.at k_x0 (by decide)
      replace k_x1 := km.at k_x1 (by decide)
      refine lv_aload_n C.1 C.2.1 dX15_isStep_238 rfl (lv_at hl 0 rfl) ?_
      refine lv_aload_n C.1 C.2.1 dX15_isStep_239 rfl (lv_at hl 1 rfl) ?_
      refine lv_iload_n C.1 C.2.1 dX15_isStep_240 rfl (lv_at hl 2 rfl) ?_
      obtain ⟨o_23, eo_23, hE⟩ := cl_e hE
      refine x_kV (o := o_23) (z_runV (As := [.ref x1, .int x2]) (rest := []) C (ct_X15_nextToken l X F k_x0 k_x1 eo_23) cw_X15_74 hW hZ k_x0 (by decide) rfl rfl rfl hl.1 (Nat.le_of_ble_eq_true rfl) rfl dX15_isStep_241 ⟨Nat.le_of_ble_eq_true rfl, Nat.le_of_ble_eq_true rfl⟩ ⟨Nat.le_refl _, Nat.le_refl _⟩) hZ (fun _ _ hW km hZ => ?_)
      replace hkm := hkm.tr km
      replace k_x0 := km.at k_x0 (by decide)
      replace k_x1 := km.at k_x1 (by decide)
      exact bX15_isStep_244 C k_x0 k_x1 hkm hW hZ _ (lv_sub hl [0, 1, 2, 3] rfl) hE
    · have hE := br_p hE c_18
      refine lv_iconst (v := (0 : Int32)) C.1 C.2.1 dX15_isStep_223 (by decide) ?_
      exact x_iret C rfl (by decide) hW hZ hkm hE dX15_isStep_224
set_option maxRecDepth 20000 in
theorem bX15_isStep_68 {p : Program} {l : Launch} {e : Env} {s : State} {m : MethodId} {args : Array Value} {below : List Frame} {meth : Method} {c : Code} {X : Ec} {h0 : Hp} {o : Int32 × Hp} {F : Nat} (C : Cx X p s m args meth c RX15 cX15_isStep 7 (some .boolean) "isStep") {h : Hp} {H : Heap} {locs : List Loc} (hkm : Km h0 h) (hW : Wx X h H) (hZ : va_S (aA (eB X)) s.heap H locs) (ls : Array Slot) (hl : lv_has ls 7 []) (hE : sX15_isStep_68 F h  = some o) : W p l e (rm 6 129) s m args below meth c H locs 0 0 (MQ below (QI X h0 o.1 o.2) args s 0 0 (aA (eB X))) (F0 m 68 ls []) := by
  refine lv_iconst (v := (0 : Int32)) C.1 C.2.1 dX15_isStep_68 (by decide) ?_
  exact x_iret C rfl (by decide) hW hZ hkm hE dX15_isStep_69
set_option maxRecDepth 20000 in
theorem bX15_isStep_70 {p : Program} {l : Launch} {e : Env} {s : State} {m : MethodId} {args : Array Value} {below : List Frame} {meth : Method} {c : Code} {X : Ec} {h0 : Hp} {o : Int32 × Hp} {k_3 : Hp → Nat → Nat → Int32 → Int32 → Int32 → Option (Int32 × Hp)} {F : Nat} (C : Cx X p s m args meth c RX15 cX15_isStep 7 (some .boolean) "isStep") (hk_3 : ∀ (h : Hp) (x0 : Nat) (x1 : Nat) (x2 : Int32) (x3 : Int32) (x4 : Int32) (H : Heap) (locs : List Loc), hK h x0 = 15 → hK h x1 = 16 → Km h0 h → Wx X h H → va_S (aA (eB X)) s.heap H locs → ∀ (ls : Array Slot), lv_has ls 7 [(0, .ref x0), (1, .ref x1), (2, .int x2), (3, .int x3), (4, .int x4)] → k_3 h x0 x1 x2 x3 x4 = some o → W p l e (rm 6 129) s m args below meth c H locs 0 0 (MQ below (QI X h0 o.1 o.2) args s 0 0 (aA (eB X))) (F0 m 3 ls [])) {h : Hp} {x0 : Nat} {x1 : Nat} {x2 : Int32} {x3 : Int32} {x6 : Int32} {H : Heap} {locs : List Loc} (k_x0 : hK h x0 = 15) (k_x1 : hK h x1 = 16) (hkm : Km h0 h) (hW : Wx X h H) (hZ : va_S (aA (eB X)) s.heap H locs) (ls : Array Slot) (hl : lv_has ls 7 [(0, .ref x0), (1, .ref x1), (2, .int x2), (3, .int x3), (6, .int x6)]) (hE : sX15_isStep_70 F k_3 h x0 x1 x2 x3 x6 = some o) : W p l e (rm 6 129) s m args below meth c H locs 0 0 (MQ below (QI X h0 o.1 o.2) args s 0 0 (aA (eB X))) (F0 m 70 ls []) := by
  refine lv_iload C.1 C.2.1 dX15_isStep_70 (lv_at hl 4 rfl) ?_
  refine lv_istore (lv' := [(4, .int x6), (0, .ref x0), (1, .ref x1), (2, .int x2), (3, .int x3), (6, .int x6)]) C.1 C.2.1 dX15_isStep_72 hl (by decide) rfl (fun ls hl => ?_)
  refine lv_aload_n C.1 C.2.1 dX15_isStep_74 rfl (lv_at hl 1 rfl) ?_
  refine lv_aload_n C.1 C.2.1 dX15_isStep_75 rfl (lv_at hl 2 rfl) ?_
  refine lv_iload_n C.1 C.2.1 dX15_isStep_76 rfl (lv_at hl 3 rfl) ?_
  obtain ⟨o_1, eo_1, hE⟩ := cl_e hE
  refine x_kV (o := o_1) (z_runV (As := [.ref x1, .int x2]) (rest := []) C (ct_X15_nextToken l X F k_x0 k_x1 eo_1) cw_X15_74 hW hZ k_x0 (by decide) rfl rfl rfl hl.1 (Nat.le_of_ble_eq_true rfl) rfl dX15_isStep_77 ⟨Nat.le_of_ble_eq_true rfl, Nat.le_of_ble_eq_true rfl⟩ ⟨Nat.le_refl _, Nat.le_refl _⟩) hZ (fun _ _ hW km hZ => ?_)
  replace hkm := hkm.tr km
  replace k_x0 := km.at k_x0 (by decide)
  replace k_x1 := km.at k_x1 (by decide)
  refine lv_goto (tgt := 3) C.1 C.2.1 dX15_isStep_80 (by decide) ?_
  exact hk_3 _ _ _ _ _ _ _ _ k_x0 k_x1 hkm hW hZ _ (lv_sub hl [1, 2, 3, 4, 0] rfl) hE
set_option maxRecDepth 20000 in
theorem bX15_isStep_52 {p : Program} {l : Launch} {e : Env} {s : State} {m : MethodId} {args : Array Value} {below : List Frame} {meth : Method} {c : Code} {X : Ec} {h0 : Hp} {o : Int32 × Hp} {k_3 : Hp → Nat → Nat → Int32 → Int32 → Int32 → Option (Int32 × Hp)} {F : Nat} (C : Cx X p s m args meth c RX15 cX15_isStep 7 (some .boolean) "isStep") (hk_3 : ∀ (h : Hp) (x0 : Nat) (x1 : Nat) (x2 : Int32) (x3 : Int32) (x4 : Int32) (H : Heap) (locs : List Loc), hK h x0 = 15 → hK h x1 = 16 → Km h0 h → Wx X h H → va_S (aA (eB X)) s.heap H locs → ∀ (ls : Array Slot), lv_has ls 7 [(0, .ref x0), (1, .ref x1), (2, .int x2), (3, .int x3), (4, .int x4)] → k_3 h x0 x1 x2 x3 x4 = some o → W p l e (rm 6 129) s m args below meth c H locs 0 0 (MQ below (QI X h0 o.1 o.2) args s 0 0 (aA (eB X))) (F0 m 3 ls [])) {h : Hp} {x0 : Nat} {x1 : Nat} {x2 : Int32} {x3 : Int32} {x6 : Int32} {H : Heap} {locs : List Loc} (k_x0 : hK h x0 = 15) (k_x1 : hK h x1 = 16) (hkm : Km h0 h) (hW : Wx X h H) (hZ : va_S (aA (eB X)) s.heap H locs) (ls : Array Slot) (hl : lv_has ls 7 [(0, .ref x0), (1, .ref x1), (2, .int x2), (3, .int x3), (6, .int x6)]) (hE : sX15_isStep_52 F k_3 h x0 x1 x2 x3 x6 = some o) : W p l e (rm 6 129) s m args below meth c H locs 0 0 (MQ below (QI X h0 o.1 o.2) args s 0 0 (aA (eB X))) (F0 m 52 ls []) := by
  refine lv_iload C.1 C.2.1 dX15_isStep_52 (lv_at hl 4 rfl) ?_
  refine lv_bipush (v := (8 : Int32)) C.1 C.2.1 dX15_isStep_54 (by decide) ?_
  refine lv_iand C.1 C.2.1 dX15_isStep_56 ?_
  refine lv_if_eq (tgt := 70) C.1 C.2.1 dX15_isStep_57 (by decide) (fun c_1 => ?_) (fun c_1 => ?_)
  · have hE := br_p hE c_1
    exact bX15_isStep_70 C hk_3 k_x0 k_x1 hkm hW hZ _ (lv_sub hl [0, 1, 2, 3, 4] rfl) hE
  · have hE := br_n hE c_1
    refine lv_iload C.1 C.2.1 dX15_isStep_60 (lv_at hl 4 rfl) ?_
    refine lv_bipush (v := (16 : Int32)) C.1 C.2.1 dX15_isStep_62 (by decide) ?_
    refine lv_iand C.1 C.2.1 dX15_isStep_64 ?_
    refine lv_if_eq (tgt := 70) C.1 C.2.1 dX15_isStep_65 (by decide) (fun c_2 => ?_) (fun c_2 => ?_)
    · have hE := br_p hE c_2
      exact bX15_isStep_70 C hk_3 k_x0 k_x1 hkm hW hZ _ (lv_sub hl [0, 1, 2, 3, 4] rfl) hE
    · have hE := br_n hE c_2
      exact bX15_isStep_68 C hkm hW hZ _ (lv_sub hl [] rfl) hE
set_option maxRecDepth 20000 in
theorem bX15_isStep_3 {p : Program} {l : Launch} {e : Env} {s : State} {m : MethodId} {args : Array Value} {below : List Frame} {meth : Method} {c : Code} {X : Ec} {h0 : Hp} {o : Int32 × Hp} {F : Nat} (C : Cx X p s m args meth c RX15 cX15_isStep 7 (some .boolean) "isStep") : ∀ (f : Nat) {h : Hp} {x0 : Nat} {x1 : Nat} {x2 : Int32} {x3 : Int32} {x4 : Int32} {H : Heap} {locs : List Loc} (k_x0 : hK h x0 = 15) (k_x1 : hK h x1 = 16), Km h0 h → Wx X h H → va_S (aA (eB X)) s.heap H locs → ∀ (ls : Array Slot), lv_has ls 7 [(0, .ref x0), (1, .ref x1), (2, .int x2), (3, .int x3), (4, .int x4)] → sX15_isStep_3 F f h x0 x1 x2 x3 x4 = some o → W p l e (rm 6 129) s m args below meth c H locs 0 0 (MQ below (QI X h0 o.1 o.2) args s 0 0 (aA (eB X))) (F0 m 3 ls []) := by
  intro f
  induction f with
  | zero =>
    intro h x0 x1 x2 x3 x4 H locs k_x0 k_x1 hkm hW hZ ls hl hE
    rw [sX15_isStep_3] at hE
    cases hE
  | succ f ih =>
    intro h x0 x1 x2 x3 x4 H locs k_x0 k_x1 hkm hW hZ ls hl hE
    rw [sX15_isStep_3] at hE
    have hk_3 : ∀ (h : Hp) (x0 : Nat) (x1 : Nat) (x2 : Int32) (x3 : Int32) (x4 : Int32) (H : Heap) (locs : List Loc), hK h x0 = 15 → hK h x1 = 16 → Km h0 h → Wx X h H → va_S (aA (eB X)) s.heap H locs → ∀ (ls : Array Slot), lv_has ls 7 [(0, .ref x0), (1, .ref x1), (2, .int x2), (3, .int x3), (4, .int x4)] → sX15_isStep_3 F f h x0 x1 x2 x3 x4 = some o → W p l e (rm 6 129) s m args below meth c H locs 0 0 (MQ below (QI X h0 o.1 o.2) args s 0 0 (aA (eB X))) (F0 m 3 ls []) := fun h x0 x1 x2 x3 x4 H locs k_x0 k_x1 a b c ls hl hE => ih k_x0 k_x1 a b c ls hl hE
    refine lv_aload_n C.1 C.2.1 dX15_isStep_3 rfl (lv_at hl 0 rfl) ?_
    refine gf_X15_34 C hW k_x0 dX15_isStep_4 ?_
    refine lv_iconst (v := (1 : Int32)) C.1 C.2.1 dX15_isStep_7 (by decide) ?_
    refine lv_icmp_ne (tgt := 83) C.1 C.2.1 dX15_isStep_8 (by decide) (fun c_1 => ?_) (fun c_1 => ?_)
    · have hE := br_n hE c_1
      refine lv_aload_n C.1 C.2.1 dX15_isStep_83 rfl (lv_at hl 0 rfl) ?_
      obtain ⟨r_2, er_2, hE⟩ := cl_e hE
      refine gf_X15_57 C hW k_x0 er_2 dX15_isStep_84 (fun k_r_2 => ?_)
      obtain ⟨r_3, er_3, hE⟩ := cl_e hE
      refine gf_X15_198 C hW k_r_2 er_3 dX15_isStep_87 (fun k_r_3 => ?_)
      refine lv_iload_n C.1 C.2.1 dX15_isStep_90 rfl (lv_at hl 3 rfl) ?_
      refine lv_iload C.1 C.2.1 dX15_isStep_91 (lv_at hl 4 rfl) ?_
      obtain ⟨g_4, hE⟩ := gd_e hE
      obtain ⟨h_5, eh_5, hE⟩ := nm_e2 hE
      refine y_iast C hW hZ k_r_3 g_4 eh_5 dX15_isStep_93 (fun _ _ hW km hZ => ?_)
      replace hkm := hkm.tr km
      replace k_x0 := km.at k_x0 (by decide)
      replace k_x1 := km.at k_x1 (by decide)
      refine lv_aload_n C.1 C.2.1 dX15_isStep_94 rfl (lv_at hl 0 rfl) ?_
      refine lv_bipush (v := (-7 : Int32)) C.1 C.2.1 dX15_isStep_95 (by decide) ?_
      refine lv_bipush (v := (7 : Int32)) C.1 C.2.1 dX15_isStep_97 (by decide) ?_
      obtain ⟨o_6, eo_6, hE⟩ := cl_e hE
      refine x_kI (o := o_6) (z_runV (As := [.int (-7 : Int32), .int (7 : Int32)]) (rest := []) C (ct_X15_isNumber l X k_x0 eo_6) cw_X15_84 hW hZ k_x0 (by decide) rfl rfl rfl hl.1 (Nat.le_of_ble_eq_true rfl) rfl dX15_isStep_99 ⟨Nat.le_of_ble_eq_true rfl, Nat.le_of_ble_eq_true rfl⟩ ⟨Nat.le_refl _, Nat.le_refl _⟩) hZ (fun _ _ hW km hZ => ?_)
      replace hkm := hkm.tr km
      replace k_x0 := km.at k_x0 (by decide)
      replace k_x1 := km.at k_x1 (by decide)
      refine lv_if_ne (tgt := 107) C.1 C.2.1 dX15_isStep_102 (by decide) (fun c_7 => ?_) (fun c_7 => ?_)
      · have hE := br_n hE c_7
        refine lv_aload_n C.1 C.2.1 dX15_isStep_107 rfl (lv_at hl 0 rfl) ?_
        obtain ⟨r_8, er_8, hE⟩ := cl_e hE
        refine gf_X15_57 C hW k_x0 er_8 dX15_isStep_108 (fun k_r_8 => ?_)
        obtain ⟨r_9, er_9, hE⟩ := cl_e hE
        refine gf_X15_201 C hW k_r_8 er_9 dX15_isStep_111 (fun k_r_9 => ?_)
        refine lv_iload_n C.1 C.2.1 dX15_isStep_114 rfl (lv_at hl 3 rfl) ?_
        refine lv_aload_n C.1 C.2.1 dX15_isStep_115 rfl (lv_at hl 0 rfl) ?_
        refine gf_X15_44 C hW k_x0 dX15_isStep_116 ?_
        obtain ⟨g_10, hE⟩ := gd_e hE
        obtain ⟨h_11, eh_11, hE⟩ := nm_e2 hE
        refine y_iast C hW hZ k_r_9 g_10 eh_11 dX15_isStep_119 (fun _ _ hW km hZ => ?_)
        replace hkm := hkm.tr km
        replace k_x0 := km.at k_x0 (by decide)
        replace k_x1 := km.at k_x1 (by decide)
        refine lv_aload_n C.1 C.2.1 dX15_isStep_120 rfl (lv_at hl 0 rfl) ?_
        refine lv_aload_n C.1 C.2.1 dX15_isStep_121 rfl (lv_at hl 1 rfl) ?_
        refine lv_iload_n C.1 C.2.1 dX15_isStep_122 rfl (lv_at hl 2 rfl) ?_
        obtain ⟨o_12, eo_12, hE⟩ := cl_e hE
        refine x_kV (o := o_12) (z_runV (As := [.ref x1, .int x2]) (rest := []) C (ct_X15_nextToken l X F k_x0 k_x1 eo_12) cw_X15_74 hW hZ k_x0 (by decide) rfl rfl rfl hl.1 (Nat.le_of_ble_eq_true rfl) rfl dX15_isStep_123 ⟨Nat.le_of_ble_eq_true rfl, Nat.le_of_ble_eq_true rfl⟩ ⟨Nat.le_refl _, Nat.le_refl _⟩) hZ (fun _ _ hW km hZ => ?_)
        replace hkm := hkm.tr km
        replace k_x0 := km.at k_x0 (by decide)
        replace k_x1 := km.at k_x1 (by decide)
        refine lv_aload_n C.1 C.2.1 dX15_isStep_126 rfl (lv_at hl 0 rfl) ?_
        refine lv_bipush (v := (-7 : Int32)) C.1 C.2.1 dX15_isStep_127 (by decide) ?_
        refine lv_bipush (v := (7 : Int32)) C.1 C.2.1 dX15_isStep_129 (by decide) ?_
        obtain ⟨o_13, eo_13, hE⟩ := cl_e hE
        refine x_kI (o := o_13) (z_runV (As := [.int (-7 : Int32), .int (7 : Int32)]) (rest := []) C (ct_X15_isNumber l X k_x0 eo_13) cw_X15_84 hW hZ k_x0 (by decide) rfl rfl rfl hl.1 (Nat.le_of_ble_eq_true rfl) rfl dX15_isStep_131 ⟨Nat.le_of_ble_eq_true rfl, Nat.le_of_ble_eq_true rfl⟩ ⟨Nat.le_refl _, Nat.le_refl _⟩) hZ (fun _ _ hW km hZ => ?_)
        replace hkm := hkm.tr km
        replace k_x0 := km.at k_x0 (by decide)
        replace k_x1 := km.at k_x1 (by decide)
        refine lv_if_eq (tgt := 156) C.1 C.2.1 dX15_isStep_134 (by decide) (fun c_14 => ?_) (fun c_14 => ?_)
        · have hE := br_p hE c_14
          exact bX15_isStep_156 C hkm hW hZ _ (lv_sub hl [] rfl) hE
        · have hE := br_n hE c_14
          refine lv_aload_n C.1 C.2.1 dX15_isStep_137 rfl (lv_at hl 0 rfl) ?_
          refine gf_X15_44 C hW k_x0 dX15_isStep_138 ?_
          refine lv_if_ne (tgt := 158) C.1 C.2.1 dX15_isStep_141 (by decide) (fun c_15 => ?_) (fun c_15 => ?_)
          · have hE := br_n hE c_15
            exact bX15_isStep_158 C k_x0 k_x1 hkm hW hZ _ (lv_sub hl [0, 1, 2, 3] rfl) hE
          · have hE := br_p hE c_15
            refine lv_aload_n C.1 C.2.1 dX15_isStep_144 rfl (lv_at hl 0 rfl) ?_
            obtain ⟨r_16, er_16, hE⟩ := cl_e hE
            refine gf_X15_57 C hW k_x0 er_16 dX15_isStep_145 (fun k_r_16 => ?_)
            obtain ⟨r_17, er_17, hE⟩ := cl_e hE
            refine gf_X15_201 C hW k_r_16 er_17 dX15_isStep_148 (fun k_r_17 => ?_)
            refine lv_iload_n C.1 C.2.1 dX15_isStep_151 rfl (lv_at hl 3 rfl) ?_
            obtain ⟨g_18, hE⟩ := gd_e hE
            refine y_iald C hW k_r_17 g_18 dX15_isStep_152 ?_
            refine lv_if_ne (tgt := 158) C.1 C.2.1 dX15_isStep_153 (by decide) (fun c_19 => ?_) (fun c_19 => ?_)
            · have hE := br_n hE c_19
              exact bX15_isStep_158 C k_x0 k_x1 hkm hW hZ _ (lv_sub hl [0, 1, 2, 3] rfl) hE
            · have hE := br_p hE c_19
              exact bX15_isStep_156 C hkm hW hZ _ (lv_sub hl [] rfl) hE
      · have hE := br_p hE c_7
        refine lv_iconst (v := (0 : Int32)) C.1 C.2.1 dX15_isStep_105 (by decide) ?_
        exact x_iret C rfl (by decide) hW hZ hkm hE dX15_isStep_106
    · have hE := br_p hE c_1
      refine lv_aload_n C.1 C.2.1 dX15_isStep_11 rfl (lv_at hl 0 rfl) ?_
      refine lv_aload_n C.1 C.2.1 dX15_isStep_12 rfl (lv_at hl 1 rfl) ?_
      obtain ⟨o_20, eo_20, hE⟩ := cl_e hE
      refine x_kI (o := o_20) (z_runV (As := [.ref x1]) (rest := []) C (ct_X15_flagAt l X F k_x0 k_x1 eo_20) cw_X15_195 hW hZ k_x0 (by decide) rfl rfl rfl hl.1 (Nat.le_of_ble_eq_true rfl) rfl dX15_isStep_13 ⟨Nat.le_of_ble_eq_true rfl, Nat.le_of_ble_eq_true rfl⟩ ⟨Nat.le_refl _, Nat.le_refl _⟩) hZ (fun _ _ hW km hZ => ?_)
      replace hkm := hkm.tr km
      replace k_x0 := km.at k_x0 (by decide)
      replace k_x1 := km.at k_x1 (by decide)
      refine lv_istore (lv' := [(5, .int o_20.1), (0, .ref x0), (1, .ref x1), (2, .int x2), (3, .int x3), (4, .int x4)]) C.1 C.2.1 dX15_isStep_16 hl (by decide) rfl (fun ls hl => ?_)
      refine lv_iload C.1 C.2.1 dX15_isStep_18 (lv_at hl 5 rfl) ?_
      refine lv_iload C.1 C.2.1 dX15_isStep_20 (lv_at hl 0 rfl) ?_
      refine lv_ior C.1 C.2.1 dX15_isStep_22 ?_
      obtain ⟨v_21, ev_21, hE⟩ := nm_e2 hE
      refine x_nmI ev_21 ?_
      refine lv_istore (lv' := [(6, .int v_21), (5, .int o_20.1), (0, .ref x0), (1, .ref x1), (2, .int x2), (3, .int x3), (4, .int x4)]) C.1 C.2.1 dX15_isStep_23 hl (by decide) rfl (fun ls hl => ?_)
      refine lv_iload C.1 C.2.1 dX15_isStep_25 (lv_at hl 1 rfl) ?_
      refine lv_if_eq (tgt := 68) C.1 C.2.1 dX15_isStep_27 (by decide) (fun c_22 => ?_) (fun c_22 => ?_)
      · have hE := br_p hE c_22
        exact bX15_isStep_68 C hkm hW hZ _ (lv_sub hl [] rfl) hE
      · have hE := br_n hE c_22
        refine lv_iload C.1 C.2.1 dX15_isStep_30 (lv_at hl 6 rfl) ?_
        refine lv_iload C.1 C.2.1 dX15_isStep_32 (lv_at hl 1 rfl) ?_
        refine lv_iand C.1 C.2.1 dX15_isStep_34 ?_
        refine lv_if_ne (tgt := 68) C.1 C.2.1 dX15_isStep_35 (by decide) (fun c_23 => ?_) (fun c_23 => ?_)
        · have hE := br_n hE c_23
          exact bX15_isStep_68 C hkm hW hZ _ (lv_sub hl [] rfl) hE
        · have hE := br_p hE c_23
          refine lv_iload C.1 C.2.1 dX15_isStep_38 (lv_at hl 0 rfl) ?_
          refine lv_iconst (v := (1 : Int32)) C.1 C.2.1 dX15_isStep_40 (by decide) ?_
          refine lv_iand C.1 C.2.1 dX15_isStep_41 ?_
          refine lv_if_eq (tgt := 52) C.1 C.2.1 dX15_isStep_42 (by decide) (fun c_24 => ?_) (fun c_24 => ?_)
          · have hE := br_p hE c_24
            exact bX15_isStep_52 C hk_3 k_x0 k_x1 hkm hW hZ _ (lv_sub hl [2, 3, 4, 5, 0] rfl) hE
          · have hE := br_n hE c_24
            refine lv_iload C.1 C.2.1 dX15_isStep_45 (lv_at hl 0 rfl) ?_
            refine lv_iconst (v := (2 : Int32)) C.1 C.2.1 dX15_isStep_47 (by decide) ?_
            refine lv_iand C.1 C.2.1 dX15_isStep_48 ?_
            refine lv_if_ne (tgt := 68) C.1 C.2.1 dX15_isStep_49 (by decide) (fun c_25 => ?_) (fun c_25 => ?_)
            · have hE := br_n hE c_25
              exact bX15_isStep_68 C hkm hW hZ _ (lv_sub hl [] rfl) hE
            · have hE := br_p hE c_25
              exact bX15_isStep_52 C hk_3 k_x0 k_x1 hkm hW hZ _ (lv_sub hl [2, 3, 4, 5, 0] rfl) hE
set_option maxRecDepth 20000 in
theorem ct_X15_isStep (l : Launch) (X : Ec) (F : Nat) {h : Hp} {x0 : Nat} {x1 : Nat} {x2 : Int32} {x3 : Int32} {o : Int32 × Hp} (k_x0 : hK h x0 = 15) (k_x1 : hK h x1 = 16) (hE : sX15_isStep F h x0 x1 x2 x3 = some o) : MetI l yX15_isStep cX15_isStep 7 (some .boolean) 6 129 X [.ref x0, .ref x1, .int x2, .int x3] h o := by
  refine x_met (by decide) (Nat.le_of_ble_eq_true rfl) ?_
  intro p e s m below meth c ls C hl hW hZ
  have hl : lv_has ls 7 [(0, .ref x0), (1, .ref x1), (2, .int x2), (3, .int x3)] := hl
  have hkm : Km h h := Km.rf h
  refine lv_iconst (v := (0 : Int32)) C.1 C.2.1 dX15_isStep_0 (by decide) ?_
  refine lv_istore (lv' := [(4, .int (0 : Int32)), (0, .ref x0), (1, .ref x1), (2, .int x2), (3, .int x3)]) C.1 C.2.1 dX15_isStep_1 hl (by decide) rfl (fun ls hl => ?_)
  exact bX15_isStep_3 C F k_x0 k_x1 hkm hW hZ _ (lv_sub hl [1, 2, 3, 4, 0] rfl) hE
theorem ms_122 : Cond.selects RX15 yX15_isStep yX15_isStep ∈ W0 := w0_in (List.mem_append_left _ (List.mem_of_getElem? (i := 122) (by decide +kernel))) rfl
theorem ms_121 : Cond.selects RX15 yX15_manAt yX15_manAt ∈ W0 := w0_in (List.mem_append_left _ (List.mem_of_getElem? (i := 121) (by decide +kernel))) rfl
theorem ms_118 : Cond.selects RX15 yX15_isSign yX15_isSign ∈ W0 := w0_in (List.mem_append_left _ (List.mem_of_getElem? (i := 118) (by decide +kernel))) rfl
theorem n_1830 : Cond.fieldLinkNest RX15 169 (TX14 2).1 (TX14 2).2.1 (TX14 2).2.2.1 "GameRulesModel" ∈ tables_1 := List.mem_of_getElem? (i := 1830) (by decide +kernel)
theorem n_1832 : Cond.fieldLinkNest RX15 172 (TX14 3).1 (TX14 3).2.1 (TX14 3).2.2.1 "GameRulesModel" ∈ tables_1 := List.mem_of_getElem? (i := 1832) (by decide +kernel)
theorem n_1834 : Cond.fieldLinkNest RX15 176 (TX14 4).1 (TX14 4).2.1 (TX14 4).2.2.1 "GameRulesModel" ∈ tables_1 := List.mem_of_getElem? (i := 1834) (by decide +kernel)
theorem m_2038 : Cond.methodLink RX15 94 yX15_isSign ∈ W0 := w0_in (List.mem_append_right _ (List.mem_of_getElem? (i := 2038) (by decide +kernel))) rfl
theorem m_2040 : Cond.instanceMethod yX15_isSign ∈ W0 := w0_in (List.mem_append_right _ (List.mem_of_getElem? (i := 2040) (by decide +kernel))) rfl
theorem m_2041 : Cond.code yX15_isSign cX15_isSign 3 (some .boolean) ∈ W0 := w0_in (List.mem_append_right _ (List.mem_of_getElem? (i := 2041) (by decide +kernel))) rfl
theorem m_2051 : Cond.methodLink RX15 165 yX15_manAt ∈ W0 := w0_in (List.mem_append_right _ (List.mem_of_getElem? (i := 2051) (by decide +kernel))) rfl
theorem m_2053 : Cond.instanceMethod yX15_manAt ∈ W0 := w0_in (List.mem_append_right _ (List.mem_of_getElem? (i := 2053) (by decide +kernel))) rfl
theorem m_2054 : Cond.code yX15_manAt cX15_manAt 2 (some .int) ∈ W0 := w0_in (List.mem_append_right _ (List.mem_of_getElem? (i := 2054) (by decide +kernel))) rfl
theorem m_2059 : Cond.methodLink RX15 179 yX15_isStep ∈ W0 := w0_in (List.mem_append_right _ (List.mem_of_getElem? (i := 2059) (by decide +kernel))) rfl
theorem m_2061 : Cond.instanceMethod yX15_isStep ∈ W0 := w0_in (List.mem_append_right _ (List.mem_of_getElem? (i := 2061) (by decide +kernel))) rfl
theorem m_2062 : Cond.code yX15_isStep cX15_isStep 7 (some .boolean) ∈ W0 := w0_in (List.mem_append_right _ (List.mem_of_getElem? (i := 2062) (by decide +kernel))) rfl
section
variable {p : Program} {l : Launch} {e : Env} {R : Room} {s : State} {m : MethodId} {args : Array Value} {below : List Frame} {meth : Method} {c : Code} {H : Heap} {locs : List Loc} {cells slots : Nat} {Q : State → Prop}
variable {cc : ByteArray} {pc : Nat} {ls : Array Slot} {rest : List Value} {X : Ec} {h h1 : Hp} {nL : Nat} {rt : Option FieldType} {mn : String}
theorem gf_X15_176 {a r : Nat} (C : Cx X p s m args meth c RX15 cc nL rt mn) (hW : Wx X h H) (ha : hK h a = 14) (hr : hR h a 4 = some r) (hdg : decode cc pc = .ok (.getfield 176, 3)) (kk : hK h r = 17 → W p l e R s m args below meth c H locs cells slots Q (F0 m (pc + 3) ls (.ref r :: rest))) : W p l e R s m args below meth c H locs cells slots Q (F0 m pc ls (.ref a :: rest)) :=
  y_getrN C hW ha i_X14 (by decide) rfl (by decide) n_1834 rfl rfl hr hdg kk
theorem gf_X15_169 {a : Nat} (C : Cx X p s m args meth c RX15 cc nL rt mn) (hW : Wx X h H) (ha : hK h a = 14) (hdg : decode cc pc = .ok (.getfield 169, 3)) (kk : W p l e R s m args below meth c H locs cells slots Q (F0 m (pc + 3) ls (.int (hI h a 2) :: rest))) : W p l e R s m args below meth c H locs cells slots Q (F0 m pc ls (.ref a :: rest)) :=
  y_getiN C hW ha i_X14 (by decide) rfl (by decide) n_1830 rfl hdg kk
theorem gf_X15_172 {a r : Nat} (C : Cx X p s m args meth c RX15 cc nL rt mn) (hW : Wx X h H) (ha : hK h a = 14) (hr : hR h a 3 = some r) (hdg : decode cc pc = .ok (.getfield 172, 3)) (kk : hK h r = 17 → W p l e R s m args below meth c H locs cells slots Q (F0 m (pc + 3) ls (.ref r :: rest))) : W p l e R s m args below meth c H locs cells slots Q (F0 m pc ls (.ref a :: rest)) :=
  y_getrN C hW ha i_X14 (by decide) rfl (by decide) n_1832 rfl rfl hr hdg kk
theorem pf_X15_169 {a : Nat} {v : Int32} (C : Cx X p s m args meth c RX15 cc nL rt mn) (hW : Wx X h H) (hZ : va_S (aA (eB X)) s.heap H locs) (ha : hK h a = 14) (eh : h1 = wI h a 2 v) (hdg : decode cc pc = .ok (.putfield 169, 3)) (kk : ∀ (H1 : Heap) (locs1 : List Loc), Wx X h1 H1 → Km h h1 → va_S (aA (eB X)) s.heap H1 locs1 → W p l e R s m args below meth c H1 locs1 cells slots Q (F0 m (pc + 3) ls rest)) : W p l e R s m args below meth c H locs cells slots Q (F0 m pc ls (.int v :: .ref a :: rest)) :=
  y_putiN (ty := .int) C hW hZ ha i_X14 tyX14 tyX14_ok nmX14 (by decide) rfl rfl (by decide) n_1830 rfl (by decide +kernel) rfl rfl rfl eh hdg kk
end
theorem cw_X15_179 : cwd RX15 179 yX15_isStep cX15_isStep 7 (some .boolean) false 3 := ⟨m_2062, m_2059, m_20, ⟨m_2061, ms_122⟩, by decide, by decide, by decide +kernel⟩
theorem cw_X15_94 : cwd RX15 94 yX15_isSign cX15_isSign 3 (some .boolean) false 2 := ⟨m_2041, m_2038, m_20, ⟨m_2040, ms_118⟩, by decide, by decide, by decide +kernel⟩
theorem cw_X15_165 : cwd RX15 165 yX15_manAt cX15_manAt 2 (some .int) false 1 := ⟨m_2054, m_2051, m_20, ⟨m_2053, ms_121⟩, by decide, by decide, by decide +kernel⟩
theorem dX15_isMan_0 : decode cX15_isMan 0 = .ok (.aload_n 0, 1) := by decide +kernel
theorem dX15_isMan_1 : decode cX15_isMan 1 = .ok (.aload_n 1, 1) := by decide +kernel
theorem dX15_isMan_2 : decode cX15_isMan 2 = .ok (.iload_n 2, 1) := by decide +kernel
theorem dX15_isMan_3 : decode cX15_isMan 3 = .ok (.invokevirtual 74, 3) := by decide +kernel
theorem dX15_isMan_6 : decode cX15_isMan 6 = .ok (.aload_n 0, 1) := by decide +kernel
theorem dX15_isMan_7 : decode cX15_isMan 7 = .ok (.getfield 34, 3) := by decide +kernel
theorem dX15_isMan_10 : decode cX15_isMan 10 = .ok (.iconst 1, 1) := by decide +kernel
theorem dX15_isMan_11 : decode cX15_isMan 11 = .ok (.if_icmp .ne 37, 3) := by decide +kernel
theorem dX15_isMan_14 : decode cX15_isMan 14 = .ok (.aload_n 0, 1) := by decide +kernel
theorem dX15_isMan_15 : decode cX15_isMan 15 = .ok (.getfield 24, 3) := by decide +kernel
theorem dX15_isMan_18 : decode cX15_isMan 18 = .ok (.aload_n 0, 1) := by decide +kernel
theorem dX15_isMan_19 : decode cX15_isMan 19 = .ok (.getfield 27, 3) := by decide +kernel
theorem dX15_isMan_22 : decode cX15_isMan 22 = .ok (.iconst 1, 1) := by decide +kernel
theorem dX15_isMan_23 : decode cX15_isMan 23 = .ok (.iadd, 1) := by decide +kernel
theorem dX15_isMan_24 : decode cX15_isMan 24 = .ok (.if_icmp .ne 24, 3) := by decide +kernel
theorem dX15_isMan_27 : decode cX15_isMan 27 = .ok (.aload_n 0, 1) := by decide +kernel
theorem dX15_isMan_28 : decode cX15_isMan 28 = .ok (.aload_n 1, 1) := by decide +kernel
theorem dX15_isMan_29 : decode cX15_isMan 29 = .ok (.invokevirtual 165, 3) := by decide +kernel
theorem dX15_isMan_32 : decode cX15_isMan 32 = .ok (.iconst (-1), 1) := by decide +kernel
theorem dX15_isMan_33 : decode cX15_isMan 33 = .ok (.if_icmp .ne 15, 3) := by decide +kernel
theorem dX15_isMan_36 : decode cX15_isMan 36 = .ok (.aload_n 0, 1) := by decide +kernel
theorem dX15_isMan_37 : decode cX15_isMan 37 = .ok (.getfield 57, 3) := by decide +kernel
theorem dX15_isMan_40 : decode cX15_isMan 40 = .ok (.getfield 169, 3) := by decide +kernel
theorem dX15_isMan_43 : decode cX15_isMan 43 = .ok (.bipush 12, 2) := by decide +kernel
theorem dX15_isMan_45 : decode cX15_isMan 45 = .ok (.if_icmp .ne 5, 3) := by decide +kernel
theorem dX15_isMan_48 : decode cX15_isMan 48 = .ok (.iconst 0, 1) := by decide +kernel
theorem dX15_isMan_49 : decode cX15_isMan 49 = .ok (.ireturn, 1) := by decide +kernel
theorem dX15_isMan_50 : decode cX15_isMan 50 = .ok (.aload_n 0, 1) := by decide +kernel
theorem dX15_isMan_51 : decode cX15_isMan 51 = .ok (.getfield 57, 3) := by decide +kernel
theorem dX15_isMan_54 : decode cX15_isMan 54 = .ok (.getfield 169, 3) := by decide +kernel
theorem dX15_isMan_57 : decode cX15_isMan 57 = .ok (.istore_n 3, 1) := by decide +kernel
theorem dX15_isMan_58 : decode cX15_isMan 58 = .ok (.aload_n 0, 1) := by decide +kernel
theorem dX15_isMan_59 : decode cX15_isMan 59 = .ok (.getfield 57, 3) := by decide +kernel
theorem dX15_isMan_62 : decode cX15_isMan 62 = .ok (.getfield 172, 3) := by decide +kernel
theorem dX15_isMan_65 : decode cX15_isMan 65 = .ok (.iload_n 3, 1) := by decide +kernel
theorem dX15_isMan_66 : decode cX15_isMan 66 = .ok (.aload_n 1, 1) := by decide +kernel
theorem dX15_isMan_67 : decode cX15_isMan 67 = .ok (.aload_n 0, 1) := by decide +kernel
theorem dX15_isMan_68 : decode cX15_isMan 68 = .ok (.getfield 27, 3) := by decide +kernel
theorem dX15_isMan_71 : decode cX15_isMan 71 = .ok (.baload, 1) := by decide +kernel
theorem dX15_isMan_72 : decode cX15_isMan 72 = .ok (.iastore, 1) := by decide +kernel
theorem dX15_isMan_73 : decode cX15_isMan 73 = .ok (.aload_n 0, 1) := by decide +kernel
theorem dX15_isMan_74 : decode cX15_isMan 74 = .ok (.getfield 57, 3) := by decide +kernel
theorem dX15_isMan_77 : decode cX15_isMan 77 = .ok (.dup, 1) := by decide +kernel
theorem dX15_isMan_78 : decode cX15_isMan 78 = .ok (.getfield 169, 3) := by decide +kernel
theorem dX15_isMan_81 : decode cX15_isMan 81 = .ok (.iconst 1, 1) := by decide +kernel
theorem dX15_isMan_82 : decode cX15_isMan 82 = .ok (.iadd, 1) := by decide +kernel
theorem dX15_isMan_83 : decode cX15_isMan 83 = .ok (.putfield 169, 3) := by decide +kernel
theorem dX15_isMan_86 : decode cX15_isMan 86 = .ok (.aload_n 0, 1) := by decide +kernel
theorem dX15_isMan_87 : decode cX15_isMan 87 = .ok (.aload_n 1, 1) := by decide +kernel
theorem dX15_isMan_88 : decode cX15_isMan 88 = .ok (.iload_n 2, 1) := by decide +kernel
theorem dX15_isMan_89 : decode cX15_isMan 89 = .ok (.invokevirtual 74, 3) := by decide +kernel
theorem dX15_isMan_92 : decode cX15_isMan 92 = .ok (.aload_n 0, 1) := by decide +kernel
theorem dX15_isMan_93 : decode cX15_isMan 93 = .ok (.aload_n 1, 1) := by decide +kernel
theorem dX15_isMan_94 : decode cX15_isMan 94 = .ok (.iload_n 2, 1) := by decide +kernel
theorem dX15_isMan_95 : decode cX15_isMan 95 = .ok (.bipush 8, 2) := by decide +kernel
theorem dX15_isMan_97 : decode cX15_isMan 97 = .ok (.iload_n 3, 1) := by decide +kernel
theorem dX15_isMan_98 : decode cX15_isMan 98 = .ok (.imul, 1) := by decide +kernel
theorem dX15_isMan_99 : decode cX15_isMan 99 = .ok (.aload_n 0, 1) := by decide +kernel
theorem dX15_isMan_100 : decode cX15_isMan 100 = .ok (.getfield 57, 3) := by decide +kernel
theorem dX15_isMan_103 : decode cX15_isMan 103 = .ok (.getfield 176, 3) := by decide +kernel
theorem dX15_isMan_106 : decode cX15_isMan 106 = .ok (.iload_n 3, 1) := by decide +kernel
theorem dX15_isMan_107 : decode cX15_isMan 107 = .ok (.iaload, 1) := by decide +kernel
theorem dX15_isMan_108 : decode cX15_isMan 108 = .ok (.iadd, 1) := by decide +kernel
theorem dX15_isMan_109 : decode cX15_isMan 109 = .ok (.invokevirtual 179, 3) := by decide +kernel
theorem dX15_isMan_112 : decode cX15_isMan 112 = .ok (.ifCond .ne 5, 3) := by decide +kernel
theorem dX15_isMan_115 : decode cX15_isMan 115 = .ok (.iconst 0, 1) := by decide +kernel
theorem dX15_isMan_116 : decode cX15_isMan 116 = .ok (.ireturn, 1) := by decide +kernel
theorem dX15_isMan_117 : decode cX15_isMan 117 = .ok (.aload_n 0, 1) := by decide +kernel
theorem dX15_isMan_118 : decode cX15_isMan 118 = .ok (.getfield 57, 3) := by decide +kernel
theorem dX15_isMan_121 : decode cX15_isMan 121 = .ok (.getfield 176, 3) := by decide +kernel
theorem dX15_isMan_124 : decode cX15_isMan 124 = .ok (.iload_n 3, 1) := by decide +kernel
theorem dX15_isMan_125 : decode cX15_isMan 125 = .ok (.dup2, 1) := by decide +kernel
theorem dX15_isMan_126 : decode cX15_isMan 126 = .ok (.iaload, 1) := by decide +kernel
theorem dX15_isMan_127 : decode cX15_isMan 127 = .ok (.iconst 1, 1) := by decide +kernel
theorem dX15_isMan_128 : decode cX15_isMan 128 = .ok (.iadd, 1) := by decide +kernel
theorem dX15_isMan_129 : decode cX15_isMan 129 = .ok (.iastore, 1) := by decide +kernel
theorem dX15_isMan_130 : decode cX15_isMan 130 = .ok (.aload_n 0, 1) := by decide +kernel
theorem dX15_isMan_131 : decode cX15_isMan 131 = .ok (.aload_n 1, 1) := by decide +kernel
theorem dX15_isMan_132 : decode cX15_isMan 132 = .ok (.bipush 44, 2) := by decide +kernel
theorem dX15_isMan_134 : decode cX15_isMan 134 = .ok (.invokevirtual 94, 3) := by decide +kernel
theorem dX15_isMan_137 : decode cX15_isMan 137 = .ok (.ifCond .eq 17, 3) := by decide +kernel
theorem dX15_isMan_140 : decode cX15_isMan 140 = .ok (.aload_n 0, 1) := by decide +kernel
theorem dX15_isMan_141 : decode cX15_isMan 141 = .ok (.getfield 57, 3) := by decide +kernel
theorem dX15_isMan_144 : decode cX15_isMan 144 = .ok (.getfield 176, 3) := by decide +kernel
theorem dX15_isMan_147 : decode cX15_isMan 147 = .ok (.iload_n 3, 1) := by decide +kernel
theorem dX15_isMan_148 : decode cX15_isMan 148 = .ok (.iaload, 1) := by decide +kernel
theorem dX15_isMan_149 : decode cX15_isMan 149 = .ok (.bipush 8, 2) := by decide +kernel
theorem dX15_isMan_151 : decode cX15_isMan 151 = .ok (.if_icmp .ne 5, 3) := by decide +kernel
theorem dX15_isMan_154 : decode cX15_isMan 154 = .ok (.iconst 1, 1) := by decide +kernel
theorem dX15_isMan_155 : decode cX15_isMan 155 = .ok (.ireturn, 1) := by decide +kernel
theorem dX15_isMan_156 : decode cX15_isMan 156 = .ok (.aload_n 0, 1) := by decide +kernel
theorem dX15_isMan_157 : decode cX15_isMan 157 = .ok (.aload_n 1, 1) := by decide +kernel
theorem dX15_isMan_158 : decode cX15_isMan 158 = .ok (.iload_n 2, 1) := by decide +kernel
theorem dX15_isMan_159 : decode cX15_isMan 159 = .ok (.invokevirtual 74, 3) := by decide +kernel
theorem dX15_isMan_162 : decode cX15_isMan 162 = .ok (.goto (-70), 3) := by decide +kernel
def sX15_isMan_48 (F : Nat) (h : Hp) : Option (Int32 × Hp) := some ((0 : Int32), h)
def sX15_isMan_154 (F : Nat) (h : Hp) : Option (Int32 × Hp) := some ((1 : Int32), h)
def sX15_isMan_92 (F : Nat) : Nat → Hp → Nat → Nat → Int32 → Int32 → Option (Int32 × Hp)
  | 0, _, _, _, _, _ => none
  | f + 1, h, x0, x1, x2, x3 => cl (hR h x0 5) fun r_1 => cl (hR h r_1 4) fun r_2 => gd (inB x3 (hN h r_2)) <| cl (sX15_isStep F h x0 x1 x2 (((8 : Int32) * x3) + (hI h r_2 x3.toNatClampNeg))) fun o_4 => br (o_4.1 = 0) (some ((0 : Int32), o_4.2)) (cl (hR o_4.2 x0 5) fun r_6 => cl (hR o_4.2 r_6 4) fun r_7 => gd (inB x3 (hN o_4.2 r_7)) <| gd (inB x3 (hN o_4.2 r_7)) <| nm (wI o_4.2 r_7 x3.toNatClampNeg ((hI o_4.2 r_7 x3.toNatClampNeg) + (1 : Int32))) fun h_10 => cl (sX15_isSign h_10 x0 x1 (44 : Int32)) fun o_11 => br (o_11.1 = 0) (sX15_isMan_154 F o_11.2 ) (cl (hR o_11.2 x0 5) fun r_13 => cl (hR o_11.2 r_13 4) fun r_14 => gd (inB x3 (hN o_11.2 r_14)) <| br ((hI o_11.2 r_14 x3.toNatClampNeg) = (8 : Int32)) (sX15_isMan_154 F o_11.2 ) (cl (sX15_nextToken F o_11.2 x0 x1 x2) fun o_17 => sX15_isMan_92 F f o_17 x0 x1 x2 x3)))
def sX15_isMan (F : Nat) (h : Hp) (x0 : Nat) (x1 : Nat) (x2 : Int32) : Option (Int32 × Hp) := cl (sX15_nextToken F h x0 x1 x2) fun o_1 => br ((hI o_1 x0 6) = (1 : Int32)) (br ((hI o_1 x0 8) = ((hI o_1 x0 7) + (1 : Int32))) (cl (sX15_manAt F o_1 x0 x1) fun o_4 => br (o_4.1 = (-1 : Int32)) (cl (hR o_4.2 x0 5) fun r_6 => br ((hI o_4.2 r_6 2) = (12 : Int32)) (sX15_isMan_48 F o_4.2 ) (cl (hR o_4.2 x0 5) fun r_8 => nm (hI o_4.2 r_8 2) fun v_9 => cl (hR o_4.2 x0 5) fun r_10 => cl (hR o_4.2 r_10 3) fun r_11 => gd (inB (hI o_4.2 x0 7) (hN o_4.2 x1)) <| gd (inB v_9 (hN o_4.2 r_11)) <| nm (wI o_4.2 r_11 v_9.toNatClampNeg (hI o_4.2 x1 (hI o_4.2 x0 7).toNatClampNeg)) fun h_14 => cl (hR h_14 x0 5) fun r_15 => nm (wI h_14 r_15 2 ((hI h_14 r_15 2) + (1 : Int32))) fun h_16 => cl (sX15_nextToken F h_16 x0 x1 x2) fun o_17 => sX15_isMan_92 F F o_17 x0 x1 x2 v_9)) (sX15_isMan_48 F o_4.2 )) (sX15_isMan_48 F o_1 )) (sX15_isMan_48 F o_1 )
theorem moX15_isMan_48 {o : Int32 × Hp} {F : Nat} {h : Hp} (hE : sX15_isMan_48 F h  = some o) : Le h o.2 := by
  cases hE
  exact Le.rf _
theorem moX15_isMan_154 {o : Int32 × Hp} {F : Nat} {h : Hp} (hE : sX15_isMan_154 F h  = some o) : Le h o.2 := by
  cases hE
  exact Le.rf _
theorem moX15_isMan_92 {o : Int32 × Hp} {F : Nat} : ∀ (f : Nat) {h : Hp} {x0 : Nat} {x1 : Nat} {x2 : Int32} {x3 : Int32}, sX15_isMan_92 F f h x0 x1 x2 x3 = some o → Le h o.2 := by
  intro f
  induction f with
  | zero =>
    intro h x0 x1 x2 x3 hE
    rw [sX15_isMan_92] at hE
    cases hE
  | succ f ih =>
    intro h x0 x1 x2 x3 hE
    rw [sX15_isMan_92] at hE
    have mk_92 : ∀ (h : Hp) (x0 : Nat) (x1 : Nat) (x2 : Int32) (x3 : Int32), sX15_isMan_92 F f h x0 x1 x2 x3 = some o → Le h o.2 := fun h x0 x1 x2 x3 hE => ih hE
    obtain ⟨r_1, er_1, hE⟩ := cl_e hE
    obtain ⟨r_2, er_2, hE⟩ := cl_e hE
    obtain ⟨g_3, hE⟩ := gd_e hE
    obtain ⟨o_4, eo_4, hE⟩ := cl_e hE
    refine (moX15_isStep eo_4).tr ?_
    rcases br_e hE with ⟨_, hE⟩ | ⟨_, hE⟩
    · cases hE
      exact Le.rf _
    · obtain ⟨r_6, er_6, hE⟩ := cl_e hE
      obtain ⟨r_7, er_7, hE⟩ := cl_e hE
      obtain ⟨g_8, hE⟩ := gd_e hE
      obtain ⟨g_9, hE⟩ := gd_e hE
      obtain ⟨h_10, eh_10, hE⟩ := nm_e2 hE
      refine (le_I eh_10).tr ?_
      obtain ⟨o_11, eo_11, hE⟩ := cl_e hE
      refine (moX15_isSign eo_11).tr ?_
      rcases br_e hE with ⟨_, hE⟩ | ⟨_, hE⟩
      · exact moX15_isMan_154 hE
      · obtain ⟨r_13, er_13, hE⟩ := cl_e hE
        obtain ⟨r_14, er_14, hE⟩ := cl_e hE
        obtain ⟨g_15, hE⟩ := gd_e hE
        rcases br_e hE with ⟨_, hE⟩ | ⟨_, hE⟩
        · exact moX15_isMan_154 hE
        · obtain ⟨o_17, eo_17, hE⟩ := cl_e hE
          refine (moX15_nextToken eo_17).tr ?_
          exact mk_92 _ _ _ _ _ hE
theorem moX15_isMan {o : Int32 × Hp} {F : Nat} {h : Hp} {x0 : Nat} {x1 : Nat} {x2 : Int32} (hE : sX15_isMan F h x0 x1 x2 = some o) : Le h o.2 := by
  obtain ⟨o_1, eo_1, hE⟩ := cl_e hE
  refine (moX15_nextToken eo_1).tr ?_
  rcases br_e hE with ⟨_, hE⟩ | ⟨_, hE⟩
  · rcases br_e hE with ⟨_, hE⟩ | ⟨_, hE⟩
    · obtain ⟨o_4, eo_4, hE⟩ := cl_e hE
      refine (moX15_manAt eo_4).tr ?_
      rcases br_e hE with ⟨_, hE⟩ | ⟨_, hE⟩
      · obtain ⟨r_6, er_6, hE⟩ := cl_e hE
        rcases br_e hE with ⟨_, hE⟩ | ⟨_, hE⟩
        · exact moX15_isMan_48 hE
        · obtain ⟨r_8, er_8, hE⟩ := cl_e hE
          obtain ⟨v_9, ev_9, hE⟩ := nm_e2 hE
          obtain ⟨r_10, er_10, hE⟩ := cl_e hE
          obtain ⟨r_11, er_11, hE⟩ := cl_e hE
          obtain ⟨g_12, hE⟩ := gd_e hE
          obtain ⟨g_13, hE⟩ := gd_e hE
          obtain ⟨h_14, eh_14, hE⟩ := nm_e2 hE
          refine (le_I eh_14).tr ?_
          obtain ⟨r_15, er_15, hE⟩ := cl_e hE
          obtain ⟨h_16, eh_16, hE⟩ := nm_e2 hE
          refine (le_I eh_16).tr ?_
          obtain ⟨o_17, eo_17, hE⟩ := cl_e hE
          refine (moX15_nextToken eo_17).tr ?_
          exact moX15_isMan_92 _ hE
      · exact moX15_isMan_48 hE
    · exact moX15_isMan_48 hE
  · exact moX15_isMan_48 hE
set_option maxRecDepth 20000 in
theorem bX15_isMan_48 {p : Program} {l : Launch} {e : Env} {s : State} {m : MethodId} {args : Array Value} {below : List Frame} {meth : Method} {c : Code} {X : Ec} {h0 : Hp} {o : Int32 × Hp} {F : Nat} (C : Cx X p s m args meth c RX15 cX15_isMan 4 (some .boolean) "isMan") {h : Hp} {H : Heap} {locs : List Loc} (hkm : Km h0 h) (hW : Wx X h H) (hZ : va_S (aA (eB X)) s.heap H locs) (ls : Array Slot) (hl : lv_has ls 4 []) (hE : sX15_isMan_48 F h  = some o) : W p l e (rm 7 155) s m args below meth c H locs 0 0 (MQ below (QI X h0 o.1 o.2) args s 0 0 (aA (eB X))) (F0 m 48 ls []) := by
  refine lv_iconst (v := (0 : Int32)) C.1 C.2.1 dX15_isMan_48 (by decide) ?_
  exact x_iret C rfl (by decide) hW hZ hkm hE dX15_isMan_49
set_option maxRecDepth 20000 in
theorem bX15_isMan_154 {p : Program} {l : Launch} {e : Env} {s : State} {m : MethodId} {args : Array Value} {below : List Frame} {meth : Method} {c : Code} {X : Ec} {h0 : Hp} {o : Int32 × Hp} {F : Nat} (C : Cx X p s m args meth c RX15 cX15_isMan 4 (some .boolean) "isMan") {h : Hp} {H : Heap} {locs : List Loc} (hkm : Km h0 h) (hW : Wx X h H) (hZ : va_S (aA (eB X)) s.heap H locs) (ls : Array Slot) (hl : lv_has ls 4 []) (hE : sX15_isMan_154 F h  = some o) : W p l e (rm 7 155) s m args below meth c H locs 0 0 (MQ below (QI X h0 o.1 o.2) args s 0 0 (aA (eB X))) (F0 m 154 ls []) := by
  refine lv_iconst (v := (1 : Int32)) C.1 C.2.1 dX15_isMan_154 (by decide) ?_
  exact x_iret C rfl (by decide) hW hZ hkm hE dX15_isMan_155
set_option maxRecDepth 20000 in
theorem bX15_isMan_92 {p : Program} {l : Launch} {e : Env} {s : State} {m : MethodId} {args : Array Value} {below : List Frame} {meth : Method} {c : Code} {X : Ec} {h0 : Hp} {o : Int32 × Hp} {F : Nat} (C : Cx X p s m args meth c RX15 cX15_isMan 4 (some .boolean) "isMan") : ∀ (f : Nat) {h : Hp} {x0 : Nat} {x1 : Nat} {x2 : Int32} {x3 : Int32} {H : Heap} {locs : List Loc} (k_x0 : hK h x0 = 15) (k_x1 : hK h x1 = 16), Km h0 h → Wx X h H → va_S (aA (eB X)) s.heap H locs → ∀ (ls : Array Slot), lv_has ls 4 [(0, .ref x0), (1, .ref x1), (2, .int x2), (3, .int x3)] → sX15_isMan_92 F f h x0 x1 x2 x3 = some o → W p l e (rm 7 155) s m args below meth c H locs 0 0 (MQ below (QI X h0 o.1 o.2) args s 0 0 (aA (eB X))) (F0 m 92 ls []) := by
  intro f
  induction f with
  | zero =>
    intro h x0 x1 x2 x3 H locs k_x0 k_x1 hkm hW hZ ls hl hE
    rw [sX15_isMan_92] at hE
    cases hE
  | succ f ih =>
    intro h x0 x1 x2 x3 H locs k_x0 k_x1 hkm hW hZ ls hl hE
    rw [sX15_isMan_92] at hE
    have hk_92 : ∀ (h : Hp) (x0 : Nat) (x1 : Nat) (x2 : Int32) (x3 : Int32) (H : Heap) (locs : List Loc), hK h x0 = 15 → hK h x1 = 16 → Km h0 h → Wx X h H → va_S (aA (eB X)) s.heap H locs → ∀ (ls : Array Slot), lv_has ls 4 [(0, .ref x0), (1, .ref x1), (2, .int x2), (3, .int x3)] → sX15_isMan_92 F f h x0 x1 x2 x3 = some o → W p l e (rm 7 155) s m args below meth c H locs 0 0 (MQ below (QI X h0 o.1 o.2) args s 0 0 (aA (eB X))) (F0 m 92 ls []) := fun h x0 x1 x2 x3 H locs k_x0 k_x1 a b c ls hl hE => ih k_x0 k_x1 a b c ls hl hE
    refine lv_aload_n C.1 C.2.1 dX15_isMan_92 rfl (lv_at hl 0 rfl) ?_
    refine lv_aload_n C.1 C.2.1 dX15_isMan_93 rfl (lv_at hl 1 rfl) ?_
    refine lv_iload_n C.1 C.2.1 dX15_isMan_94 rfl (lv_at hl 2 rfl) ?_
    refine lv_bipush (v := (8 : Int32)) C.1 C.2.1 dX15_isMan_95 (by decide) ?_
    refine lv_iload_n C.1 C.2.1 dX15_isMan_97 rfl (lv_at hl 3 rfl) ?_
    refine lv_imul C.1 C.2.1 dX15_isMan_98 ?_
    refine lv_aload_n C.1 C.2.1 dX15_isMan_99 rfl (lv_at hl 0 rfl) ?_
    obtain ⟨r_1, er_1, hE⟩ := cl_e hE
    refine gf_X15_57 C hW k_x0 er_1 dX15_isMan_100 (fun k_r_1 => ?_)
    obtain ⟨r_2, er_2, hE⟩ := cl_e hE
    refine gf_X15_176 C hW k_r_1 er_2 dX15_isMan_103 (fun k_r_2 => ?_)
    refine lv_iload_n C.1 C.2.1 dX15_isMan_106 rfl (lv_at hl 3 rfl) ?_
    obtain ⟨g_3, hE⟩ := gd_e hE
    refine y_iald C hW k_r_2 g_3 dX15_isMan_107 ?_
    refine lv_iadd C.1 C.2.1 dX15_isMan_108 ?_
    obtain ⟨o_4, eo_4, hE⟩ := cl_e hE
    refine x_kI (o := o_4) (z_runV (As := [.ref x1, .int x2, .int (((8 : Int32) * x3) + (hI h r_2 x3.toNatClampNeg))]) (rest := []) C (ct_X15_isStep l X F k_x0 k_x1 eo_4) cw_X15_179 hW hZ k_x0 (by decide) rfl rfl rfl hl.1 (Nat.le_of_ble_eq_true rfl) rfl dX15_isMan_109 ⟨Nat.le_of_ble_eq_true rfl, Nat.le_of_ble_eq_true rfl⟩ ⟨Nat.le_refl _, Nat.le_refl _⟩) hZ (fun _ _ hW km hZ => ?_)
    replace hkm := hkm.tr km
    replace k_x0 := km.at k_x0 (by decide)
    replace k_x1 := km.at k_x1 (by decide)
    refine lv_if_ne (tgt := 117) C.1 C.2.1 dX15_isMan_112 (by decide) (fun c_5 => ?_) (fun c_5 => ?_)
    · have hE := br_n hE c_5
      refine lv_aload_n C.1 C.2.1 dX15_isMan_117 rfl (lv_at hl 0 rfl) ?_
      obtain ⟨r_6, er_6, hE⟩ := cl_e hE
      refine gf_X15_57 C hW k_x0 er_6 dX15_isMan_118 (fun k_r_6 => ?_)
      obtain ⟨r_7, er_7, hE⟩ := cl_e hE
      refine gf_X15_176 C hW k_r_6 er_7 dX15_isMan_121 (fun k_r_7 => ?_)
      refine lv_iload_n C.1 C.2.1 dX15_isMan_124 rfl (lv_at hl 3 rfl) ?_
      refine lv_dup2_11 C.1 C.2.1 dX15_isMan_125 rfl rfl ?_
      obtain ⟨g_8, hE⟩ := gd_e hE
      refine y_iald C hW k_r_7 g_8 dX15_isMan_126 ?_
      refine lv_iconst (v := (1 : Int32)) C.1 C.2.1 dX15_isMan_127 (by decide) ?_
      refine lv_iadd C.1 C.2.1 dX15_isMan_128 ?_
      obtain ⟨g_9, hE⟩ := gd_e hE
      obtain ⟨h_10, eh_10, hE⟩ := nm_e2 hE
      refine y_iast C hW hZ k_r_7 g_9 eh_10 dX15_isMan_129 (fun _ _ hW km hZ => ?_)
      replace hkm := hkm.tr km
      replace k_x0 := km.at k_x0 (by decide)
      replace k_x1 := km.at k_x1 (by decide)
      refine lv_aload_n C.1 C.2.1 dX15_isMan_130 rfl (lv_at hl 0 rfl) ?_
      refine lv_aload_n C.1 C.2.1 dX15_isMan_131 rfl (lv_at hl 1 rfl) ?_
      refine lv_bipush (v := (44 : Int32)) C.1 C.2.1 dX15_isMan_132 (by decide) ?_
      obtain ⟨o_11, eo_11, hE⟩ := cl_e hE
      refine x_kI (o := o_11) (z_runV (As := [.ref x1, .int (44 : Int32)]) (rest := []) C (ct_X15_isSign l X k_x0 k_x1 eo_11) cw_X15_94 hW hZ k_x0 (by decide) rfl rfl rfl hl.1 (Nat.le_of_ble_eq_true rfl) rfl dX15_isMan_134 ⟨Nat.le_of_ble_eq_true rfl, Nat.le_of_ble_eq_true rfl⟩ ⟨Nat.le_refl _, Nat.le_refl _⟩) hZ (fun _ _ hW km hZ => ?_)
      replace hkm := hkm.tr km
      replace k_x0 := km.at k_x0 (by decide)
      replace k_x1 := km.at k_x1 (by decide)
      refine lv_if_eq (tgt := 154) C.1 C.2.1 dX15_isMan_137 (by decide) (fun c_12 => ?_) (fun c_12 => ?_)
      · have hE := br_p hE c_12
        exact bX15_isMan_154 C hkm hW hZ _ (lv_sub hl [] rfl) hE
      · have hE := br_n hE c_12
        refine lv_aload_n C.1 C.2.1 dX15_isMan_140 rfl (lv_at hl 0 rfl) ?_
        obtain ⟨r_13, er_13, hE⟩ := cl_e hE
        refine gf_X15_57 C hW k_x0 er_13 dX15_isMan_141 (fun k_r_13 => ?_)
        obtain ⟨r_14, er_14, hE⟩ := cl_e hE
        refine gf_X15_176 C hW k_r_13 er_14 dX15_isMan_144 (fun k_r_14 => ?_)
        refine lv_iload_n C.1 C.2.1 dX15_isMan_147 rfl (lv_at hl 3 rfl) ?_
        obtain ⟨g_15, hE⟩ := gd_e hE
        refine y_iald C hW k_r_14 g_15 dX15_isMan_148 ?_
        refine lv_bipush (v := (8 : Int32)) C.1 C.2.1 dX15_isMan_149 (by decide) ?_
        refine lv_icmp_ne (tgt := 156) C.1 C.2.1 dX15_isMan_151 (by decide) (fun c_16 => ?_) (fun c_16 => ?_)
        · have hE := br_n hE c_16
          refine lv_aload_n C.1 C.2.1 dX15_isMan_156 rfl (lv_at hl 0 rfl) ?_
          refine lv_aload_n C.1 C.2.1 dX15_isMan_157 rfl (lv_at hl 1 rfl) ?_
          refine lv_iload_n C.1 C.2.1 dX15_isMan_158 rfl (lv_at hl 2 rfl) ?_
          obtain ⟨o_17, eo_17, hE⟩ := cl_e hE
          refine x_kV (o := o_17) (z_runV (As := [.ref x1, .int x2]) (rest := []) C (ct_X15_nextToken l X F k_x0 k_x1 eo_17) cw_X15_74 hW hZ k_x0 (by decide) rfl rfl rfl hl.1 (Nat.le_of_ble_eq_true rfl) rfl dX15_isMan_159 ⟨Nat.le_of_ble_eq_true rfl, Nat.le_of_ble_eq_true rfl⟩ ⟨Nat.le_refl _, Nat.le_refl _⟩) hZ (fun _ _ hW km hZ => ?_)
          replace hkm := hkm.tr km
          replace k_x0 := km.at k_x0 (by decide)
          replace k_x1 := km.at k_x1 (by decide)
          refine lv_goto (tgt := 92) C.1 C.2.1 dX15_isMan_162 (by decide) ?_
          exact hk_92 _ _ _ _ _ _ _ k_x0 k_x1 hkm hW hZ _ (lv_sub hl [0, 1, 2, 3] rfl) hE
        · have hE := br_p hE c_16
          exact bX15_isMan_154 C hkm hW hZ _ (lv_sub hl [] rfl) hE
    · have hE := br_p hE c_5
      refine lv_iconst (v := (0 : Int32)) C.1 C.2.1 dX15_isMan_115 (by decide) ?_
      exact x_iret C rfl (by decide) hW hZ hkm hE dX15_isMan_116
set_option maxRecDepth 20000 in
theorem ct_X15_isMan (l : Launch) (X : Ec) (F : Nat) {h : Hp} {x0 : Nat} {x1 : Nat} {x2 : Int32} {o : Int32 × Hp} (k_x0 : hK h x0 = 15) (k_x1 : hK h x1 = 16) (hE : sX15_isMan F h x0 x1 x2 = some o) : MetI l yX15_isMan cX15_isMan 4 (some .boolean) 7 155 X [.ref x0, .ref x1, .int x2] h o := by
  refine x_met (by decide) (Nat.le_of_ble_eq_true rfl) ?_
  intro p e s m below meth c ls C hl hW hZ
  have hl : lv_has ls 4 [(0, .ref x0), (1, .ref x1), (2, .int x2)] := hl
  have hkm : Km h h := Km.rf h
  refine lv_aload_n C.1 C.2.1 dX15_isMan_0 rfl (lv_at hl 0 rfl) ?_
  refine lv_aload_n C.1 C.2.1 dX15_isMan_1 rfl (lv_at hl 1 rfl) ?_
  refine lv_iload_n C.1 C.2.1 dX15_isMan_2 rfl (lv_at hl 2 rfl) ?_
  obtain ⟨o_1, eo_1, hE⟩ := cl_e hE
  refine x_kV (o := o_1) (z_runV (As := [.ref x1, .int x2]) (rest := []) C (ct_X15_nextToken l X F k_x0 k_x1 eo_1) cw_X15_74 hW hZ k_x0 (by decide) rfl rfl rfl hl.1 (Nat.le_of_ble_eq_true rfl) rfl dX15_isMan_3 ⟨Nat.le_of_ble_eq_true rfl, Nat.le_of_ble_eq_true rfl⟩ ⟨Nat.le_refl _, Nat.le_refl _⟩) hZ (fun _ _ hW km hZ => ?_)
  replace hkm := hkm.tr km
  replace k_x0 := km.at k_x0 (by decide)
  replace k_x1 := km.at k_x1 (by decide)
  refine lv_aload_n C.1 C.2.1 dX15_isMan_6 rfl (lv_at hl 0 rfl) ?_
  refine gf_X15_34 C hW k_x0 dX15_isMan_7 ?_
  refine lv_iconst (v := (1 : Int32)) C.1 C.2.1 dX15_isMan_10 (by decide) ?_
  refine lv_icmp_ne (tgt := 48) C.1 C.2.1 dX15_isMan_11 (by decide) (fun c_2 => ?_) (fun c_2 => ?_)
  · have hE := br_n hE c_2
    exact bX15_isMan_48 C hkm hW hZ _ (lv_sub hl [] rfl) hE
  · have hE := br_p hE c_2
    refine lv_aload_n C.1 C.2.1 dX15_isMan_14 rfl (lv_at hl 0 rfl) ?_
    refine gf_X15_24 C hW k_x0 dX15_isMan_15 ?_
    refine lv_aload_n C.1 C.2.1 dX15_isMan_18 rfl (lv_at hl 0 rfl) ?_
    refine gf_X15_27 C hW k_x0 dX15_isMan_19 ?_
    refine lv_iconst (v := (1 : Int32)) C.1 C.2.1 dX15_isMan_22 (by decide) ?_
    refine lv_iadd C.1 C.2.1 dX15_isMan_23 ?_
    refine lv_icmp_ne (tgt := 48) C.1 C.2.1 dX15_isMan_24 (by decide) (fun c_3 => ?_) (fun c_3 => ?_)
    · have hE := br_n hE c_3
      exact bX15_isMan_48 C hkm hW hZ _ (lv_sub hl [] rfl) hE
    · have hE := br_p hE c_3
      refine lv_aload_n C.1 C.2.1 dX15_isMan_27 rfl (lv_at hl 0 rfl) ?_
      refine lv_aload_n C.1 C.2.1 dX15_isMan_28 rfl (lv_at hl 1 rfl) ?_
      obtain ⟨o_4, eo_4, hE⟩ := cl_e hE
      refine x_kI (o := o_4) (z_runV (As := [.ref x1]) (rest := []) C (ct_X15_manAt l X F k_x0 k_x1 eo_4) cw_X15_165 hW hZ k_x0 (by decide) rfl rfl rfl hl.1 (Nat.le_of_ble_eq_true rfl) rfl dX15_isMan_29 ⟨Nat.le_of_ble_eq_true rfl, Nat.le_of_ble_eq_true rfl⟩ ⟨Nat.le_refl _, Nat.le_refl _⟩) hZ (fun _ _ hW km hZ => ?_)
      replace hkm := hkm.tr km
      replace k_x0 := km.at k_x0 (by decide)
      replace k_x1 := km.at k_x1 (by decide)
      refine lv_iconst (v := (-1 : Int32)) C.1 C.2.1 dX15_isMan_32 (by decide) ?_
      refine lv_icmp_ne (tgt := 48) C.1 C.2.1 dX15_isMan_33 (by decide) (fun c_5 => ?_) (fun c_5 => ?_)
      · have hE := br_n hE c_5
        exact bX15_isMan_48 C hkm hW hZ _ (lv_sub hl [] rfl) hE
      · have hE := br_p hE c_5
        refine lv_aload_n C.1 C.2.1 dX15_isMan_36 rfl (lv_at hl 0 rfl) ?_
        obtain ⟨r_6, er_6, hE⟩ := cl_e hE
        refine gf_X15_57 C hW k_x0 er_6 dX15_isMan_37 (fun k_r_6 => ?_)
        refine gf_X15_169 C hW k_r_6 dX15_isMan_40 ?_
        refine lv_bipush (v := (12 : Int32)) C.1 C.2.1 dX15_isMan_43 (by decide) ?_
        refine lv_icmp_ne (tgt := 50) C.1 C.2.1 dX15_isMan_45 (by decide) (fun c_7 => ?_) (fun c_7 => ?_)
        · have hE := br_n hE c_7
          refine lv_aload_n C.1 C.2.1 dX15_isMan_50 rfl (lv_at hl 0 rfl) ?_
          obtain ⟨r_8, er_8, hE⟩ := cl_e hE
          refine gf_X15_57 C hW k_x0 er_8 dX15_isMan_51 (fun k_r_8 => ?_)
          refine gf_X15_169 C hW k_r_8 dX15_isMan_54 ?_
          obtain ⟨v_9, ev_9, hE⟩ := nm_e2 hE
          refine x_nmI ev_9 ?_
          refine lv_istore_n (lv' := [(3, .int v_9), (0, .ref x0), (1, .ref x1), (2, .int x2)]) C.1 C.2.1 dX15_isMan_57 rfl hl (by decide) rfl (fun ls hl => ?_)
          refine lv_aload_n C.1 C.2.1 dX15_isMan_58 rfl (lv_at hl 1 rfl) ?_
          obtain ⟨r_10, er_10, hE⟩ := cl_e hE
          refine gf_X15_57 C hW k_x0 er_10 dX15_isMan_59 (fun k_r_10 => ?_)
          obtain ⟨r_11, er_11, hE⟩ := cl_e hE
          refine gf_X15_172 C hW k_r_10 er_11 dX15_isMan_62 (fun k_r_11 => ?_)
          refine lv_iload_n C.1 C.2.1 dX15_isMan_65 rfl (lv_at hl 0 rfl) ?_
          refine lv_aload_n C.1 C.2.1 dX15_isMan_66 rfl (lv_at hl 2 rfl) ?_
          refine lv_aload_n C.1 C.2.1 dX15_isMan_67 rfl (lv_at hl 1 rfl) ?_
          refine gf_X15_27 C hW k_x0 dX15_isMan_68 ?_
          obtain ⟨g_12, hE⟩ := gd_e hE
          refine y_bald C hW k_x1 g_12 dX15_isMan_71 ?_
          obtain ⟨g_13, hE⟩ := gd_e hE
          obtain ⟨h_14, eh_14, hE⟩ := nm_e2 hE
          refine y_iast C hW hZ k_r_11 g_13 eh_14 dX15_isMan_72 (fun _ _ hW km hZ => ?_)
          replace hkm := hkm.tr km
          replace k_x0 := km.at k_x0 (by decide)
          replace k_x1 := km.at k_x1 (by decide)
          refine lv_aload_n C.1 C.2.1 dX15_isMan_73 rfl (lv_at hl 1 rfl) ?_
          obtain ⟨r_15, er_15, hE⟩ := cl_e hE
          refine gf_X15_57 C hW k_x0 er_15 dX15_isMan_74 (fun k_r_15 => ?_)
          refine lv_dup C.1 C.2.1 dX15_isMan_77 rfl ?_
          refine gf_X15_169 C hW k_r_15 dX15_isMan_78 ?_
          refine lv_iconst (v := (1 : Int32)) C.1 C.2.1 dX15_isMan_81 (by decide) ?_
          refine lv_iadd C.1 C.2.1 dX15_isMan_82 ?_
          obtain ⟨h_16, eh_16, hE⟩ := nm_e2 hE
          refine pf_X15_169 C hW hZ k_r_15 eh_16 dX15_isMan_83 (fun _ _ hW km hZ => ?_)
          replace hkm := hkm.tr km
          replace k_x0 := km.at k_x0 (by decide)
          replace k_x1 := km.at k_x1 (by decide)
          refine lv_aload_n C.1 C.2.1 dX15_isMan_86 rfl (lv_at hl 1 rfl) ?_
          refine lv_aload_n C.1 C.2.1 dX15_isMan_87 rfl (lv_at hl 2 rfl) ?_
          refine lv_iload_n C.1 C.2.1 dX15_isMan_88 rfl (lv_at hl 3 rfl) ?_
          obtain ⟨o_17, eo_17, hE⟩ := cl_e hE
          refine x_kV (o := o_17) (z_runV (As := [.ref x1, .int x2]) (rest := []) C (ct_X15_nextToken l X F k_x0 k_x1 eo_17) cw_X15_74 hW hZ k_x0 (by decide) rfl rfl rfl hl.1 (Nat.le_of_ble_eq_true rfl) rfl dX15_isMan_89 ⟨Nat.le_of_ble_eq_true rfl, Nat.le_of_ble_eq_true rfl⟩ ⟨Nat.le_refl _, Nat.le_refl _⟩) hZ (fun _ _ hW km hZ => ?_)
          replace hkm := hkm.tr km
          replace k_x0 := km.at k_x0 (by decide)
          replace k_x1 := km.at k_x1 (by decide)
          exact bX15_isMan_92 C F k_x0 k_x1 hkm hW hZ _ (lv_sub hl [1, 2, 3, 0] rfl) hE
        · have hE := br_p hE c_7
          exact bX15_isMan_48 C hkm hW hZ _ (lv_sub hl [] rfl) hE
