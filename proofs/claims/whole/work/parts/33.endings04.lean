set_option maxRecDepth 100000 in
theorem ms_101 : Cond.selects RX0 yX0_takeBackTaking yX0_takeBackTaking ∈ W0 := w0_in (List.mem_append_left _ (List.mem_of_getElem? (i := 101) rfl)) rfl
set_option maxRecDepth 100000 in
theorem m_85 : Cond.fieldLink RX0 224 (TX1 3).1 (TX1 3).2.1 (TX1 3).2.2.1 ∈ W0 := w0_in (List.mem_append_right _ (List.mem_of_getElem? (i := 85) rfl)) rfl
set_option maxRecDepth 100000 in
theorem m_475 : Cond.fieldLink RX0 88 (TX0 15).1 (TX0 15).2.1 (TX0 15).2.2.1 ∈ W0 := w0_in (List.mem_append_right _ (List.mem_of_getElem? (i := 475) rfl)) rfl
set_option maxRecDepth 100000 in
theorem m_1685 : Cond.methodLink RX0 230 yX0_takeBackTaking ∈ W0 := w0_in (List.mem_append_right _ (List.mem_of_getElem? (i := 1685) rfl)) rfl
set_option maxRecDepth 100000 in
theorem m_1687 : Cond.instanceMethod yX0_takeBackTaking ∈ W0 := w0_in (List.mem_append_right _ (List.mem_of_getElem? (i := 1687) rfl)) rfl
set_option maxRecDepth 100000 in
theorem m_1688 : Cond.code yX0_takeBackTaking cX0_takeBackTaking 13 none ∈ W0 := w0_in (List.mem_append_right _ (List.mem_of_getElem? (i := 1688) rfl)) rfl
set_option maxRecDepth 100000 in
theorem m_1723 : Cond.methodLink RX0 233 yJ13_bitCount_95d88 ∈ W0 := w0_in (List.mem_append_right _ (List.mem_of_getElem? (i := 1723) rfl)) rfl
section
variable {p : Program} {l : Launch} {e : Env} {R : Room} {s : State} {m : MethodId} {args : Array Value} {below : List Frame} {meth : Method} {c : Code} {H : Heap} {locs : List Loc} {cells slots : Nat} {Q : State → Prop}
variable {cc : ByteArray} {pc : Nat} {ls : Array Slot} {rest : List Value} {X : Ec} {h h1 : Hp} {nL : Nat} {rt : Option FieldType} {mn : String}
theorem gf_X0_224 {a : Nat} (C : Cx X p s m args meth c RX0 cc nL rt mn) (hW : Wx X h H) (ha : hK h a = 1) (hdg : decode cc pc = .ok (.getfield 224, 3)) (kk : W p l e R s m args below meth c H locs cells slots Q (F0 m (pc + 3) ls (.int (hI h a 3) :: rest))) : W p l e R s m args below meth c H locs cells slots Q (F0 m pc ls (.ref a :: rest)) :=
  y_geti C hW ha i_X1 (by decide) rfl (by decide) m_85 rfl hdg kk
theorem gf_X0_88 {a : Nat} (C : Cx X p s m args meth c RX0 cc nL rt mn) (hW : Wx X h H) (ha : hK h a = 0) (hdg : decode cc pc = .ok (.getfield 88, 3)) (kk : W p l e R s m args below meth c H locs cells slots Q (F0 m (pc + 3) ls (.int (hI h a 15) :: rest))) : W p l e R s m args below meth c H locs cells slots Q (F0 m pc ls (.ref a :: rest)) :=
  y_geti C hW ha i_X0 (by decide) rfl (by decide) m_475 rfl hdg kk
end
theorem cw_X0_230 : cwd RX0 230 yX0_takeBackTaking cX0_takeBackTaking 13 none false 3 := ⟨m_1688, m_1685, m_13, ⟨m_1687, ms_101⟩, by decide, by decide, by decide +kernel⟩
theorem cw_X0_233 : cwd RX0 233 yJ13_bitCount_95d88 cJ13_bitCount_95d88 2 (some .int) true 1 := ⟨m_1274, m_1723, m_24, m_1273, by decide, by decide, by decide +kernel⟩
theorem dX0_takeBack_0 : decode cX0_takeBack 0 = .ok (.aload_n 0, 1) := by decide +kernel
theorem dX0_takeBack_1 : decode cX0_takeBack 1 = .ok (.iload_n 1, 1) := by decide +kernel
theorem dX0_takeBack_2 : decode cX0_takeBack 2 = .ok (.iload_n 2, 1) := by decide +kernel
theorem dX0_takeBack_3 : decode cX0_takeBack 3 = .ok (.iconst (-1), 1) := by decide +kernel
theorem dX0_takeBack_4 : decode cX0_takeBack 4 = .ok (.invokevirtual 230, 3) := by decide +kernel
theorem dX0_takeBack_7 : decode cX0_takeBack 7 = .ok (.aload_n 0, 1) := by decide +kernel
theorem dX0_takeBack_8 : decode cX0_takeBack 8 = .ok (.getfield 14, 3) := by decide +kernel
theorem dX0_takeBack_11 : decode cX0_takeBack 11 = .ok (.invokevirtual 157, 3) := by decide +kernel
theorem dX0_takeBack_14 : decode cX0_takeBack 14 = .ok (.invokestatic 233, 3) := by decide +kernel
theorem dX0_takeBack_17 : decode cX0_takeBack 17 = .ok (.aload_n 0, 1) := by decide +kernel
theorem dX0_takeBack_18 : decode cX0_takeBack 18 = .ok (.getfield 88, 3) := by decide +kernel
theorem dX0_takeBack_21 : decode cX0_takeBack 21 = .ok (.invokestatic 143, 3) := by decide +kernel
theorem dX0_takeBack_24 : decode cX0_takeBack 24 = .ok (.if_icmp .lt 4, 3) := by decide +kernel
theorem dX0_takeBack_27 : decode cX0_takeBack 27 = .ok (.return_, 1) := by decide +kernel
theorem dX0_takeBack_28 : decode cX0_takeBack 28 = .ok (.iconst 0, 1) := by decide +kernel
theorem dX0_takeBack_29 : decode cX0_takeBack 29 = .ok (.istore_n 3, 1) := by decide +kernel
theorem dX0_takeBack_30 : decode cX0_takeBack 30 = .ok (.iload_n 3, 1) := by decide +kernel
theorem dX0_takeBack_31 : decode cX0_takeBack 31 = .ok (.aload_n 0, 1) := by decide +kernel
theorem dX0_takeBack_32 : decode cX0_takeBack 32 = .ok (.getfield 40, 3) := by decide +kernel
theorem dX0_takeBack_35 : decode cX0_takeBack 35 = .ok (.getfield 224, 3) := by decide +kernel
theorem dX0_takeBack_38 : decode cX0_takeBack 38 = .ok (.if_icmp .ge 35, 3) := by decide +kernel
theorem dX0_takeBack_41 : decode cX0_takeBack 41 = .ok (.iload_n 3, 1) := by decide +kernel
theorem dX0_takeBack_42 : decode cX0_takeBack 42 = .ok (.aload_n 0, 1) := by decide +kernel
theorem dX0_takeBack_43 : decode cX0_takeBack 43 = .ok (.getfield 40, 3) := by decide +kernel
theorem dX0_takeBack_46 : decode cX0_takeBack 46 = .ok (.getfield 67, 3) := by decide +kernel
theorem dX0_takeBack_49 : decode cX0_takeBack 49 = .ok (.if_icmp .eq 18, 3) := by decide +kernel
theorem dX0_takeBack_52 : decode cX0_takeBack 52 = .ok (.aload_n 0, 1) := by decide +kernel
theorem dX0_takeBack_53 : decode cX0_takeBack 53 = .ok (.iload_n 1, 1) := by decide +kernel
theorem dX0_takeBack_54 : decode cX0_takeBack 54 = .ok (.iload_n 2, 1) := by decide +kernel
theorem dX0_takeBack_55 : decode cX0_takeBack 55 = .ok (.iconst 2, 1) := by decide +kernel
theorem dX0_takeBack_56 : decode cX0_takeBack 56 = .ok (.iload_n 3, 1) := by decide +kernel
theorem dX0_takeBack_57 : decode cX0_takeBack 57 = .ok (.imul, 1) := by decide +kernel
theorem dX0_takeBack_58 : decode cX0_takeBack 58 = .ok (.iconst 1, 1) := by decide +kernel
theorem dX0_takeBack_59 : decode cX0_takeBack 59 = .ok (.iadd, 1) := by decide +kernel
theorem dX0_takeBack_60 : decode cX0_takeBack 60 = .ok (.iload_n 2, 1) := by decide +kernel
theorem dX0_takeBack_61 : decode cX0_takeBack 61 = .ok (.iconst 1, 1) := by decide +kernel
theorem dX0_takeBack_62 : decode cX0_takeBack 62 = .ok (.iand, 1) := by decide +kernel
theorem dX0_takeBack_63 : decode cX0_takeBack 63 = .ok (.isub, 1) := by decide +kernel
theorem dX0_takeBack_64 : decode cX0_takeBack 64 = .ok (.invokevirtual 230, 3) := by decide +kernel
theorem dX0_takeBack_67 : decode cX0_takeBack 67 = .ok (.iinc 3 1, 3) := by decide +kernel
theorem dX0_takeBack_70 : decode cX0_takeBack 70 = .ok (.goto (-40), 3) := by decide +kernel
theorem dX0_takeBack_73 : decode cX0_takeBack 73 = .ok (.return_, 1) := by decide +kernel
def sX0_takeBack_67 (F : Nat) (k_30 : Hp → Nat → Int32 → Int32 → Int32 → Option (Hp)) (h : Hp) (x0 : Nat) (x1 : Int32) (x2 : Int32) (x3 : Int32) : Option (Hp) := nm (x3 + (1 : Int32)) fun v_1 => k_30 h x0 x1 x2 v_1
def sX0_takeBack_30 (F : Nat) : Nat → Hp → Nat → Int32 → Int32 → Int32 → Option (Hp)
  | 0, _, _, _, _, _ => none
  | f + 1, h, x0, x1, x2, x3 => cl (hR h x0 0) fun r_1 => br ((hI h r_1 3) ≤ x3) (some h) (cl (hR h x0 0) fun r_3 => br (x3 = (hI h r_3 4)) (sX0_takeBack_67 F (sX0_takeBack_30 F f) h x0 x1 x2 x3) (cl (sX0_takeBackTaking F h x0 x1 x2 ((((2 : Int32) * x3) + (1 : Int32)) - (x2 &&& (1 : Int32)))) fun o_5 => sX0_takeBack_67 F (sX0_takeBack_30 F f) o_5 x0 x1 x2 x3))
def sX0_takeBack (F : Nat) (h : Hp) (x0 : Nat) (x1 : Int32) (x2 : Int32) : Option (Hp) := cl (sX0_takeBackTaking F h x0 x1 x2 (-1 : Int32)) fun o_1 => cl (hR o_1 x0 3) fun r_2 => cl (sX3_occupied o_1 r_2) fun o_3 => cl (sJ13_bitCount_95d88 o_3.2 o_3.1) fun o_4 => cl (sX0_sizeOf F o_4.2 (hI o_4.2 x0 15)) fun o_5 => br (o_4.1 < o_5.1) (sX0_takeBack_30 F F o_5.2 x0 x1 x2 (0 : Int32)) (some o_5.2)
set_option maxRecDepth 20000 in
theorem moX0_takeBack_67 {o : Hp} {k_30 : Hp → Nat → Int32 → Int32 → Int32 → Option (Hp)} {F : Nat} (mk_30 : ∀ (h : Hp) (x0 : Nat) (x1 : Int32) (x2 : Int32) (x3 : Int32), k_30 h x0 x1 x2 x3 = some o → Le h o) {h : Hp} {x0 : Nat} {x1 : Int32} {x2 : Int32} {x3 : Int32} (hE : sX0_takeBack_67 F k_30 h x0 x1 x2 x3 = some o) : Le h o := by
  obtain ⟨v_1, ev_1, hE⟩ := nm_e2 hE
  exact mk_30 _ _ _ _ _ hE
set_option maxRecDepth 20000 in
theorem moX0_takeBack_30 {o : Hp} {F : Nat} : ∀ (f : Nat) {h : Hp} {x0 : Nat} {x1 : Int32} {x2 : Int32} {x3 : Int32}, sX0_takeBack_30 F f h x0 x1 x2 x3 = some o → Le h o := by
  intro f
  induction f with
  | zero =>
    intro h x0 x1 x2 x3 hE
    rw [sX0_takeBack_30] at hE
    cases hE
  | succ f ih =>
    intro h x0 x1 x2 x3 hE
    rw [sX0_takeBack_30] at hE
    have mk_30 : ∀ (h : Hp) (x0 : Nat) (x1 : Int32) (x2 : Int32) (x3 : Int32), sX0_takeBack_30 F f h x0 x1 x2 x3 = some o → Le h o := fun h x0 x1 x2 x3 hE => ih hE
    obtain ⟨r_1, er_1, hE⟩ := cl_e hE
    rcases br_e hE with ⟨_, hE⟩ | ⟨_, hE⟩
    · exact le_some1 hE
    · obtain ⟨r_3, er_3, hE⟩ := cl_e hE
      rcases br_e hE with ⟨_, hE⟩ | ⟨_, hE⟩
      · exact moX0_takeBack_67 mk_30 hE
      · obtain ⟨o_5, eo_5, hE⟩ := cl_e hE
        refine (moX0_takeBackTaking eo_5).tr ?_
        exact moX0_takeBack_67 mk_30 hE
set_option maxRecDepth 20000 in
theorem moX0_takeBack {o : Hp} {F : Nat} {h : Hp} {x0 : Nat} {x1 : Int32} {x2 : Int32} (hE : sX0_takeBack F h x0 x1 x2 = some o) : Le h o := by
  obtain ⟨o_1, eo_1, hE⟩ := cl_e hE
  refine (moX0_takeBackTaking eo_1).tr ?_
  obtain ⟨r_2, er_2, hE⟩ := cl_e hE
  obtain ⟨o_3, eo_3, hE⟩ := cl_e hE
  refine (moX3_occupied eo_3).tr ?_
  obtain ⟨o_4, eo_4, hE⟩ := cl_e hE
  refine (moJ13_bitCount_95d88 eo_4).tr ?_
  obtain ⟨o_5, eo_5, hE⟩ := cl_e hE
  refine (moX0_sizeOf eo_5).tr ?_
  rcases br_e hE with ⟨_, hE⟩ | ⟨_, hE⟩
  · exact moX0_takeBack_30 _ hE
  · exact le_some1 hE
set_option maxRecDepth 20000 in
theorem bX0_takeBack_67 {p : Program} {l : Launch} {e : Env} {s : State} {m : MethodId} {args : Array Value} {below : List Frame} {meth : Method} {c : Code} {X : Ec} {h0 : Hp} {o : Hp} {k_30 : Hp → Nat → Int32 → Int32 → Int32 → Option (Hp)} {F : Nat} (C : Cx X p s m args meth c RX0 cX0_takeBack 4 none "takeBack") (hk_30 : ∀ (h : Hp) (x0 : Nat) (x1 : Int32) (x2 : Int32) (x3 : Int32) (H : Heap) (locs : List Loc), hK h x0 = 0 → Km h0 h → Wx X h H → va_S (aA (eB X)) s.heap H locs → ∀ (ls : Array Slot), lv_has ls 4 [(0, .ref x0), (1, .int x1), (2, .int x2), (3, .int x3)] → k_30 h x0 x1 x2 x3 = some o → W p l e (rm 3 94) s m args below meth c H locs 0 0 (MQ below (QV X h0 o) args s 0 0 (aA (eB X))) (F0 m 30 ls [])) {h : Hp} {x0 : Nat} {x1 : Int32} {x2 : Int32} {x3 : Int32} {H : Heap} {locs : List Loc} (k_x0 : hK h x0 = 0) (hkm : Km h0 h) (hW : Wx X h H) (hZ : va_S (aA (eB X)) s.heap H locs) (ls : Array Slot) (hl : lv_has ls 4 [(0, .ref x0), (1, .int x1), (2, .int x2), (3, .int x3)]) (hE : sX0_takeBack_67 F k_30 h x0 x1 x2 x3 = some o) : W p l e (rm 3 94) s m args below meth c H locs 0 0 (MQ below (QV X h0 o) args s 0 0 (aA (eB X))) (F0 m 67 ls []) := by
  obtain ⟨v_1, ev_1, hE⟩ := nm_e2 hE
  refine lv_iinc (v := v_1) (lv' := [(3, .int v_1), (0, .ref x0), (1, .int x1), (2, .int x2)]) C.1 C.2.1 dX0_takeBack_67 hl (k := 3) rfl (by rw [ev_1]; rfl) (by decide) rfl (fun ls hl => ?_)
  refine lv_goto (tgt := 30) C.1 C.2.1 dX0_takeBack_70 (by decide) ?_
  exact hk_30 _ _ _ _ _ _ _ k_x0 hkm hW hZ _ (lv_sub hl [1, 2, 3, 0] rfl) hE
set_option maxRecDepth 20000 in
theorem bX0_takeBack_30 {p : Program} {l : Launch} {e : Env} {s : State} {m : MethodId} {args : Array Value} {below : List Frame} {meth : Method} {c : Code} {X : Ec} {h0 : Hp} {o : Hp} {F : Nat} (C : Cx X p s m args meth c RX0 cX0_takeBack 4 none "takeBack") : ∀ (f : Nat) {h : Hp} {x0 : Nat} {x1 : Int32} {x2 : Int32} {x3 : Int32} {H : Heap} {locs : List Loc} (k_x0 : hK h x0 = 0), Km h0 h → Wx X h H → va_S (aA (eB X)) s.heap H locs → ∀ (ls : Array Slot), lv_has ls 4 [(0, .ref x0), (1, .int x1), (2, .int x2), (3, .int x3)] → sX0_takeBack_30 F f h x0 x1 x2 x3 = some o → W p l e (rm 3 94) s m args below meth c H locs 0 0 (MQ below (QV X h0 o) args s 0 0 (aA (eB X))) (F0 m 30 ls []) := by
  intro f
  induction f with
  | zero =>
    intro h x0 x1 x2 x3 H locs k_x0 hkm hW hZ ls hl hE
    rw [sX0_takeBack_30] at hE
    cases hE
  | succ f ih =>
    intro h x0 x1 x2 x3 H locs k_x0 hkm hW hZ ls hl hE
    rw [sX0_takeBack_30] at hE
    have hk_30 : ∀ (h : Hp) (x0 : Nat) (x1 : Int32) (x2 : Int32) (x3 : Int32) (H : Heap) (locs : List Loc), hK h x0 = 0 → Km h0 h → Wx X h H → va_S (aA (eB X)) s.heap H locs → ∀ (ls : Array Slot), lv_has ls 4 [(0, .ref x0), (1, .int x1), (2, .int x2), (3, .int x3)] → sX0_takeBack_30 F f h x0 x1 x2 x3 = some o → W p l e (rm 3 94) s m args below meth c H locs 0 0 (MQ below (QV X h0 o) args s 0 0 (aA (eB X))) (F0 m 30 ls []) := fun h x0 x1 x2 x3 H locs k_x0 a b c ls hl hE => ih k_x0 a b c ls hl hE
    refine lv_iload_n C.1 C.2.1 dX0_takeBack_30 rfl (lv_at hl 3 rfl) ?_
    refine lv_aload_n C.1 C.2.1 dX0_takeBack_31 rfl (lv_at hl 0 rfl) ?_
    obtain ⟨r_1, er_1, hE⟩ := cl_e hE
    refine gf_X0_40 C hW k_x0 er_1 dX0_takeBack_32 (fun k_r_1 => ?_)
    refine gf_X0_224 C hW k_r_1 dX0_takeBack_35 ?_
    refine lv_icmp_ge (tgt := 73) C.1 C.2.1 dX0_takeBack_38 (by decide) (fun c_2 => ?_) (fun c_2 => ?_)
    · have hE := br_p hE c_2
      exact x_vret C rfl hW hZ hkm hE dX0_takeBack_73
    · have hE := br_n hE c_2
      refine lv_iload_n C.1 C.2.1 dX0_takeBack_41 rfl (lv_at hl 3 rfl) ?_
      refine lv_aload_n C.1 C.2.1 dX0_takeBack_42 rfl (lv_at hl 0 rfl) ?_
      obtain ⟨r_3, er_3, hE⟩ := cl_e hE
      refine gf_X0_40 C hW k_x0 er_3 dX0_takeBack_43 (fun k_r_3 => ?_)
      refine gf_X0_67 C hW k_r_3 dX0_takeBack_46 ?_
      refine lv_icmp_eq (tgt := 67) C.1 C.2.1 dX0_takeBack_49 (by decide) (fun c_4 => ?_) (fun c_4 => ?_)
      · have hE := br_p hE c_4
        exact bX0_takeBack_67 C hk_30 k_x0 hkm hW hZ _ (lv_sub hl [0, 1, 2, 3] rfl) hE
      · have hE := br_n hE c_4
        refine lv_aload_n C.1 C.2.1 dX0_takeBack_52 rfl (lv_at hl 0 rfl) ?_
        refine lv_iload_n C.1 C.2.1 dX0_takeBack_53 rfl (lv_at hl 1 rfl) ?_
        refine lv_iload_n C.1 C.2.1 dX0_takeBack_54 rfl (lv_at hl 2 rfl) ?_
        refine lv_iconst (v := (2 : Int32)) C.1 C.2.1 dX0_takeBack_55 (by decide) ?_
        refine lv_iload_n C.1 C.2.1 dX0_takeBack_56 rfl (lv_at hl 3 rfl) ?_
        refine lv_imul C.1 C.2.1 dX0_takeBack_57 ?_
        refine lv_iconst (v := (1 : Int32)) C.1 C.2.1 dX0_takeBack_58 (by decide) ?_
        refine lv_iadd C.1 C.2.1 dX0_takeBack_59 ?_
        refine lv_iload_n C.1 C.2.1 dX0_takeBack_60 rfl (lv_at hl 2 rfl) ?_
        refine lv_iconst (v := (1 : Int32)) C.1 C.2.1 dX0_takeBack_61 (by decide) ?_
        refine lv_iand C.1 C.2.1 dX0_takeBack_62 ?_
        refine lv_isub C.1 C.2.1 dX0_takeBack_63 ?_
        obtain ⟨o_5, eo_5, hE⟩ := cl_e hE
        refine x_kV (o := o_5) (z_runV (As := [.int x1, .int x2, .int ((((2 : Int32) * x3) + (1 : Int32)) - (x2 &&& (1 : Int32)))]) (rest := []) C (ct_X0_takeBackTaking l X F k_x0 eo_5) cw_X0_230 hW hZ k_x0 (by decide) rfl rfl rfl hl.1 (Nat.le_of_ble_eq_true rfl) rfl dX0_takeBack_64 ⟨Nat.le_of_ble_eq_true rfl, Nat.le_of_ble_eq_true rfl⟩ ⟨Nat.le_refl _, Nat.le_refl _⟩) hZ (fun _ _ hW km hZ => ?_)
        replace hkm := hkm.tr km
        replace k_x0 := km.at k_x0 (by decide)
        exact bX0_takeBack_67 C hk_30 k_x0 hkm hW hZ _ (lv_sub hl [0, 1, 2, 3] rfl) hE
set_option maxRecDepth 20000 in
theorem ct_X0_takeBack (l : Launch) (X : Ec) (F : Nat) {h : Hp} {x0 : Nat} {x1 : Int32} {x2 : Int32} {o : Hp} (k_x0 : hK h x0 = 0) (hE : sX0_takeBack F h x0 x1 x2 = some o) : MetV l yX0_takeBack cX0_takeBack 4 none 3 94 X [.ref x0, .int x1, .int x2] h o := by
  refine x_met (by decide) (Nat.le_of_ble_eq_true rfl) ?_
  intro p e s m below meth c ls C hl hW hZ
  have hl : lv_has ls 4 [(0, .ref x0), (1, .int x1), (2, .int x2)] := hl
  have hkm : Km h h := Km.rf h
  refine lv_aload_n C.1 C.2.1 dX0_takeBack_0 rfl (lv_at hl 0 rfl) ?_
  refine lv_iload_n C.1 C.2.1 dX0_takeBack_1 rfl (lv_at hl 1 rfl) ?_
  refine lv_iload_n C.1 C.2.1 dX0_takeBack_2 rfl (lv_at hl 2 rfl) ?_
  refine lv_iconst (v := (-1 : Int32)) C.1 C.2.1 dX0_takeBack_3 (by decide) ?_
  obtain ⟨o_1, eo_1, hE⟩ := cl_e hE
  refine x_kV (o := o_1) (z_runV (As := [.int x1, .int x2, .int (-1 : Int32)]) (rest := []) C (ct_X0_takeBackTaking l X F k_x0 eo_1) cw_X0_230 hW hZ k_x0 (by decide) rfl rfl rfl hl.1 (Nat.le_of_ble_eq_true rfl) rfl dX0_takeBack_4 ⟨Nat.le_of_ble_eq_true rfl, Nat.le_of_ble_eq_true rfl⟩ ⟨Nat.le_refl _, Nat.le_refl _⟩) hZ (fun _ _ hW km hZ => ?_)
  replace hkm := hkm.tr km
  replace k_x0 := km.at k_x0 (by decide)
  refine lv_aload_n C.1 C.2.1 dX0_takeBack_7 rfl (lv_at hl 0 rfl) ?_
  obtain ⟨r_2, er_2, hE⟩ := cl_e hE
  refine gf_X0_14 C hW k_x0 er_2 dX0_takeBack_8 (fun k_r_2 => ?_)
  obtain ⟨o_3, eo_3, hE⟩ := cl_e hE
  refine x_kJ (o := o_3) (z_runV (As := []) (rest := []) C (ct_X3_occupied l X k_r_2 eo_3) cw_X0_157 hW hZ k_r_2 (by decide) rfl rfl rfl hl.1 (Nat.le_of_ble_eq_true rfl) rfl dX0_takeBack_11 ⟨Nat.le_of_ble_eq_true rfl, Nat.le_of_ble_eq_true rfl⟩ ⟨Nat.le_refl _, Nat.le_refl _⟩) hZ (fun _ _ hW km hZ => ?_)
  replace hkm := hkm.tr km
  replace k_x0 := km.at k_x0 (by decide)
  obtain ⟨o_4, eo_4, hE⟩ := cl_e hE
  refine x_kI (o := o_4) (z_runS (As := [.long o_3.1]) (rest := []) C (ct_J13_bitCount_95d88 l X eo_4) cw_X0_233 hW hZ rfl hl.1 (Nat.le_of_ble_eq_true rfl) rfl dX0_takeBack_14 ⟨Nat.le_of_ble_eq_true rfl, Nat.le_of_ble_eq_true rfl⟩ ⟨Nat.le_refl _, Nat.le_refl _⟩) hZ (fun _ _ hW km hZ => ?_)
  replace hkm := hkm.tr km
  replace k_x0 := km.at k_x0 (by decide)
  refine lv_aload_n C.1 C.2.1 dX0_takeBack_17 rfl (lv_at hl 0 rfl) ?_
  refine gf_X0_88 C hW k_x0 dX0_takeBack_18 ?_
  obtain ⟨o_5, eo_5, hE⟩ := cl_e hE
  refine x_kI (o := o_5) (z_runS (As := [.int (hI o_4.2 x0 15)]) (rest := [.int o_4.1]) C (ct_X0_sizeOf l X F eo_5) cw_X0_143 hW hZ rfl hl.1 (Nat.le_of_ble_eq_true rfl) rfl dX0_takeBack_21 ⟨Nat.le_of_ble_eq_true rfl, Nat.le_of_ble_eq_true rfl⟩ ⟨Nat.le_refl _, Nat.le_refl _⟩) hZ (fun _ _ hW km hZ => ?_)
  replace hkm := hkm.tr km
  replace k_x0 := km.at k_x0 (by decide)
  refine lv_icmp_lt (tgt := 28) C.1 C.2.1 dX0_takeBack_24 (by decide) (fun c_6 => ?_) (fun c_6 => ?_)
  · have hE := br_p hE c_6
    refine lv_iconst (v := (0 : Int32)) C.1 C.2.1 dX0_takeBack_28 (by decide) ?_
    refine lv_istore_n (lv' := [(3, .int (0 : Int32)), (0, .ref x0), (1, .int x1), (2, .int x2)]) C.1 C.2.1 dX0_takeBack_29 rfl hl (by decide) rfl (fun ls hl => ?_)
    exact bX0_takeBack_30 C F k_x0 hkm hW hZ _ (lv_sub hl [1, 2, 3, 0] rfl) hE
  · have hE := br_n hE c_6
    exact x_vret C rfl hW hZ hkm hE dX0_takeBack_27
set_option maxRecDepth 100000 in
theorem ms_100 : Cond.selects RX0 yX0_takeBack yX0_takeBack ∈ W0 := w0_in (List.mem_append_left _ (List.mem_of_getElem? (i := 100) rfl)) rfl
set_option maxRecDepth 100000 in
theorem m_286 : Cond.fieldLink RX0 216 (TX3 1).1 (TX3 1).2.1 (TX3 1).2.2.1 ∈ W0 := w0_in (List.mem_append_right _ (List.mem_of_getElem? (i := 286) rfl)) rfl
set_option maxRecDepth 100000 in
theorem m_1680 : Cond.methodLink RX0 212 yX1_has ∈ W0 := w0_in (List.mem_append_right _ (List.mem_of_getElem? (i := 1680) rfl)) rfl
set_option maxRecDepth 100000 in
theorem m_1681 : Cond.methodLink RX0 220 yX0_takeBack ∈ W0 := w0_in (List.mem_append_right _ (List.mem_of_getElem? (i := 1681) rfl)) rfl
set_option maxRecDepth 100000 in
theorem m_1683 : Cond.instanceMethod yX0_takeBack ∈ W0 := w0_in (List.mem_append_right _ (List.mem_of_getElem? (i := 1683) rfl)) rfl
set_option maxRecDepth 100000 in
theorem m_1684 : Cond.code yX0_takeBack cX0_takeBack 4 none ∈ W0 := w0_in (List.mem_append_right _ (List.mem_of_getElem? (i := 1684) rfl)) rfl
set_option maxRecDepth 100000 in
theorem m_1724 : Cond.methodLink RX0 227 yX1_becomesThis ∈ W0 := w0_in (List.mem_append_right _ (List.mem_of_getElem? (i := 1724) rfl)) rfl
section
variable {p : Program} {l : Launch} {e : Env} {R : Room} {s : State} {m : MethodId} {args : Array Value} {below : List Frame} {meth : Method} {c : Code} {H : Heap} {locs : List Loc} {cells slots : Nat} {Q : State → Prop}
variable {cc : ByteArray} {pc : Nat} {ls : Array Slot} {rest : List Value} {X : Ec} {h h1 : Hp} {nL : Nat} {rt : Option FieldType} {mn : String}
theorem gf_X0_216 {a r : Nat} (C : Cx X p s m args meth c RX0 cc nL rt mn) (hW : Wx X h H) (ha : hK h a = 3) (hr : hR h a 1 = some r) (hdg : decode cc pc = .ok (.getfield 216, 3)) (kk : hK h r = 18 → W p l e R s m args below meth c H locs cells slots Q (F0 m (pc + 3) ls (.ref r :: rest))) : W p l e R s m args below meth c H locs cells slots Q (F0 m pc ls (.ref a :: rest)) :=
  y_getr C hW ha i_X3 (by decide) rfl (by decide) m_286 rfl rfl hr hdg kk
end
theorem cw_X0_227 : cwd RX0 227 yX1_becomesThis cX1_becomesThis 4 (some .boolean) false 2 := ⟨m_1582, m_1724, m_4, ⟨m_1580, m_1581⟩, by decide, by decide, by decide +kernel⟩
theorem cw_X0_220 : cwd RX0 220 yX0_takeBack cX0_takeBack 4 none false 2 := ⟨m_1684, m_1681, m_13, ⟨m_1683, ms_100⟩, by decide, by decide, by decide +kernel⟩
theorem cw_X0_212 : cwd RX0 212 yX1_has cX1_has 2 (some .boolean) false 1 := ⟨m_1029, m_1680, m_4, ⟨m_1027, m_1028⟩, by decide, by decide, by decide +kernel⟩
theorem dX0_goBack_0 : decode cX0_goBack 0 = .ok (.iconst 1, 1) := by decide +kernel
theorem dX0_goBack_1 : decode cX0_goBack 1 = .ok (.iload_n 1, 1) := by decide +kernel
theorem dX0_goBack_2 : decode cX0_goBack 2 = .ok (.isub, 1) := by decide +kernel
theorem dX0_goBack_3 : decode cX0_goBack 3 = .ok (.istore_n 2, 1) := by decide +kernel
theorem dX0_goBack_4 : decode cX0_goBack 4 = .ok (.aload_n 0, 1) := by decide +kernel
theorem dX0_goBack_5 : decode cX0_goBack 5 = .ok (.getfield 40, 3) := by decide +kernel
theorem dX0_goBack_8 : decode cX0_goBack 8 = .ok (.iconst 4, 1) := by decide +kernel
theorem dX0_goBack_9 : decode cX0_goBack 9 = .ok (.invokevirtual 212, 3) := by decide +kernel
theorem dX0_goBack_12 : decode cX0_goBack 12 = .ok (.ifCond .eq 19, 3) := by decide +kernel
theorem dX0_goBack_15 : decode cX0_goBack 15 = .ok (.aload_n 0, 1) := by decide +kernel
theorem dX0_goBack_16 : decode cX0_goBack 16 = .ok (.getfield 48, 3) := by decide +kernel
theorem dX0_goBack_19 : decode cX0_goBack 19 = .ok (.aload_n 0, 1) := by decide +kernel
theorem dX0_goBack_20 : decode cX0_goBack 20 = .ok (.getfield 14, 3) := by decide +kernel
theorem dX0_goBack_23 : decode cX0_goBack 23 = .ok (.iload_n 1, 1) := by decide +kernel
theorem dX0_goBack_24 : decode cX0_goBack 24 = .ok (.invokevirtual 187, 3) := by decide +kernel
theorem dX0_goBack_27 : decode cX0_goBack 27 = .ok (.ifCond .eq 4, 3) := by decide +kernel
theorem dX0_goBack_30 : decode cX0_goBack 30 = .ok (.return_, 1) := by decide +kernel
theorem dX0_goBack_31 : decode cX0_goBack 31 = .ok (.aload_n 0, 1) := by decide +kernel
theorem dX0_goBack_32 : decode cX0_goBack 32 = .ok (.getfield 14, 3) := by decide +kernel
theorem dX0_goBack_35 : decode cX0_goBack 35 = .ok (.getfield 216, 3) := by decide +kernel
theorem dX0_goBack_38 : decode cX0_goBack 38 = .ok (.iload_n 2, 1) := by decide +kernel
theorem dX0_goBack_39 : decode cX0_goBack 39 = .ok (.laload, 1) := by decide +kernel
theorem dX0_goBack_40 : decode cX0_goBack 40 = .ok (.lstore_n 3, 1) := by decide +kernel
theorem dX0_goBack_41 : decode cX0_goBack 41 = .ok (.iconst 0, 1) := by decide +kernel
theorem dX0_goBack_42 : decode cX0_goBack 42 = .ok (.istore 5, 2) := by decide +kernel
theorem dX0_goBack_44 : decode cX0_goBack 44 = .ok (.iload 5, 2) := by decide +kernel
theorem dX0_goBack_46 : decode cX0_goBack 46 = .ok (.bipush 64, 2) := by decide +kernel
theorem dX0_goBack_48 : decode cX0_goBack 48 = .ok (.if_icmp .ge 109, 3) := by decide +kernel
theorem dX0_goBack_51 : decode cX0_goBack 51 = .ok (.lload_n 3, 1) := by decide +kernel
theorem dX0_goBack_52 : decode cX0_goBack 52 = .ok (.lconst 0, 1) := by decide +kernel
theorem dX0_goBack_53 : decode cX0_goBack 53 = .ok (.lcmp, 1) := by decide +kernel
theorem dX0_goBack_54 : decode cX0_goBack 54 = .ok (.ifCond .eq 103, 3) := by decide +kernel
theorem dX0_goBack_57 : decode cX0_goBack 57 = .ok (.lload_n 3, 1) := by decide +kernel
theorem dX0_goBack_58 : decode cX0_goBack 58 = .ok (.invokestatic 161, 3) := by decide +kernel
theorem dX0_goBack_61 : decode cX0_goBack 61 = .ok (.istore 6, 2) := by decide +kernel
theorem dX0_goBack_63 : decode cX0_goBack 63 = .ok (.lload_n 3, 1) := by decide +kernel
theorem dX0_goBack_64 : decode cX0_goBack 64 = .ok (.lload_n 3, 1) := by decide +kernel
theorem dX0_goBack_65 : decode cX0_goBack 65 = .ok (.lconst 1, 1) := by decide +kernel
theorem dX0_goBack_66 : decode cX0_goBack 66 = .ok (.lsub, 1) := by decide +kernel
theorem dX0_goBack_67 : decode cX0_goBack 67 = .ok (.land, 1) := by decide +kernel
theorem dX0_goBack_68 : decode cX0_goBack 68 = .ok (.lstore_n 3, 1) := by decide +kernel
theorem dX0_goBack_69 : decode cX0_goBack 69 = .ok (.aload_n 0, 1) := by decide +kernel
theorem dX0_goBack_70 : decode cX0_goBack 70 = .ok (.getfield 14, 3) := by decide +kernel
theorem dX0_goBack_73 : decode cX0_goBack 73 = .ok (.getfield 176, 3) := by decide +kernel
theorem dX0_goBack_76 : decode cX0_goBack 76 = .ok (.iload 6, 2) := by decide +kernel
theorem dX0_goBack_78 : decode cX0_goBack 78 = .ok (.baload, 1) := by decide +kernel
theorem dX0_goBack_79 : decode cX0_goBack 79 = .ok (.istore 7, 2) := by decide +kernel
theorem dX0_goBack_81 : decode cX0_goBack 81 = .ok (.aload_n 0, 1) := by decide +kernel
theorem dX0_goBack_82 : decode cX0_goBack 82 = .ok (.iload 6, 2) := by decide +kernel
theorem dX0_goBack_84 : decode cX0_goBack 84 = .ok (.iload 7, 2) := by decide +kernel
theorem dX0_goBack_86 : decode cX0_goBack 86 = .ok (.invokevirtual 220, 3) := by decide +kernel
theorem dX0_goBack_89 : decode cX0_goBack 89 = .ok (.iconst 0, 1) := by decide +kernel
theorem dX0_goBack_90 : decode cX0_goBack 90 = .ok (.istore 8, 2) := by decide +kernel
theorem dX0_goBack_92 : decode cX0_goBack 92 = .ok (.iload 8, 2) := by decide +kernel
theorem dX0_goBack_94 : decode cX0_goBack 94 = .ok (.aload_n 0, 1) := by decide +kernel
theorem dX0_goBack_95 : decode cX0_goBack 95 = .ok (.getfield 40, 3) := by decide +kernel
theorem dX0_goBack_98 : decode cX0_goBack 98 = .ok (.getfield 224, 3) := by decide +kernel
theorem dX0_goBack_101 : decode cX0_goBack 101 = .ok (.if_icmp .ge 50, 3) := by decide +kernel
theorem dX0_goBack_104 : decode cX0_goBack 104 = .ok (.aload_n 0, 1) := by decide +kernel
theorem dX0_goBack_105 : decode cX0_goBack 105 = .ok (.getfield 40, 3) := by decide +kernel
theorem dX0_goBack_108 : decode cX0_goBack 108 = .ok (.iload 6, 2) := by decide +kernel
theorem dX0_goBack_110 : decode cX0_goBack 110 = .ok (.iload_n 2, 1) := by decide +kernel
theorem dX0_goBack_111 : decode cX0_goBack 111 = .ok (.invokevirtual 173, 3) := by decide +kernel
theorem dX0_goBack_114 : decode cX0_goBack 114 = .ok (.ifCond .eq 37, 3) := by decide +kernel
theorem dX0_goBack_117 : decode cX0_goBack 117 = .ok (.aload_n 0, 1) := by decide +kernel
theorem dX0_goBack_118 : decode cX0_goBack 118 = .ok (.getfield 40, 3) := by decide +kernel
theorem dX0_goBack_121 : decode cX0_goBack 121 = .ok (.iload 8, 2) := by decide +kernel
theorem dX0_goBack_123 : decode cX0_goBack 123 = .ok (.iload 7, 2) := by decide +kernel
theorem dX0_goBack_125 : decode cX0_goBack 125 = .ok (.iconst 1, 1) := by decide +kernel
theorem dX0_goBack_126 : decode cX0_goBack 126 = .ok (.ishr, 1) := by decide +kernel
theorem dX0_goBack_127 : decode cX0_goBack 127 = .ok (.invokevirtual 227, 3) := by decide +kernel
theorem dX0_goBack_130 : decode cX0_goBack 130 = .ok (.ifCond .eq 15, 3) := by decide +kernel
theorem dX0_goBack_133 : decode cX0_goBack 133 = .ok (.aload_n 0, 1) := by decide +kernel
theorem dX0_goBack_134 : decode cX0_goBack 134 = .ok (.iload 6, 2) := by decide +kernel
theorem dX0_goBack_136 : decode cX0_goBack 136 = .ok (.iconst 2, 1) := by decide +kernel
theorem dX0_goBack_137 : decode cX0_goBack 137 = .ok (.iload 8, 2) := by decide +kernel
theorem dX0_goBack_139 : decode cX0_goBack 139 = .ok (.imul, 1) := by decide +kernel
theorem dX0_goBack_140 : decode cX0_goBack 140 = .ok (.iload_n 2, 1) := by decide +kernel
theorem dX0_goBack_141 : decode cX0_goBack 141 = .ok (.iadd, 1) := by decide +kernel
theorem dX0_goBack_142 : decode cX0_goBack 142 = .ok (.invokevirtual 220, 3) := by decide +kernel
theorem dX0_goBack_145 : decode cX0_goBack 145 = .ok (.iinc 8 1, 3) := by decide +kernel
theorem dX0_goBack_148 : decode cX0_goBack 148 = .ok (.goto (-56), 3) := by decide +kernel
theorem dX0_goBack_151 : decode cX0_goBack 151 = .ok (.iinc 5 1, 3) := by decide +kernel
theorem dX0_goBack_154 : decode cX0_goBack 154 = .ok (.goto (-110), 3) := by decide +kernel
theorem dX0_goBack_157 : decode cX0_goBack 157 = .ok (.return_, 1) := by decide +kernel
def sX0_goBack_157 (F : Nat) (h : Hp) : Option (Hp) := some h
def sX0_goBack_151 (F : Nat) (k_44 : Hp → Nat → Int32 → Int64 → Int32 → Option (Hp)) (h : Hp) (x0 : Nat) (x2 : Int32) (x3 : Int64) (x5 : Int32) : Option (Hp) := nm (x5 + (1 : Int32)) fun v_1 => k_44 h x0 x2 x3 v_1
def sX0_goBack_145 (F : Nat) (k_44 : Hp → Nat → Int32 → Int64 → Int32 → Option (Hp)) (k_92 : Hp → Nat → Int32 → Int64 → Int32 → Int32 → Int32 → Int32 → Option (Hp)) (h : Hp) (x0 : Nat) (x2 : Int32) (x3 : Int64) (x5 : Int32) (x6 : Int32) (x7 : Int32) (x8 : Int32) : Option (Hp) := nm (x8 + (1 : Int32)) fun v_1 => k_92 h x0 x2 x3 x5 x6 x7 v_1
def sX0_goBack_92 (F : Nat) (k_44 : Hp → Nat → Int32 → Int64 → Int32 → Option (Hp)) : Nat → Hp → Nat → Int32 → Int64 → Int32 → Int32 → Int32 → Int32 → Option (Hp)
  | 0, _, _, _, _, _, _, _, _ => none
  | f + 1, h, x0, x2, x3, x5, x6, x7, x8 => cl (hR h x0 0) fun r_1 => br ((hI h r_1 3) ≤ x8) (sX0_goBack_151 F k_44 h x0 x2 x3 x5) (cl (hR h x0 0) fun r_3 => cl (sX1_isLast h r_3 x6 x2) fun o_4 => br (o_4.1 = 0) (sX0_goBack_151 F k_44 o_4.2 x0 x2 x3 x5) (cl (hR o_4.2 x0 0) fun r_6 => cl (sX1_becomesThis F o_4.2 r_6 x8 (x7 >>> ((1 : Int32) &&& 31))) fun o_7 => br (o_7.1 = 0) (sX0_goBack_145 F k_44 (sX0_goBack_92 F k_44 f) o_7.2 x0 x2 x3 x5 x6 x7 x8) (cl (sX0_takeBack F o_7.2 x0 x6 (((2 : Int32) * x8) + x2)) fun o_9 => sX0_goBack_145 F k_44 (sX0_goBack_92 F k_44 f) o_9 x0 x2 x3 x5 x6 x7 x8)))
def sX0_goBack_44 (F : Nat) : Nat → Hp → Nat → Int32 → Int64 → Int32 → Option (Hp)
  | 0, _, _, _, _, _ => none
  | f + 1, h, x0, x2, x3, x5 => br ((64 : Int32) ≤ x5) (sX0_goBack_157 F h ) (br ((lg_cmp x3 (0 : Int64)) = 0) (sX0_goBack_157 F h ) (cl (sX11_lowest h x3) fun o_3 => nm (x3 &&& (x3 - (1 : Int64))) fun v_4 => cl (hR o_3.2 x0 3) fun r_5 => cl (hR o_3.2 r_5 0) fun r_6 => gd (inB o_3.1 (hN o_3.2 r_6)) <| nm (hI o_3.2 r_6 o_3.1.toNatClampNeg) fun v_8 => cl (sX0_takeBack F o_3.2 x0 o_3.1 v_8) fun o_9 => sX0_goBack_92 F (sX0_goBack_44 F f) F o_9 x0 x2 v_4 x5 o_3.1 v_8 (0 : Int32)))
def sX0_goBack_31 (F : Nat) (h : Hp) (x0 : Nat) (x2 : Int32) : Option (Hp) := cl (hR h x0 3) fun r_1 => cl (hR h r_1 1) fun r_2 => gd (inB x2 (hN h r_2)) <| nm (hJ h r_2 x2.toNatClampNeg) fun v_4 => sX0_goBack_44 F F h x0 x2 v_4 (0 : Int32)
def sX0_goBack (F : Nat) (h : Hp) (x0 : Nat) (x1 : Int32) : Option (Hp) := nm ((1 : Int32) - x1) fun v_1 => cl (hR h x0 0) fun r_2 => cl (sX1_has h r_2 (4 : Int32)) fun o_3 => br (o_3.1 = 0) (sX0_goBack_31 F o_3.2 x0 v_1) (cl (hR o_3.2 x0 2) fun r_5 => cl (hR o_3.2 x0 3) fun r_6 => cl (sX5_isRoyalHit F o_3.2 r_5 r_6 x1) fun o_7 => br (o_7.1 = 0) (sX0_goBack_31 F o_7.2 x0 v_1) (some o_7.2))
set_option maxRecDepth 20000 in
theorem moX0_goBack_157 {o : Hp} {F : Nat} {h : Hp} (hE : sX0_goBack_157 F h  = some o) : Le h o := by
  exact le_some1 hE
set_option maxRecDepth 20000 in
theorem moX0_goBack_151 {o : Hp} {k_44 : Hp → Nat → Int32 → Int64 → Int32 → Option (Hp)} {F : Nat} (mk_44 : ∀ (h : Hp) (x0 : Nat) (x2 : Int32) (x3 : Int64) (x5 : Int32), k_44 h x0 x2 x3 x5 = some o → Le h o) {h : Hp} {x0 : Nat} {x2 : Int32} {x3 : Int64} {x5 : Int32} (hE : sX0_goBack_151 F k_44 h x0 x2 x3 x5 = some o) : Le h o := by
  obtain ⟨v_1, ev_1, hE⟩ := nm_e2 hE
  exact mk_44 _ _ _ _ _ hE
set_option maxRecDepth 20000 in
theorem moX0_goBack_145 {o : Hp} {k_44 : Hp → Nat → Int32 → Int64 → Int32 → Option (Hp)} {k_92 : Hp → Nat → Int32 → Int64 → Int32 → Int32 → Int32 → Int32 → Option (Hp)} {F : Nat} (mk_44 : ∀ (h : Hp) (x0 : Nat) (x2 : Int32) (x3 : Int64) (x5 : Int32), k_44 h x0 x2 x3 x5 = some o → Le h o) (mk_92 : ∀ (h : Hp) (x0 : Nat) (x2 : Int32) (x3 : Int64) (x5 : Int32) (x6 : Int32) (x7 : Int32) (x8 : Int32), k_92 h x0 x2 x3 x5 x6 x7 x8 = some o → Le h o) {h : Hp} {x0 : Nat} {x2 : Int32} {x3 : Int64} {x5 : Int32} {x6 : Int32} {x7 : Int32} {x8 : Int32} (hE : sX0_goBack_145 F k_44 k_92 h x0 x2 x3 x5 x6 x7 x8 = some o) : Le h o := by
  obtain ⟨v_1, ev_1, hE⟩ := nm_e2 hE
  exact mk_92 _ _ _ _ _ _ _ _ hE
set_option maxRecDepth 20000 in
theorem moX0_goBack_92 {o : Hp} {k_44 : Hp → Nat → Int32 → Int64 → Int32 → Option (Hp)} {F : Nat} (mk_44 : ∀ (h : Hp) (x0 : Nat) (x2 : Int32) (x3 : Int64) (x5 : Int32), k_44 h x0 x2 x3 x5 = some o → Le h o) : ∀ (f : Nat) {h : Hp} {x0 : Nat} {x2 : Int32} {x3 : Int64} {x5 : Int32} {x6 : Int32} {x7 : Int32} {x8 : Int32}, sX0_goBack_92 F k_44 f h x0 x2 x3 x5 x6 x7 x8 = some o → Le h o := by
  intro f
  induction f with
  | zero =>
    intro h x0 x2 x3 x5 x6 x7 x8 hE
    rw [sX0_goBack_92] at hE
    cases hE
  | succ f ih =>
    intro h x0 x2 x3 x5 x6 x7 x8 hE
    rw [sX0_goBack_92] at hE
    have mk_92 : ∀ (h : Hp) (x0 : Nat) (x2 : Int32) (x3 : Int64) (x5 : Int32) (x6 : Int32) (x7 : Int32) (x8 : Int32), sX0_goBack_92 F k_44 f h x0 x2 x3 x5 x6 x7 x8 = some o → Le h o := fun h x0 x2 x3 x5 x6 x7 x8 hE => ih hE
    obtain ⟨r_1, er_1, hE⟩ := cl_e hE
    rcases br_e hE with ⟨_, hE⟩ | ⟨_, hE⟩
    · exact moX0_goBack_151 mk_44 hE
    · obtain ⟨r_3, er_3, hE⟩ := cl_e hE
      obtain ⟨o_4, eo_4, hE⟩ := cl_e hE
      refine (moX1_isLast eo_4).tr ?_
      rcases br_e hE with ⟨_, hE⟩ | ⟨_, hE⟩
      · exact moX0_goBack_151 mk_44 hE
      · obtain ⟨r_6, er_6, hE⟩ := cl_e hE
        obtain ⟨o_7, eo_7, hE⟩ := cl_e hE
        refine (moX1_becomesThis eo_7).tr ?_
        rcases br_e hE with ⟨_, hE⟩ | ⟨_, hE⟩
        · exact moX0_goBack_145 mk_44 mk_92 hE
        · obtain ⟨o_9, eo_9, hE⟩ := cl_e hE
          refine (moX0_takeBack eo_9).tr ?_
          exact moX0_goBack_145 mk_44 mk_92 hE
set_option maxRecDepth 20000 in
theorem moX0_goBack_44 {o : Hp} {F : Nat} : ∀ (f : Nat) {h : Hp} {x0 : Nat} {x2 : Int32} {x3 : Int64} {x5 : Int32}, sX0_goBack_44 F f h x0 x2 x3 x5 = some o → Le h o := by
  intro f
  induction f with
  | zero =>
    intro h x0 x2 x3 x5 hE
    rw [sX0_goBack_44] at hE
    cases hE
  | succ f ih =>
    intro h x0 x2 x3 x5 hE
    rw [sX0_goBack_44] at hE
    have mk_44 : ∀ (h : Hp) (x0 : Nat) (x2 : Int32) (x3 : Int64) (x5 : Int32), sX0_goBack_44 F f h x0 x2 x3 x5 = some o → Le h o := fun h x0 x2 x3 x5 hE => ih hE
    rcases br_e hE with ⟨_, hE⟩ | ⟨_, hE⟩
    · exact moX0_goBack_157 hE
    · rcases br_e hE with ⟨_, hE⟩ | ⟨_, hE⟩
      · exact moX0_goBack_157 hE
      · obtain ⟨o_3, eo_3, hE⟩ := cl_e hE
        refine (moX11_lowest eo_3).tr ?_
        obtain ⟨v_4, ev_4, hE⟩ := nm_e2 hE
        obtain ⟨r_5, er_5, hE⟩ := cl_e hE
        obtain ⟨r_6, er_6, hE⟩ := cl_e hE
        obtain ⟨g_7, hE⟩ := gd_e hE
        obtain ⟨v_8, ev_8, hE⟩ := nm_e2 hE
        obtain ⟨o_9, eo_9, hE⟩ := cl_e hE
        refine (moX0_takeBack eo_9).tr ?_
        exact moX0_goBack_92 mk_44 _ hE
set_option maxRecDepth 20000 in
theorem moX0_goBack_31 {o : Hp} {F : Nat} {h : Hp} {x0 : Nat} {x2 : Int32} (hE : sX0_goBack_31 F h x0 x2 = some o) : Le h o := by
  obtain ⟨r_1, er_1, hE⟩ := cl_e hE
  obtain ⟨r_2, er_2, hE⟩ := cl_e hE
  obtain ⟨g_3, hE⟩ := gd_e hE
  obtain ⟨v_4, ev_4, hE⟩ := nm_e2 hE
  exact moX0_goBack_44 _ hE
set_option maxRecDepth 20000 in
theorem moX0_goBack {o : Hp} {F : Nat} {h : Hp} {x0 : Nat} {x1 : Int32} (hE : sX0_goBack F h x0 x1 = some o) : Le h o := by
  obtain ⟨v_1, ev_1, hE⟩ := nm_e2 hE
  obtain ⟨r_2, er_2, hE⟩ := cl_e hE
  obtain ⟨o_3, eo_3, hE⟩ := cl_e hE
  refine (moX1_has eo_3).tr ?_
  rcases br_e hE with ⟨_, hE⟩ | ⟨_, hE⟩
  · exact moX0_goBack_31 hE
  · obtain ⟨r_5, er_5, hE⟩ := cl_e hE
    obtain ⟨r_6, er_6, hE⟩ := cl_e hE
    obtain ⟨o_7, eo_7, hE⟩ := cl_e hE
    refine (moX5_isRoyalHit eo_7).tr ?_
    rcases br_e hE with ⟨_, hE⟩ | ⟨_, hE⟩
    · exact moX0_goBack_31 hE
    · exact le_some1 hE
set_option maxRecDepth 20000 in
theorem bX0_goBack_157 {p : Program} {l : Launch} {e : Env} {s : State} {m : MethodId} {args : Array Value} {below : List Frame} {meth : Method} {c : Code} {X : Ec} {h0 : Hp} {o : Hp} {F : Nat} (C : Cx X p s m args meth c RX0 cX0_goBack 9 none "goBack") {h : Hp} {H : Heap} {locs : List Loc} (hkm : Km h0 h) (hW : Wx X h H) (hZ : va_S (aA (eB X)) s.heap H locs) (ls : Array Slot) (hl : lv_has ls 9 []) (hE : sX0_goBack_157 F h  = some o) : W p l e (rm 4 117) s m args below meth c H locs 0 0 (MQ below (QV X h0 o) args s 0 0 (aA (eB X))) (F0 m 157 ls []) := by
  exact x_vret C rfl hW hZ hkm hE dX0_goBack_157
set_option maxRecDepth 20000 in
theorem bX0_goBack_151 {p : Program} {l : Launch} {e : Env} {s : State} {m : MethodId} {args : Array Value} {below : List Frame} {meth : Method} {c : Code} {X : Ec} {h0 : Hp} {o : Hp} {k_44 : Hp → Nat → Int32 → Int64 → Int32 → Option (Hp)} {F : Nat} (C : Cx X p s m args meth c RX0 cX0_goBack 9 none "goBack") (hk_44 : ∀ (h : Hp) (x0 : Nat) (x2 : Int32) (x3 : Int64) (x5 : Int32) (H : Heap) (locs : List Loc), hK h x0 = 0 → Km h0 h → Wx X h H → va_S (aA (eB X)) s.heap H locs → ∀ (ls : Array Slot), lv_has ls 9 [(0, .ref x0), (2, .int x2), (3, .long x3), (5, .int x5)] → k_44 h x0 x2 x3 x5 = some o → W p l e (rm 4 117) s m args below meth c H locs 0 0 (MQ below (QV X h0 o) args s 0 0 (aA (eB X))) (F0 m 44 ls [])) {h : Hp} {x0 : Nat} {x2 : Int32} {x3 : Int64} {x5 : Int32} {H : Heap} {locs : List Loc} (k_x0 : hK h x0 = 0) (hkm : Km h0 h) (hW : Wx X h H) (hZ : va_S (aA (eB X)) s.heap H locs) (ls : Array Slot) (hl : lv_has ls 9 [(0, .ref x0), (2, .int x2), (3, .long x3), (5, .int x5)]) (hE : sX0_goBack_151 F k_44 h x0 x2 x3 x5 = some o) : W p l e (rm 4 117) s m args below meth c H locs 0 0 (MQ below (QV X h0 o) args s 0 0 (aA (eB X))) (F0 m 151 ls []) := by
  obtain ⟨v_1, ev_1, hE⟩ := nm_e2 hE
  refine lv_iinc (v := v_1) (lv' := [(5, .int v_1), (0, .ref x0), (2, .int x2), (3, .long x3)]) C.1 C.2.1 dX0_goBack_151 hl (k := 3) rfl (by rw [ev_1]; rfl) (by decide) rfl (fun ls hl => ?_)
  refine lv_goto (tgt := 44) C.1 C.2.1 dX0_goBack_154 (by decide) ?_
  exact hk_44 _ _ _ _ _ _ _ k_x0 hkm hW hZ _ (lv_sub hl [1, 2, 3, 0] rfl) hE
set_option maxRecDepth 20000 in
theorem bX0_goBack_145 {p : Program} {l : Launch} {e : Env} {s : State} {m : MethodId} {args : Array Value} {below : List Frame} {meth : Method} {c : Code} {X : Ec} {h0 : Hp} {o : Hp} {k_44 : Hp → Nat → Int32 → Int64 → Int32 → Option (Hp)} {k_92 : Hp → Nat → Int32 → Int64 → Int32 → Int32 → Int32 → Int32 → Option (Hp)} {F : Nat} (C : Cx X p s m args meth c RX0 cX0_goBack 9 none "goBack") (hk_44 : ∀ (h : Hp) (x0 : Nat) (x2 : Int32) (x3 : Int64) (x5 : Int32) (H : Heap) (locs : List Loc), hK h x0 = 0 → Km h0 h → Wx X h H → va_S (aA (eB X)) s.heap H locs → ∀ (ls : Array Slot), lv_has ls 9 [(0, .ref x0), (2, .int x2), (3, .long x3), (5, .int x5)] → k_44 h x0 x2 x3 x5 = some o → W p l e (rm 4 117) s m args below meth c H locs 0 0 (MQ below (QV X h0 o) args s 0 0 (aA (eB X))) (F0 m 44 ls [])) (hk_92 : ∀ (h : Hp) (x0 : Nat) (x2 : Int32) (x3 : Int64) (x5 : Int32) (x6 : Int32) (x7 : Int32) (x8 : Int32) (H : Heap) (locs : List Loc), hK h x0 = 0 → Km h0 h → Wx X h H → va_S (aA (eB X)) s.heap H locs → ∀ (ls : Array Slot), lv_has ls 9 [(0, .ref x0), (2, .int x2), (3, .long x3), (5, .int x5), (6, .int x6), (7, .int x7), (8, .int x8)] → k_92 h x0 x2 x3 x5 x6 x7 x8 = some o → W p l e (rm 4 117) s m args below meth c H locs 0 0 (MQ below (QV X h0 o) args s 0 0 (aA (eB X))) (F0 m 92 ls [])) {h : Hp} {x0 : Nat} {x2 : Int32} {x3 : Int64} {x5 : Int32} {x6 : Int32} {x7 : Int32} {x8 : Int32} {H : Heap} {locs : List Loc} (k_x0 : hK h x0 = 0) (hkm : Km h0 h) (hW : Wx X h H) (hZ : va_S (aA (eB X)) s.heap H locs) (ls : Array Slot) (hl : lv_has ls 9 [(0, .ref x0), (2, .int x2), (3, .long x3), (5, .int x5), (6, .int x6), (7, .int x7), (8, .int x8)]) (hE : sX0_goBack_145 F k_44 k_92 h x0 x2 x3 x5 x6 x7 x8 = some o) : W p l e (rm 4 117) s m args below meth c H locs 0 0 (MQ below (QV X h0 o) args s 0 0 (aA (eB X))) (F0 m 145 ls []) := by
  obtain ⟨v_1, ev_1, hE⟩ := nm_e2 hE
  refine lv_iinc (v := v_1) (lv' := [(8, .int v_1), (0, .ref x0), (2, .int x2), (3, .long x3), (5, .int x5), (6, .int x6), (7, .int x7)]) C.1 C.2.1 dX0_goBack_145 hl (k := 6) rfl (by rw [ev_1]; rfl) (by decide) rfl (fun ls hl => ?_)
  refine lv_goto (tgt := 92) C.1 C.2.1 dX0_goBack_148 (by decide) ?_
  exact hk_92 _ _ _ _ _ _ _ _ _ _ k_x0 hkm hW hZ _ (lv_sub hl [1, 2, 3, 4, 5, 6, 0] rfl) hE
set_option maxRecDepth 20000 in
theorem bX0_goBack_92 {p : Program} {l : Launch} {e : Env} {s : State} {m : MethodId} {args : Array Value} {below : List Frame} {meth : Method} {c : Code} {X : Ec} {h0 : Hp} {o : Hp} {k_44 : Hp → Nat → Int32 → Int64 → Int32 → Option (Hp)} {F : Nat} (C : Cx X p s m args meth c RX0 cX0_goBack 9 none "goBack") (hk_44 : ∀ (h : Hp) (x0 : Nat) (x2 : Int32) (x3 : Int64) (x5 : Int32) (H : Heap) (locs : List Loc), hK h x0 = 0 → Km h0 h → Wx X h H → va_S (aA (eB X)) s.heap H locs → ∀ (ls : Array Slot), lv_has ls 9 [(0, .ref x0), (2, .int x2), (3, .long x3), (5, .int x5)] → k_44 h x0 x2 x3 x5 = some o → W p l e (rm 4 117) s m args below meth c H locs 0 0 (MQ below (QV X h0 o) args s 0 0 (aA (eB X))) (F0 m 44 ls [])) : ∀ (f : Nat) {h : Hp} {x0 : Nat} {x2 : Int32} {x3 : Int64} {x5 : Int32} {x6 : Int32} {x7 : Int32} {x8 : Int32} {H : Heap} {locs : List Loc} (k_x0 : hK h x0 = 0), Km h0 h → Wx X h H → va_S (aA (eB X)) s.heap H locs → ∀ (ls : Array Slot), lv_has ls 9 [(0, .ref x0), (2, .int x2), (3, .long x3), (5, .int x5), (6, .int x6), (7, .int x7), (8, .int x8)] → sX0_goBack_92 F k_44 f h x0 x2 x3 x5 x6 x7 x8 = some o → W p l e (rm 4 117) s m args below meth c H locs 0 0 (MQ below (QV X h0 o) args s 0 0 (aA (eB X))) (F0 m 92 ls []) := by
  intro f
  induction f with
  | zero =>
    intro h x0 x2 x3 x5 x6 x7 x8 H locs k_x0 hkm hW hZ ls hl hE
    rw [sX0_goBack_92] at hE
    cases hE
  | succ f ih =>
    intro h x0 x2 x3 x5 x6 x7 x8 H locs k_x0 hkm hW hZ ls hl hE
    rw [sX0_goBack_92] at hE
    have hk_92 : ∀ (h : Hp) (x0 : Nat) (x2 : Int32) (x3 : Int64) (x5 : Int32) (x6 : Int32) (x7 : Int32) (x8 : Int32) (H : Heap) (locs : List Loc), hK h x0 = 0 → Km h0 h → Wx X h H → va_S (aA (eB X)) s.heap H locs → ∀ (ls : Array Slot), lv_has ls 9 [(0, .ref x0), (2, .int x2), (3, .long x3), (5, .int x5), (6, .int x6), (7, .int x7), (8, .int x8)] → sX0_goBack_92 F k_44 f h x0 x2 x3 x5 x6 x7 x8 = some o → W p l e (rm 4 117) s m args below meth c H locs 0 0 (MQ below (QV X h0 o) args s 0 0 (aA (eB X))) (F0 m 92 ls []) := fun h x0 x2 x3 x5 x6 x7 x8 H locs k_x0 a b c ls hl hE => ih k_x0 a b c ls hl hE
    refine lv_iload C.1 C.2.1 dX0_goBack_92 (lv_at hl 6 rfl) ?_
    refine lv_aload_n C.1 C.2.1 dX0_goBack_94 rfl (lv_at hl 0 rfl) ?_
    obtain ⟨r_1, er_1, hE⟩ := cl_e hE
    refine gf_X0_40 C hW k_x0 er_1 dX0_goBack_95 (fun k_r_1 => ?_)
    refine gf_X0_224 C hW k_r_1 dX0_goBack_98 ?_
    refine lv_icmp_ge (tgt := 151) C.1 C.2.1 dX0_goBack_101 (by decide) (fun c_2 => ?_) (fun c_2 => ?_)
    · have hE := br_p hE c_2
      exact bX0_goBack_151 C hk_44 k_x0 hkm hW hZ _ (lv_sub hl [0, 1, 2, 3] rfl) hE
    · have hE := br_n hE c_2
      refine lv_aload_n C.1 C.2.1 dX0_goBack_104 rfl (lv_at hl 0 rfl) ?_
      obtain ⟨r_3, er_3, hE⟩ := cl_e hE
      refine gf_X0_40 C hW k_x0 er_3 dX0_goBack_105 (fun k_r_3 => ?_)
      refine lv_iload C.1 C.2.1 dX0_goBack_108 (lv_at hl 4 rfl) ?_
      refine lv_iload_n C.1 C.2.1 dX0_goBack_110 rfl (lv_at hl 1 rfl) ?_
      obtain ⟨o_4, eo_4, hE⟩ := cl_e hE
      refine x_kI (o := o_4) (z_runV (As := [.int x6, .int x2]) (rest := []) C (ct_X1_isLast l X k_r_3 eo_4) cw_X0_173 hW hZ k_r_3 (by decide) rfl rfl rfl hl.1 (Nat.le_of_ble_eq_true rfl) rfl dX0_goBack_111 ⟨Nat.le_of_ble_eq_true rfl, Nat.le_of_ble_eq_true rfl⟩ ⟨Nat.le_refl _, Nat.le_refl _⟩) hZ (fun _ _ hW km hZ => ?_)
      replace hkm := hkm.tr km
      replace k_x0 := km.at k_x0 (by decide)
      refine lv_if_eq (tgt := 151) C.1 C.2.1 dX0_goBack_114 (by decide) (fun c_5 => ?_) (fun c_5 => ?_)
      · have hE := br_p hE c_5
        exact bX0_goBack_151 C hk_44 k_x0 hkm hW hZ _ (lv_sub hl [0, 1, 2, 3] rfl) hE
      · have hE := br_n hE c_5
        refine lv_aload_n C.1 C.2.1 dX0_goBack_117 rfl (lv_at hl 0 rfl) ?_
        obtain ⟨r_6, er_6, hE⟩ := cl_e hE
        refine gf_X0_40 C hW k_x0 er_6 dX0_goBack_118 (fun k_r_6 => ?_)
        refine lv_iload C.1 C.2.1 dX0_goBack_121 (lv_at hl 6 rfl) ?_
        refine lv_iload C.1 C.2.1 dX0_goBack_123 (lv_at hl 5 rfl) ?_
        refine lv_iconst (v := (1 : Int32)) C.1 C.2.1 dX0_goBack_125 (by decide) ?_
        refine lv_ishr C.1 C.2.1 dX0_goBack_126 ?_
        obtain ⟨o_7, eo_7, hE⟩ := cl_e hE
        refine x_kI (o := o_7) (z_runV (As := [.int x8, .int (x7 >>> ((1 : Int32) &&& 31))]) (rest := []) C (ct_X1_becomesThis l X F k_r_6 eo_7) cw_X0_227 hW hZ k_r_6 (by decide) rfl rfl rfl hl.1 (Nat.le_of_ble_eq_true rfl) rfl dX0_goBack_127 ⟨Nat.le_of_ble_eq_true rfl, Nat.le_of_ble_eq_true rfl⟩ ⟨Nat.le_refl _, Nat.le_refl _⟩) hZ (fun _ _ hW km hZ => ?_)
        replace hkm := hkm.tr km
        replace k_x0 := km.at k_x0 (by decide)
        refine lv_if_eq (tgt := 145) C.1 C.2.1 dX0_goBack_130 (by decide) (fun c_8 => ?_) (fun c_8 => ?_)
        · have hE := br_p hE c_8
          exact bX0_goBack_145 C hk_44 hk_92 k_x0 hkm hW hZ _ (lv_sub hl [0, 1, 2, 3, 4, 5, 6] rfl) hE
        · have hE := br_n hE c_8
          refine lv_aload_n C.1 C.2.1 dX0_goBack_133 rfl (lv_at hl 0 rfl) ?_
          refine lv_iload C.1 C.2.1 dX0_goBack_134 (lv_at hl 4 rfl) ?_
          refine lv_iconst (v := (2 : Int32)) C.1 C.2.1 dX0_goBack_136 (by decide) ?_
          refine lv_iload C.1 C.2.1 dX0_goBack_137 (lv_at hl 6 rfl) ?_
          refine lv_imul C.1 C.2.1 dX0_goBack_139 ?_
          refine lv_iload_n C.1 C.2.1 dX0_goBack_140 rfl (lv_at hl 1 rfl) ?_
          refine lv_iadd C.1 C.2.1 dX0_goBack_141 ?_
          obtain ⟨o_9, eo_9, hE⟩ := cl_e hE
          refine x_kV (o := o_9) (z_runV (As := [.int x6, .int (((2 : Int32) * x8) + x2)]) (rest := []) C (ct_X0_takeBack l X F k_x0 eo_9) cw_X0_220 hW hZ k_x0 (by decide) rfl rfl rfl hl.1 (Nat.le_of_ble_eq_true rfl) rfl dX0_goBack_142 ⟨Nat.le_of_ble_eq_true rfl, Nat.le_of_ble_eq_true rfl⟩ ⟨Nat.le_refl _, Nat.le_refl _⟩) hZ (fun _ _ hW km hZ => ?_)
          replace hkm := hkm.tr km
          replace k_x0 := km.at k_x0 (by decide)
          exact bX0_goBack_145 C hk_44 hk_92 k_x0 hkm hW hZ _ (lv_sub hl [0, 1, 2, 3, 4, 5, 6] rfl) hE
set_option maxRecDepth 20000 in
theorem bX0_goBack_44 {p : Program} {l : Launch} {e : Env} {s : State} {m : MethodId} {args : Array Value} {below : List Frame} {meth : Method} {c : Code} {X : Ec} {h0 : Hp} {o : Hp} {F : Nat} (C : Cx X p s m args meth c RX0 cX0_goBack 9 none "goBack") : ∀ (f : Nat) {h : Hp} {x0 : Nat} {x2 : Int32} {x3 : Int64} {x5 : Int32} {H : Heap} {locs : List Loc} (k_x0 : hK h x0 = 0), Km h0 h → Wx X h H → va_S (aA (eB X)) s.heap H locs → ∀ (ls : Array Slot), lv_has ls 9 [(0, .ref x0), (2, .int x2), (3, .long x3), (5, .int x5)] → sX0_goBack_44 F f h x0 x2 x3 x5 = some o → W p l e (rm 4 117) s m args below meth c H locs 0 0 (MQ below (QV X h0 o) args s 0 0 (aA (eB X))) (F0 m 44 ls []) := by
  intro f
  induction f with
  | zero =>
    intro h x0 x2 x3 x5 H locs k_x0 hkm hW hZ ls hl hE
    rw [sX0_goBack_44] at hE
    cases hE
  | succ f ih =>
    intro h x0 x2 x3 x5 H locs k_x0 hkm hW hZ ls hl hE
    rw [sX0_goBack_44] at hE
    have hk_44 : ∀ (h : Hp) (x0 : Nat) (x2 : Int32) (x3 : Int64) (x5 : Int32) (H : Heap) (locs : List Loc), hK h x0 = 0 → Km h0 h → Wx X h H → va_S (aA (eB X)) s.heap H locs → ∀ (ls : Array Slot), lv_has ls 9 [(0, .ref x0), (2, .int x2), (3, .long x3), (5, .int x5)] → sX0_goBack_44 F f h x0 x2 x3 x5 = some o → W p l e (rm 4 117) s m args below meth c H locs 0 0 (MQ below (QV X h0 o) args s 0 0 (aA (eB X))) (F0 m 44 ls []) := fun h x0 x2 x3 x5 H locs k_x0 a b c ls hl hE => ih k_x0 a b c ls hl hE
    refine lv_iload C.1 C.2.1 dX0_goBack_44 (lv_at hl 3 rfl) ?_
    refine lv_bipush (v := (64 : Int32)) C.1 C.2.1 dX0_goBack_46 (by decide) ?_
    refine lv_icmp_ge (tgt := 157) C.1 C.2.1 dX0_goBack_48 (by decide) (fun c_1 => ?_) (fun c_1 => ?_)
    · have hE := br_p hE c_1
      exact bX0_goBack_157 C hkm hW hZ _ (lv_sub hl [] rfl) hE
    · have hE := br_n hE c_1
      refine lv_lload_n C.1 C.2.1 dX0_goBack_51 rfl (lv_at hl 2 rfl) ?_
      refine lv_lconst (v := (0 : Int64)) C.1 C.2.1 dX0_goBack_52 (by decide) ?_
      refine W.lcmp C.1 C.2.1 dX0_goBack_53 ?_
      refine lv_if_eq (tgt := 157) C.1 C.2.1 dX0_goBack_54 (by decide) (fun c_2 => ?_) (fun c_2 => ?_)
      · have hE := br_p hE c_2
        exact bX0_goBack_157 C hkm hW hZ _ (lv_sub hl [] rfl) hE
      · have hE := br_n hE c_2
        refine lv_lload_n C.1 C.2.1 dX0_goBack_57 rfl (lv_at hl 2 rfl) ?_
        obtain ⟨o_3, eo_3, hE⟩ := cl_e hE
        refine x_kI (o := o_3) (x_runSN (As := [.long x3]) (rest := []) C (ct_X11_lowest l X eo_3) cn_X0_161 hW hZ rfl hl.1 (Nat.le_of_ble_eq_true rfl) rfl dX0_goBack_58 ⟨Nat.le_of_ble_eq_true rfl, Nat.le_of_ble_eq_true rfl⟩ ⟨Nat.le_refl _, Nat.le_refl _⟩) hZ (fun _ _ hW km hZ => ?_)
        replace hkm := hkm.tr km
        replace k_x0 := km.at k_x0 (by decide)
        refine lv_istore (lv' := [(6, .int o_3.1), (0, .ref x0), (2, .int x2), (3, .long x3), (5, .int x5)]) C.1 C.2.1 dX0_goBack_61 hl (by decide) rfl (fun ls hl => ?_)
        refine lv_lload_n C.1 C.2.1 dX0_goBack_63 rfl (lv_at hl 3 rfl) ?_
        refine lv_lload_n C.1 C.2.1 dX0_goBack_64 rfl (lv_at hl 3 rfl) ?_
        refine lv_lconst (v := (1 : Int64)) C.1 C.2.1 dX0_goBack_65 (by decide) ?_
        refine lv_lsub C.1 C.2.1 dX0_goBack_66 ?_
        refine lv_land C.1 C.2.1 dX0_goBack_67 ?_
        obtain ⟨v_4, ev_4, hE⟩ := nm_e2 hE
        refine x_nmJ ev_4 ?_
        refine lv_lstore_n (lv' := [(3, .long v_4), (6, .int o_3.1), (0, .ref x0), (2, .int x2), (5, .int x5)]) C.1 C.2.1 dX0_goBack_68 rfl hl (by decide) rfl (fun ls hl => ?_)
        refine lv_aload_n C.1 C.2.1 dX0_goBack_69 rfl (lv_at hl 2 rfl) ?_
        obtain ⟨r_5, er_5, hE⟩ := cl_e hE
        refine gf_X0_14 C hW k_x0 er_5 dX0_goBack_70 (fun k_r_5 => ?_)
        obtain ⟨r_6, er_6, hE⟩ := cl_e hE
        refine gf_X0_176 C hW k_r_5 er_6 dX0_goBack_73 (fun k_r_6 => ?_)
        refine lv_iload C.1 C.2.1 dX0_goBack_76 (lv_at hl 1 rfl) ?_
        obtain ⟨g_7, hE⟩ := gd_e hE
        refine y_bald C hW k_r_6 g_7 dX0_goBack_78 ?_
        obtain ⟨v_8, ev_8, hE⟩ := nm_e2 hE
        refine x_nmI ev_8 ?_
        refine lv_istore (lv' := [(7, .int v_8), (3, .long v_4), (6, .int o_3.1), (0, .ref x0), (2, .int x2), (5, .int x5)]) C.1 C.2.1 dX0_goBack_79 hl (by decide) rfl (fun ls hl => ?_)
        refine lv_aload_n C.1 C.2.1 dX0_goBack_81 rfl (lv_at hl 3 rfl) ?_
        refine lv_iload C.1 C.2.1 dX0_goBack_82 (lv_at hl 2 rfl) ?_
        refine lv_iload C.1 C.2.1 dX0_goBack_84 (lv_at hl 0 rfl) ?_
        obtain ⟨o_9, eo_9, hE⟩ := cl_e hE
        refine x_kV (o := o_9) (z_runV (As := [.int o_3.1, .int v_8]) (rest := []) C (ct_X0_takeBack l X F k_x0 eo_9) cw_X0_220 hW hZ k_x0 (by decide) rfl rfl rfl hl.1 (Nat.le_of_ble_eq_true rfl) rfl dX0_goBack_86 ⟨Nat.le_of_ble_eq_true rfl, Nat.le_of_ble_eq_true rfl⟩ ⟨Nat.le_refl _, Nat.le_refl _⟩) hZ (fun _ _ hW km hZ => ?_)
        replace hkm := hkm.tr km
        replace k_x0 := km.at k_x0 (by decide)
        refine lv_iconst (v := (0 : Int32)) C.1 C.2.1 dX0_goBack_89 (by decide) ?_
        refine lv_istore (lv' := [(8, .int (0 : Int32)), (7, .int v_8), (3, .long v_4), (6, .int o_3.1), (0, .ref x0), (2, .int x2), (5, .int x5)]) C.1 C.2.1 dX0_goBack_90 hl (by decide) rfl (fun ls hl => ?_)
        exact bX0_goBack_92 C hk_44 F k_x0 hkm hW hZ _ (lv_sub hl [4, 5, 2, 6, 3, 1, 0] rfl) hE
set_option maxRecDepth 20000 in
theorem bX0_goBack_31 {p : Program} {l : Launch} {e : Env} {s : State} {m : MethodId} {args : Array Value} {below : List Frame} {meth : Method} {c : Code} {X : Ec} {h0 : Hp} {o : Hp} {F : Nat} (C : Cx X p s m args meth c RX0 cX0_goBack 9 none "goBack") {h : Hp} {x0 : Nat} {x2 : Int32} {H : Heap} {locs : List Loc} (k_x0 : hK h x0 = 0) (hkm : Km h0 h) (hW : Wx X h H) (hZ : va_S (aA (eB X)) s.heap H locs) (ls : Array Slot) (hl : lv_has ls 9 [(0, .ref x0), (2, .int x2)]) (hE : sX0_goBack_31 F h x0 x2 = some o) : W p l e (rm 4 117) s m args below meth c H locs 0 0 (MQ below (QV X h0 o) args s 0 0 (aA (eB X))) (F0 m 31 ls []) := by
  refine lv_aload_n C.1 C.2.1 dX0_goBack_31 rfl (lv_at hl 0 rfl) ?_
  obtain ⟨r_1, er_1, hE⟩ := cl_e hE
  refine gf_X0_14 C hW k_x0 er_1 dX0_goBack_32 (fun k_r_1 => ?_)
  obtain ⟨r_2, er_2, hE⟩ := cl_e hE
  refine gf_X0_216 C hW k_r_1 er_2 dX0_goBack_35 (fun k_r_2 => ?_)
  refine lv_iload_n C.1 C.2.1 dX0_goBack_38 rfl (lv_at hl 1 rfl) ?_
  obtain ⟨g_3, hE⟩ := gd_e hE
  refine y_lald C hW k_r_2 g_3 dX0_goBack_39 ?_
  obtain ⟨v_4, ev_4, hE⟩ := nm_e2 hE
  refine x_nmJ ev_4 ?_
  refine lv_lstore_n (lv' := [(3, .long v_4), (0, .ref x0), (2, .int x2)]) C.1 C.2.1 dX0_goBack_40 rfl hl (by decide) rfl (fun ls hl => ?_)
  refine lv_iconst (v := (0 : Int32)) C.1 C.2.1 dX0_goBack_41 (by decide) ?_
  refine lv_istore (lv' := [(5, .int (0 : Int32)), (3, .long v_4), (0, .ref x0), (2, .int x2)]) C.1 C.2.1 dX0_goBack_42 hl (by decide) rfl (fun ls hl => ?_)
  exact bX0_goBack_44 C F k_x0 hkm hW hZ _ (lv_sub hl [2, 3, 1, 0] rfl) hE
set_option maxRecDepth 20000 in
theorem ct_X0_goBack (l : Launch) (X : Ec) (F : Nat) {h : Hp} {x0 : Nat} {x1 : Int32} {o : Hp} (k_x0 : hK h x0 = 0) (hE : sX0_goBack F h x0 x1 = some o) : MetV l yX0_goBack cX0_goBack 9 none 4 117 X [.ref x0, .int x1] h o := by
  refine x_met (by decide) (Nat.le_of_ble_eq_true rfl) ?_
  intro p e s m below meth c ls C hl hW hZ
  have hl : lv_has ls 9 [(0, .ref x0), (1, .int x1)] := hl
  have hkm : Km h h := Km.rf h
  refine lv_iconst (v := (1 : Int32)) C.1 C.2.1 dX0_goBack_0 (by decide) ?_
  refine lv_iload_n C.1 C.2.1 dX0_goBack_1 rfl (lv_at hl 1 rfl) ?_
  refine lv_isub C.1 C.2.1 dX0_goBack_2 ?_
  obtain ⟨v_1, ev_1, hE⟩ := nm_e2 hE
  refine x_nmI ev_1 ?_
  refine lv_istore_n (lv' := [(2, .int v_1), (0, .ref x0), (1, .int x1)]) C.1 C.2.1 dX0_goBack_3 rfl hl (by decide) rfl (fun ls hl => ?_)
  refine lv_aload_n C.1 C.2.1 dX0_goBack_4 rfl (lv_at hl 1 rfl) ?_
  obtain ⟨r_2, er_2, hE⟩ := cl_e hE
  refine gf_X0_40 C hW k_x0 er_2 dX0_goBack_5 (fun k_r_2 => ?_)
  refine lv_iconst (v := (4 : Int32)) C.1 C.2.1 dX0_goBack_8 (by decide) ?_
  obtain ⟨o_3, eo_3, hE⟩ := cl_e hE
  refine x_kI (o := o_3) (z_runV (As := [.int (4 : Int32)]) (rest := []) C (ct_X1_has l X k_r_2 eo_3) cw_X0_212 hW hZ k_r_2 (by decide) rfl rfl rfl hl.1 (Nat.le_of_ble_eq_true rfl) rfl dX0_goBack_9 ⟨Nat.le_of_ble_eq_true rfl, Nat.le_of_ble_eq_true rfl⟩ ⟨Nat.le_refl _, Nat.le_refl _⟩) hZ (fun _ _ hW km hZ => ?_)
  replace hkm := hkm.tr km
  replace k_x0 := km.at k_x0 (by decide)
  refine lv_if_eq (tgt := 31) C.1 C.2.1 dX0_goBack_12 (by decide) (fun c_4 => ?_) (fun c_4 => ?_)
  · have hE := br_p hE c_4
    exact bX0_goBack_31 C k_x0 hkm hW hZ _ (lv_sub hl [1, 0] rfl) hE
  · have hE := br_n hE c_4
    refine lv_aload_n C.1 C.2.1 dX0_goBack_15 rfl (lv_at hl 1 rfl) ?_
    obtain ⟨r_5, er_5, hE⟩ := cl_e hE
    refine gf_X0_48 C hW k_x0 er_5 dX0_goBack_16 (fun k_r_5 => ?_)
    refine lv_aload_n C.1 C.2.1 dX0_goBack_19 rfl (lv_at hl 1 rfl) ?_
    obtain ⟨r_6, er_6, hE⟩ := cl_e hE
    refine gf_X0_14 C hW k_x0 er_6 dX0_goBack_20 (fun k_r_6 => ?_)
    refine lv_iload_n C.1 C.2.1 dX0_goBack_23 rfl (lv_at hl 2 rfl) ?_
    obtain ⟨o_7, eo_7, hE⟩ := cl_e hE
    refine x_kI (o := o_7) (z_runV (As := [.ref r_6, .int x1]) (rest := []) C (ct_X5_isRoyalHit l X F k_r_5 k_r_6 eo_7) cw_X0_187 hW hZ k_r_5 (by decide) rfl rfl rfl hl.1 (Nat.le_of_ble_eq_true rfl) rfl dX0_goBack_24 ⟨Nat.le_of_ble_eq_true rfl, Nat.le_of_ble_eq_true rfl⟩ ⟨Nat.le_refl _, Nat.le_refl _⟩) hZ (fun _ _ hW km hZ => ?_)
    replace hkm := hkm.tr km
    replace k_x0 := km.at k_x0 (by decide)
    refine lv_if_eq (tgt := 31) C.1 C.2.1 dX0_goBack_27 (by decide) (fun c_8 => ?_) (fun c_8 => ?_)
    · have hE := br_p hE c_8
      exact bX0_goBack_31 C k_x0 hkm hW hZ _ (lv_sub hl [1, 0] rfl) hE
    · have hE := br_n hE c_8
      exact x_vret C rfl hW hZ hkm hE dX0_goBack_30
set_option maxRecDepth 100000 in
theorem ms_99 : Cond.selects RX0 yX0_goBack yX0_goBack ∈ W0 := w0_in (List.mem_append_left _ (List.mem_of_getElem? (i := 99) rfl)) rfl
set_option maxRecDepth 100000 in
theorem m_1676 : Cond.methodLink RX0 115 yX0_goBack ∈ W0 := w0_in (List.mem_append_right _ (List.mem_of_getElem? (i := 1676) rfl)) rfl
set_option maxRecDepth 100000 in
theorem m_1678 : Cond.instanceMethod yX0_goBack ∈ W0 := w0_in (List.mem_append_right _ (List.mem_of_getElem? (i := 1678) rfl)) rfl
set_option maxRecDepth 100000 in
theorem m_1679 : Cond.code yX0_goBack cX0_goBack 9 none ∈ W0 := w0_in (List.mem_append_right _ (List.mem_of_getElem? (i := 1679) rfl)) rfl
theorem cw_X0_115 : cwd RX0 115 yX0_goBack cX0_goBack 9 none false 1 := ⟨m_1679, m_1676, m_13, ⟨m_1678, ms_99⟩, by decide, by decide, by decide +kernel⟩
theorem dX0_countAll_0 : decode cX0_countAll 0 = .ok (.iconst 0, 1) := by decide +kernel
theorem dX0_countAll_1 : decode cX0_countAll 1 = .ok (.istore_n 1, 1) := by decide +kernel
theorem dX0_countAll_2 : decode cX0_countAll 2 = .ok (.iload_n 1, 1) := by decide +kernel
theorem dX0_countAll_3 : decode cX0_countAll 3 = .ok (.aload_n 0, 1) := by decide +kernel
theorem dX0_countAll_4 : decode cX0_countAll 4 = .ok (.getfield 129, 3) := by decide +kernel
theorem dX0_countAll_7 : decode cX0_countAll 7 = .ok (.if_icmp .ge 143, 3) := by decide +kernel
theorem dX0_countAll_10 : decode cX0_countAll 10 = .ok (.aload_n 0, 1) := by decide +kernel
theorem dX0_countAll_11 : decode cX0_countAll 11 = .ok (.getfield 22, 3) := by decide +kernel
theorem dX0_countAll_14 : decode cX0_countAll 14 = .ok (.iload_n 1, 1) := by decide +kernel
theorem dX0_countAll_15 : decode cX0_countAll 15 = .ok (.iconst 1, 1) := by decide +kernel
theorem dX0_countAll_16 : decode cX0_countAll 16 = .ok (.iadd, 1) := by decide +kernel
theorem dX0_countAll_17 : decode cX0_countAll 17 = .ok (.iaload, 1) := by decide +kernel
theorem dX0_countAll_18 : decode cX0_countAll 18 = .ok (.aload_n 0, 1) := by decide +kernel
theorem dX0_countAll_19 : decode cX0_countAll 19 = .ok (.getfield 22, 3) := by decide +kernel
theorem dX0_countAll_22 : decode cX0_countAll 22 = .ok (.iload_n 1, 1) := by decide +kernel
theorem dX0_countAll_23 : decode cX0_countAll 23 = .ok (.iaload, 1) := by decide +kernel
theorem dX0_countAll_24 : decode cX0_countAll 24 = .ok (.isub, 1) := by decide +kernel
theorem dX0_countAll_25 : decode cX0_countAll 25 = .ok (.iconst 1, 1) := by decide +kernel
theorem dX0_countAll_26 : decode cX0_countAll 26 = .ok (.ishr, 1) := by decide +kernel
theorem dX0_countAll_27 : decode cX0_countAll 27 = .ok (.istore_n 2, 1) := by decide +kernel
theorem dX0_countAll_28 : decode cX0_countAll 28 = .ok (.iconst 0, 1) := by decide +kernel
theorem dX0_countAll_29 : decode cX0_countAll 29 = .ok (.istore_n 3, 1) := by decide +kernel
theorem dX0_countAll_30 : decode cX0_countAll 30 = .ok (.iload_n 3, 1) := by decide +kernel
theorem dX0_countAll_31 : decode cX0_countAll 31 = .ok (.iload_n 2, 1) := by decide +kernel
theorem dX0_countAll_32 : decode cX0_countAll 32 = .ok (.if_icmp .ge 112, 3) := by decide +kernel
theorem dX0_countAll_35 : decode cX0_countAll 35 = .ok (.aload_n 0, 1) := by decide +kernel
theorem dX0_countAll_36 : decode cX0_countAll 36 = .ok (.getfield 22, 3) := by decide +kernel
theorem dX0_countAll_39 : decode cX0_countAll 39 = .ok (.iload_n 1, 1) := by decide +kernel
theorem dX0_countAll_40 : decode cX0_countAll 40 = .ok (.iaload, 1) := by decide +kernel
theorem dX0_countAll_41 : decode cX0_countAll 41 = .ok (.iconst 2, 1) := by decide +kernel
theorem dX0_countAll_42 : decode cX0_countAll 42 = .ok (.iload_n 3, 1) := by decide +kernel
theorem dX0_countAll_43 : decode cX0_countAll 43 = .ok (.imul, 1) := by decide +kernel
theorem dX0_countAll_44 : decode cX0_countAll 44 = .ok (.iadd, 1) := by decide +kernel
theorem dX0_countAll_45 : decode cX0_countAll 45 = .ok (.istore 4, 2) := by decide +kernel
theorem dX0_countAll_47 : decode cX0_countAll 47 = .ok (.aload_n 0, 1) := by decide +kernel
theorem dX0_countAll_48 : decode cX0_countAll 48 = .ok (.getfield 31, 3) := by decide +kernel
theorem dX0_countAll_51 : decode cX0_countAll 51 = .ok (.iload 4, 2) := by decide +kernel
theorem dX0_countAll_53 : decode cX0_countAll 53 = .ok (.iaload, 1) := by decide +kernel
theorem dX0_countAll_54 : decode cX0_countAll 54 = .ok (.ldc 183, 2) := by decide +kernel
theorem dX0_countAll_56 : decode cX0_countAll 56 = .ok (.if_icmp .ne 17, 3) := by decide +kernel
theorem dX0_countAll_59 : decode cX0_countAll 59 = .ok (.aload_n 0, 1) := by decide +kernel
theorem dX0_countAll_60 : decode cX0_countAll 60 = .ok (.getfield 31, 3) := by decide +kernel
theorem dX0_countAll_63 : decode cX0_countAll 63 = .ok (.iload 4, 2) := by decide +kernel
theorem dX0_countAll_65 : decode cX0_countAll 65 = .ok (.iconst 1, 1) := by decide +kernel
theorem dX0_countAll_66 : decode cX0_countAll 66 = .ok (.iadd, 1) := by decide +kernel
theorem dX0_countAll_67 : decode cX0_countAll 67 = .ok (.iaload, 1) := by decide +kernel
theorem dX0_countAll_68 : decode cX0_countAll 68 = .ok (.ldc 183, 2) := by decide +kernel
theorem dX0_countAll_70 : decode cX0_countAll 70 = .ok (.if_icmp .eq 7, 3) := by decide +kernel
theorem dX0_countAll_73 : decode cX0_countAll 73 = .ok (.iconst 1, 1) := by decide +kernel
theorem dX0_countAll_74 : decode cX0_countAll 74 = .ok (.goto 4, 3) := by decide +kernel
theorem dX0_countAll_77 : decode cX0_countAll 77 = .ok (.iconst 0, 1) := by decide +kernel
theorem dX0_countAll_78 : decode cX0_countAll 78 = .ok (.istore 5, 2) := by decide +kernel
theorem dX0_countAll_80 : decode cX0_countAll 80 = .ok (.iload 5, 2) := by decide +kernel
theorem dX0_countAll_82 : decode cX0_countAll 82 = .ok (.ifCond .eq 56, 3) := by decide +kernel
theorem dX0_countAll_85 : decode cX0_countAll 85 = .ok (.aload_n 0, 1) := by decide +kernel
theorem dX0_countAll_86 : decode cX0_countAll 86 = .ok (.aload_n 0, 1) := by decide +kernel
theorem dX0_countAll_87 : decode cX0_countAll 87 = .ok (.getfield 18, 3) := by decide +kernel
theorem dX0_countAll_90 : decode cX0_countAll 90 = .ok (.iload_n 1, 1) := by decide +kernel
theorem dX0_countAll_91 : decode cX0_countAll 91 = .ok (.iaload, 1) := by decide +kernel
theorem dX0_countAll_92 : decode cX0_countAll 92 = .ok (.iload_n 3, 1) := by decide +kernel
theorem dX0_countAll_93 : decode cX0_countAll 93 = .ok (.invokevirtual 111, 3) := by decide +kernel
theorem dX0_countAll_96 : decode cX0_countAll 96 = .ok (.ifCond .ne 6, 3) := by decide +kernel
theorem dX0_countAll_99 : decode cX0_countAll 99 = .ok (.goto 39, 3) := by decide +kernel
theorem dX0_countAll_102 : decode cX0_countAll 102 = .ok (.iconst 0, 1) := by decide +kernel
theorem dX0_countAll_103 : decode cX0_countAll 103 = .ok (.istore 6, 2) := by decide +kernel
theorem dX0_countAll_105 : decode cX0_countAll 105 = .ok (.iload 6, 2) := by decide +kernel
theorem dX0_countAll_107 : decode cX0_countAll 107 = .ok (.iconst 2, 1) := by decide +kernel
theorem dX0_countAll_108 : decode cX0_countAll 108 = .ok (.if_icmp .ge 30, 3) := by decide +kernel
theorem dX0_countAll_111 : decode cX0_countAll 111 = .ok (.aload_n 0, 1) := by decide +kernel
theorem dX0_countAll_112 : decode cX0_countAll 112 = .ok (.getfield 31, 3) := by decide +kernel
theorem dX0_countAll_115 : decode cX0_countAll 115 = .ok (.iload 4, 2) := by decide +kernel
theorem dX0_countAll_117 : decode cX0_countAll 117 = .ok (.iload 6, 2) := by decide +kernel
theorem dX0_countAll_119 : decode cX0_countAll 119 = .ok (.iadd, 1) := by decide +kernel
theorem dX0_countAll_120 : decode cX0_countAll 120 = .ok (.iaload, 1) := by decide +kernel
theorem dX0_countAll_121 : decode cX0_countAll 121 = .ok (.ldc 183, 2) := by decide +kernel
theorem dX0_countAll_123 : decode cX0_countAll 123 = .ok (.if_icmp .eq 9, 3) := by decide +kernel
theorem dX0_countAll_126 : decode cX0_countAll 126 = .ok (.aload_n 0, 1) := by decide +kernel
theorem dX0_countAll_127 : decode cX0_countAll 127 = .ok (.iload 6, 2) := by decide +kernel
theorem dX0_countAll_129 : decode cX0_countAll 129 = .ok (.invokevirtual 115, 3) := by decide +kernel
theorem dX0_countAll_132 : decode cX0_countAll 132 = .ok (.iinc 6 1, 3) := by decide +kernel
theorem dX0_countAll_135 : decode cX0_countAll 135 = .ok (.goto (-30), 3) := by decide +kernel
theorem dX0_countAll_138 : decode cX0_countAll 138 = .ok (.iinc 3 1, 3) := by decide +kernel
theorem dX0_countAll_141 : decode cX0_countAll 141 = .ok (.goto (-111), 3) := by decide +kernel
theorem dX0_countAll_144 : decode cX0_countAll 144 = .ok (.iinc 1 1, 3) := by decide +kernel
theorem dX0_countAll_147 : decode cX0_countAll 147 = .ok (.goto (-145), 3) := by decide +kernel
theorem dX0_countAll_150 : decode cX0_countAll 150 = .ok (.return_, 1) := by decide +kernel
def sX0_countAll_138 (F : Nat) (k_2 : Hp → Nat → Int32 → Option (Hp)) (k_30 : Hp → Nat → Int32 → Int32 → Int32 → Option (Hp)) (h : Hp) (x0 : Nat) (x1 : Int32) (x2 : Int32) (x3 : Int32) : Option (Hp) := nm (x3 + (1 : Int32)) fun v_1 => k_30 h x0 x1 x2 v_1
def sX0_countAll_132 (F : Nat) (k_2 : Hp → Nat → Int32 → Option (Hp)) (k_30 : Hp → Nat → Int32 → Int32 → Int32 → Option (Hp)) (k_105 : Hp → Nat → Int32 → Int32 → Int32 → Int32 → Int32 → Option (Hp)) (h : Hp) (x0 : Nat) (x1 : Int32) (x2 : Int32) (x3 : Int32) (x4 : Int32) (x6 : Int32) : Option (Hp) := nm (x6 + (1 : Int32)) fun v_1 => k_105 h x0 x1 x2 x3 x4 v_1
def sX0_countAll_105 (F : Nat) (k_2 : Hp → Nat → Int32 → Option (Hp)) (k_30 : Hp → Nat → Int32 → Int32 → Int32 → Option (Hp)) : Nat → Hp → Nat → Int32 → Int32 → Int32 → Int32 → Int32 → Option (Hp)
  | 0, _, _, _, _, _, _, _ => none
  | f + 1, h, x0, x1, x2, x3, x4, x6 => br ((2 : Int32) ≤ x6) (sX0_countAll_138 F k_2 k_30 h x0 x1 x2 x3) (cl (hR h x0 11) fun r_2 => gd (inB (x4 + x6) (hN h r_2)) <| br ((hI h r_2 (x4 + x6).toNatClampNeg) = (4000000 : Int32)) (sX0_countAll_132 F k_2 k_30 (sX0_countAll_105 F k_2 k_30 f) h x0 x1 x2 x3 x4 x6) (cl (sX0_goBack F h x0 x6) fun o_5 => sX0_countAll_132 F k_2 k_30 (sX0_countAll_105 F k_2 k_30 f) o_5 x0 x1 x2 x3 x4 x6))
def sX0_countAll_78 (F : Nat) (k_2 : Hp → Nat → Int32 → Option (Hp)) (k_30 : Hp → Nat → Int32 → Int32 → Int32 → Option (Hp)) (h : Hp) (x0 : Nat) (x1 : Int32) (x2 : Int32) (x3 : Int32) (x4 : Int32) (t0 : Int32) : Option (Hp) := br (t0 = 0) (sX0_countAll_138 F k_2 k_30 h x0 x1 x2 x3) (cl (hR h x0 4) fun r_2 => gd (inB x1 (hN h r_2)) <| cl (sX0_layOut F h x0 (hI h r_2 x1.toNatClampNeg) x3) fun o_4 => br (o_4.1 = 0) (sX0_countAll_138 F k_2 k_30 o_4.2 x0 x1 x2 x3) (sX0_countAll_105 F k_2 k_30 F o_4.2 x0 x1 x2 x3 x4 (0 : Int32)))
def sX0_countAll_73 (F : Nat) (k_2 : Hp → Nat → Int32 → Option (Hp)) (k_30 : Hp → Nat → Int32 → Int32 → Int32 → Option (Hp)) (h : Hp) (x0 : Nat) (x1 : Int32) (x2 : Int32) (x3 : Int32) (x4 : Int32) : Option (Hp) := sX0_countAll_78 F k_2 k_30 h x0 x1 x2 x3 x4 (1 : Int32)
def sX0_countAll_30 (F : Nat) (k_2 : Hp → Nat → Int32 → Option (Hp)) : Nat → Hp → Nat → Int32 → Int32 → Int32 → Option (Hp)
  | 0, _, _, _, _, _ => none
  | f + 1, h, x0, x1, x2, x3 => br (x2 ≤ x3) (nm (x1 + (1 : Int32)) fun v_2 => k_2 h x0 v_2) (cl (hR h x0 5) fun r_3 => gd (inB x1 (hN h r_3)) <| nm ((hI h r_3 x1.toNatClampNeg) + ((2 : Int32) * x3)) fun v_5 => cl (hR h x0 11) fun r_6 => gd (inB v_5 (hN h r_6)) <| br ((hI h r_6 v_5.toNatClampNeg) = (4000000 : Int32)) (cl (hR h x0 11) fun r_9 => gd (inB (v_5 + (1 : Int32)) (hN h r_9)) <| br ((hI h r_9 (v_5 + (1 : Int32)).toNatClampNeg) = (4000000 : Int32)) (sX0_countAll_78 F k_2 (sX0_countAll_30 F k_2 f) h x0 x1 x2 x3 v_5 (0 : Int32)) (sX0_countAll_73 F k_2 (sX0_countAll_30 F k_2 f) h x0 x1 x2 x3 v_5)) (sX0_countAll_73 F k_2 (sX0_countAll_30 F k_2 f) h x0 x1 x2 x3 v_5))
def sX0_countAll_2 (F : Nat) : Nat → Hp → Nat → Int32 → Option (Hp)
  | 0, _, _, _ => none
  | f + 1, h, x0, x1 => br ((hI h x0 9) ≤ x1) (some h) (cl (hR h x0 5) fun r_2 => gd (inB (x1 + (1 : Int32)) (hN h r_2)) <| cl (hR h x0 5) fun r_4 => gd (inB x1 (hN h r_4)) <| nm (((hI h r_2 (x1 + (1 : Int32)).toNatClampNeg) - (hI h r_4 x1.toNatClampNeg)) >>> ((1 : Int32) &&& 31)) fun v_6 => sX0_countAll_30 F (sX0_countAll_2 F f) F h x0 x1 v_6 (0 : Int32))
def sX0_countAll (F : Nat) (h : Hp) (x0 : Nat) : Option (Hp) := sX0_countAll_2 F F h x0 (0 : Int32)
set_option maxRecDepth 20000 in
theorem moX0_countAll_138 {o : Hp} {k_2 : Hp → Nat → Int32 → Option (Hp)} {k_30 : Hp → Nat → Int32 → Int32 → Int32 → Option (Hp)} {F : Nat} (mk_2 : ∀ (h : Hp) (x0 : Nat) (x1 : Int32), k_2 h x0 x1 = some o → Le h o) (mk_30 : ∀ (h : Hp) (x0 : Nat) (x1 : Int32) (x2 : Int32) (x3 : Int32), k_30 h x0 x1 x2 x3 = some o → Le h o) {h : Hp} {x0 : Nat} {x1 : Int32} {x2 : Int32} {x3 : Int32} (hE : sX0_countAll_138 F k_2 k_30 h x0 x1 x2 x3 = some o) : Le h o := by
  obtain ⟨v_1, ev_1, hE⟩ := nm_e2 hE
  exact mk_30 _ _ _ _ _ hE
set_option maxRecDepth 20000 in
theorem moX0_countAll_132 {o : Hp} {k_2 : Hp → Nat → Int32 → Option (Hp)} {k_30 : Hp → Nat → Int32 → Int32 → Int32 → Option (Hp)} {k_105 : Hp → Nat → Int32 → Int32 → Int32 → Int32 → Int32 → Option (Hp)} {F : Nat} (mk_2 : ∀ (h : Hp) (x0 : Nat) (x1 : Int32), k_2 h x0 x1 = some o → Le h o) (mk_30 : ∀ (h : Hp) (x0 : Nat) (x1 : Int32) (x2 : Int32) (x3 : Int32), k_30 h x0 x1 x2 x3 = some o → Le h o) (mk_105 : ∀ (h : Hp) (x0 : Nat) (x1 : Int32) (x2 : Int32) (x3 : Int32) (x4 : Int32) (x6 : Int32), k_105 h x0 x1 x2 x3 x4 x6 = some o → Le h o) {h : Hp} {x0 : Nat} {x1 : Int32} {x2 : Int32} {x3 : Int32} {x4 : Int32} {x6 : Int32} (hE : sX0_countAll_132 F k_2 k_30 k_105 h x0 x1 x2 x3 x4 x6 = some o) : Le h o := by
  obtain ⟨v_1, ev_1, hE⟩ := nm_e2 hE
  exact mk_105 _ _ _ _ _ _ _ hE
set_option maxRecDepth 20000 in
theorem moX0_countAll_105 {o : Hp} {k_2 : Hp → Nat → Int32 → Option (Hp)} {k_30 : Hp → Nat → Int32 → Int32 → Int32 → Option (Hp)} {F : Nat} (mk_2 : ∀ (h : Hp) (x0 : Nat) (x1 : Int32), k_2 h x0 x1 = some o → Le h o) (mk_30 : ∀ (h : Hp) (x0 : Nat) (x1 : Int32) (x2 : Int32) (x3 : Int32), k_30 h x0 x1 x2 x3 = some o → Le h o) : ∀ (f : Nat) {h : Hp} {x0 : Nat} {x1 : Int32} {x2 : Int32} {x3 : Int32} {x4 : Int32} {x6 : Int32}, sX0_countAll_105 F k_2 k_30 f h x0 x1 x2 x3 x4 x6 = some o → Le h o := by
  intro f
  induction f with
  | zero =>
    intro h x0 x1 x2 x3 x4 x6 hE
    rw [sX0_countAll_105] at hE
    cases hE
  | succ f ih =>
    intro h x0 x1 x2 x3 x4 x6 hE
    rw [sX0_countAll_105] at hE
    have mk_105 : ∀ (h : Hp) (x0 : Nat) (x1 : Int32) (x2 : Int32) (x3 : Int32) (x4 : Int32) (x6 : Int32), sX0_countAll_105 F k_2 k_30 f h x0 x1 x2 x3 x4 x6 = some o → Le h o := fun h x0 x1 x2 x3 x4 x6 hE => ih hE
    rcases br_e hE with ⟨_, hE⟩ | ⟨_, hE⟩
    · exact moX0_countAll_138 mk_2 mk_30 hE
    · obtain ⟨r_2, er_2, hE⟩ := cl_e hE
      obtain ⟨g_3, hE⟩ := gd_e hE
      rcases br_e hE with ⟨_, hE⟩ | ⟨_, hE⟩
      · exact moX0_countAll_132 mk_2 mk_30 mk_105 hE
      · obtain ⟨o_5, eo_5, hE⟩ := cl_e hE
        refine (moX0_goBack eo_5).tr ?_
        exact moX0_countAll_132 mk_2 mk_30 mk_105 hE
set_option maxRecDepth 20000 in
theorem moX0_countAll_78 {o : Hp} {k_2 : Hp → Nat → Int32 → Option (Hp)} {k_30 : Hp → Nat → Int32 → Int32 → Int32 → Option (Hp)} {F : Nat} (mk_2 : ∀ (h : Hp) (x0 : Nat) (x1 : Int32), k_2 h x0 x1 = some o → Le h o) (mk_30 : ∀ (h : Hp) (x0 : Nat) (x1 : Int32) (x2 : Int32) (x3 : Int32), k_30 h x0 x1 x2 x3 = some o → Le h o) {h : Hp} {x0 : Nat} {x1 : Int32} {x2 : Int32} {x3 : Int32} {x4 : Int32} {t0 : Int32} (hE : sX0_countAll_78 F k_2 k_30 h x0 x1 x2 x3 x4 t0 = some o) : Le h o := by
  rcases br_e hE with ⟨_, hE⟩ | ⟨_, hE⟩
  · exact moX0_countAll_138 mk_2 mk_30 hE
  · obtain ⟨r_2, er_2, hE⟩ := cl_e hE
    obtain ⟨g_3, hE⟩ := gd_e hE
    obtain ⟨o_4, eo_4, hE⟩ := cl_e hE
    refine (moX0_layOut eo_4).tr ?_
    rcases br_e hE with ⟨_, hE⟩ | ⟨_, hE⟩
    · exact moX0_countAll_138 mk_2 mk_30 hE
    · exact moX0_countAll_105 mk_2 mk_30 _ hE
set_option maxRecDepth 20000 in
theorem moX0_countAll_73 {o : Hp} {k_2 : Hp → Nat → Int32 → Option (Hp)} {k_30 : Hp → Nat → Int32 → Int32 → Int32 → Option (Hp)} {F : Nat} (mk_2 : ∀ (h : Hp) (x0 : Nat) (x1 : Int32), k_2 h x0 x1 = some o → Le h o) (mk_30 : ∀ (h : Hp) (x0 : Nat) (x1 : Int32) (x2 : Int32) (x3 : Int32), k_30 h x0 x1 x2 x3 = some o → Le h o) {h : Hp} {x0 : Nat} {x1 : Int32} {x2 : Int32} {x3 : Int32} {x4 : Int32} (hE : sX0_countAll_73 F k_2 k_30 h x0 x1 x2 x3 x4 = some o) : Le h o := by
  exact moX0_countAll_78 mk_2 mk_30 hE
set_option maxRecDepth 20000 in
theorem moX0_countAll_30 {o : Hp} {k_2 : Hp → Nat → Int32 → Option (Hp)} {F : Nat} (mk_2 : ∀ (h : Hp) (x0 : Nat) (x1 : Int32), k_2 h x0 x1 = some o → Le h o) : ∀ (f : Nat) {h : Hp} {x0 : Nat} {x1 : Int32} {x2 : Int32} {x3 : Int32}, sX0_countAll_30 F k_2 f h x0 x1 x2 x3 = some o → Le h o := by
  intro f
  induction f with
  | zero =>
    intro h x0 x1 x2 x3 hE
    rw [sX0_countAll_30] at hE
    cases hE
  | succ f ih =>
    intro h x0 x1 x2 x3 hE
    rw [sX0_countAll_30] at hE
    have mk_30 : ∀ (h : Hp) (x0 : Nat) (x1 : Int32) (x2 : Int32) (x3 : Int32), sX0_countAll_30 F k_2 f h x0 x1 x2 x3 = some o → Le h o := fun h x0 x1 x2 x3 hE => ih hE
    rcases br_e hE with ⟨_, hE⟩ | ⟨_, hE⟩
    · obtain ⟨v_2, ev_2, hE⟩ := nm_e2 hE
      exact mk_2 _ _ _ hE
    · obtain ⟨r_3, er_3, hE⟩ := cl_e hE
      obtain ⟨g_4, hE⟩ := gd_e hE
      obtain ⟨v_5, ev_5, hE⟩ := nm_e2 hE
      obtain ⟨r_6, er_6, hE⟩ := cl_e hE
      obtain ⟨g_7, hE⟩ := gd_e hE
      rcases br_e hE with ⟨_, hE⟩ | ⟨_, hE⟩
      · obtain ⟨r_9, er_9, hE⟩ := cl_e hE
        obtain ⟨g_10, hE⟩ := gd_e hE
        rcases br_e hE with ⟨_, hE⟩ | ⟨_, hE⟩
        · exact moX0_countAll_78 mk_2 mk_30 hE
        · exact moX0_countAll_73 mk_2 mk_30 hE
      · exact moX0_countAll_73 mk_2 mk_30 hE
set_option maxRecDepth 20000 in
theorem moX0_countAll_2 {o : Hp} {F : Nat} : ∀ (f : Nat) {h : Hp} {x0 : Nat} {x1 : Int32}, sX0_countAll_2 F f h x0 x1 = some o → Le h o := by
  intro f
  induction f with
  | zero =>
    intro h x0 x1 hE
    rw [sX0_countAll_2] at hE
    cases hE
  | succ f ih =>
    intro h x0 x1 hE
    rw [sX0_countAll_2] at hE
    have mk_2 : ∀ (h : Hp) (x0 : Nat) (x1 : Int32), sX0_countAll_2 F f h x0 x1 = some o → Le h o := fun h x0 x1 hE => ih hE
    rcases br_e hE with ⟨_, hE⟩ | ⟨_, hE⟩
    · exact le_some1 hE
    · obtain ⟨r_2, er_2, hE⟩ := cl_e hE
      obtain ⟨g_3, hE⟩ := gd_e hE
      obtain ⟨r_4, er_4, hE⟩ := cl_e hE
      obtain ⟨g_5, hE⟩ := gd_e hE
      obtain ⟨v_6, ev_6, hE⟩ := nm_e2 hE
      exact moX0_countAll_30 mk_2 _ hE
set_option maxRecDepth 20000 in
theorem moX0_countAll {o : Hp} {F : Nat} {h : Hp} {x0 : Nat} (hE : sX0_countAll F h x0 = some o) : Le h o := by
  exact moX0_countAll_2 _ hE
set_option maxRecDepth 20000 in
theorem bX0_countAll_138 {p : Program} {l : Launch} {e : Env} {s : State} {m : MethodId} {args : Array Value} {below : List Frame} {meth : Method} {c : Code} {X : Ec} {h0 : Hp} {o : Hp} {k_2 : Hp → Nat → Int32 → Option (Hp)} {k_30 : Hp → Nat → Int32 → Int32 → Int32 → Option (Hp)} {F : Nat} (C : Cx X p s m args meth c RX0 cX0_countAll 7 none "countAll") (hk_2 : ∀ (h : Hp) (x0 : Nat) (x1 : Int32) (H : Heap) (locs : List Loc), hK h x0 = 0 → Km h0 h → Wx X h H → va_S (aA (eB X)) s.heap H locs → ∀ (ls : Array Slot), lv_has ls 7 [(0, .ref x0), (1, .int x1)] → k_2 h x0 x1 = some o → W p l e (rm 5 145) s m args below meth c H locs 0 0 (MQ below (QV X h0 o) args s 0 0 (aA (eB X))) (F0 m 2 ls [])) (hk_30 : ∀ (h : Hp) (x0 : Nat) (x1 : Int32) (x2 : Int32) (x3 : Int32) (H : Heap) (locs : List Loc), hK h x0 = 0 → Km h0 h → Wx X h H → va_S (aA (eB X)) s.heap H locs → ∀ (ls : Array Slot), lv_has ls 7 [(0, .ref x0), (1, .int x1), (2, .int x2), (3, .int x3)] → k_30 h x0 x1 x2 x3 = some o → W p l e (rm 5 145) s m args below meth c H locs 0 0 (MQ below (QV X h0 o) args s 0 0 (aA (eB X))) (F0 m 30 ls [])) {h : Hp} {x0 : Nat} {x1 : Int32} {x2 : Int32} {x3 : Int32} {H : Heap} {locs : List Loc} (k_x0 : hK h x0 = 0) (hkm : Km h0 h) (hW : Wx X h H) (hZ : va_S (aA (eB X)) s.heap H locs) (ls : Array Slot) (hl : lv_has ls 7 [(0, .ref x0), (1, .int x1), (2, .int x2), (3, .int x3)]) (hE : sX0_countAll_138 F k_2 k_30 h x0 x1 x2 x3 = some o) : W p l e (rm 5 145) s m args below meth c H locs 0 0 (MQ below (QV X h0 o) args s 0 0 (aA (eB X))) (F0 m 138 ls []) := by
  obtain ⟨v_1, ev_1, hE⟩ := nm_e2 hE
  refine lv_iinc (v := v_1) (lv' := [(3, .int v_1), (0, .ref x0), (1, .int x1), (2, .int x2)]) C.1 C.2.1 dX0_countAll_138 hl (k := 3) rfl (by rw [ev_1]; rfl) (by decide) rfl (fun ls hl => ?_)
  refine lv_goto (tgt := 30) C.1 C.2.1 dX0_countAll_141 (by decide) ?_
  exact hk_30 _ _ _ _ _ _ _ k_x0 hkm hW hZ _ (lv_sub hl [1, 2, 3, 0] rfl) hE
set_option maxRecDepth 20000 in
theorem bX0_countAll_132 {p : Program} {l : Launch} {e : Env} {s : State} {m : MethodId} {args : Array Value} {below : List Frame} {meth : Method} {c : Code} {X : Ec} {h0 : Hp} {o : Hp} {k_2 : Hp → Nat → Int32 → Option (Hp)} {k_30 : Hp → Nat → Int32 → Int32 → Int32 → Option (Hp)} {k_105 : Hp → Nat → Int32 → Int32 → Int32 → Int32 → Int32 → Option (Hp)} {F : Nat} (C : Cx X p s m args meth c RX0 cX0_countAll 7 none "countAll") (hk_2 : ∀ (h : Hp) (x0 : Nat) (x1 : Int32) (H : Heap) (locs : List Loc), hK h x0 = 0 → Km h0 h → Wx X h H → va_S (aA (eB X)) s.heap H locs → ∀ (ls : Array Slot), lv_has ls 7 [(0, .ref x0), (1, .int x1)] → k_2 h x0 x1 = some o → W p l e (rm 5 145) s m args below meth c H locs 0 0 (MQ below (QV X h0 o) args s 0 0 (aA (eB X))) (F0 m 2 ls [])) (hk_30 : ∀ (h : Hp) (x0 : Nat) (x1 : Int32) (x2 : Int32) (x3 : Int32) (H : Heap) (locs : List Loc), hK h x0 = 0 → Km h0 h → Wx X h H → va_S (aA (eB X)) s.heap H locs → ∀ (ls : Array Slot), lv_has ls 7 [(0, .ref x0), (1, .int x1), (2, .int x2), (3, .int x3)] → k_30 h x0 x1 x2 x3 = some o → W p l e (rm 5 145) s m args below meth c H locs 0 0 (MQ below (QV X h0 o) args s 0 0 (aA (eB X))) (F0 m 30 ls [])) (hk_105 : ∀ (h : Hp) (x0 : Nat) (x1 : Int32) (x2 : Int32) (x3 : Int32) (x4 : Int32) (x6 : Int32) (H : Heap) (locs : List Loc), hK h x0 = 0 → Km h0 h → Wx X h H → va_S (aA (eB X)) s.heap H locs → ∀ (ls : Array Slot), lv_has ls 7 [(0, .ref x0), (1, .int x1), (2, .int x2), (3, .int x3), (4, .int x4), (6, .int x6)] → k_105 h x0 x1 x2 x3 x4 x6 = some o → W p l e (rm 5 145) s m args below meth c H locs 0 0 (MQ below (QV X h0 o) args s 0 0 (aA (eB X))) (F0 m 105 ls [])) {h : Hp} {x0 : Nat} {x1 : Int32} {x2 : Int32} {x3 : Int32} {x4 : Int32} {x6 : Int32} {H : Heap} {locs : List Loc} (k_x0 : hK h x0 = 0) (hkm : Km h0 h) (hW : Wx X h H) (hZ : va_S (aA (eB X)) s.heap H locs) (ls : Array Slot) (hl : lv_has ls 7 [(0, .ref x0), (1, .int x1), (2, .int x2), (3, .int x3), (4, .int x4), (6, .int x6)]) (hE : sX0_countAll_132 F k_2 k_30 k_105 h x0 x1 x2 x3 x4 x6 = some o) : W p l e (rm 5 145) s m args below meth c H locs 0 0 (MQ below (QV X h0 o) args s 0 0 (aA (eB X))) (F0 m 132 ls []) := by
  obtain ⟨v_1, ev_1, hE⟩ := nm_e2 hE
  refine lv_iinc (v := v_1) (lv' := [(6, .int v_1), (0, .ref x0), (1, .int x1), (2, .int x2), (3, .int x3), (4, .int x4)]) C.1 C.2.1 dX0_countAll_132 hl (k := 5) rfl (by rw [ev_1]; rfl) (by decide) rfl (fun ls hl => ?_)
  refine lv_goto (tgt := 105) C.1 C.2.1 dX0_countAll_135 (by decide) ?_
  exact hk_105 _ _ _ _ _ _ _ _ _ k_x0 hkm hW hZ _ (lv_sub hl [1, 2, 3, 4, 5, 0] rfl) hE
set_option maxRecDepth 20000 in
theorem bX0_countAll_105 {p : Program} {l : Launch} {e : Env} {s : State} {m : MethodId} {args : Array Value} {below : List Frame} {meth : Method} {c : Code} {X : Ec} {h0 : Hp} {o : Hp} {k_2 : Hp → Nat → Int32 → Option (Hp)} {k_30 : Hp → Nat → Int32 → Int32 → Int32 → Option (Hp)} {F : Nat} (C : Cx X p s m args meth c RX0 cX0_countAll 7 none "countAll") (hk_2 : ∀ (h : Hp) (x0 : Nat) (x1 : Int32) (H : Heap) (locs : List Loc), hK h x0 = 0 → Km h0 h → Wx X h H → va_S (aA (eB X)) s.heap H locs → ∀ (ls : Array Slot), lv_has ls 7 [(0, .ref x0), (1, .int x1)] → k_2 h x0 x1 = some o → W p l e (rm 5 145) s m args below meth c H locs 0 0 (MQ below (QV X h0 o) args s 0 0 (aA (eB X))) (F0 m 2 ls [])) (hk_30 : ∀ (h : Hp) (x0 : Nat) (x1 : Int32) (x2 : Int32) (x3 : Int32) (H : Heap) (locs : List Loc), hK h x0 = 0 → Km h0 h → Wx X h H → va_S (aA (eB X)) s.heap H locs → ∀ (ls : Array Slot), lv_has ls 7 [(0, .ref x0), (1, .int x1), (2, .int x2), (3, .int x3)] → k_30 h x0 x1 x2 x3 = some o → W p l e (rm 5 145) s m args below meth c H locs 0 0 (MQ below (QV X h0 o) args s 0 0 (aA (eB X))) (F0 m 30 ls [])) : ∀ (f : Nat) {h : Hp} {x0 : Nat} {x1 : Int32} {x2 : Int32} {x3 : Int32} {x4 : Int32} {x6 : Int32} {H : Heap} {locs : List Loc} (k_x0 : hK h x0 = 0), Km h0 h → Wx X h H → va_S (aA (eB X)) s.heap H locs → ∀ (ls : Array Slot), lv_has ls 7 [(0, .ref x0), (1, .int x1), (2, .int x2), (3, .int x3), (4, .int x4), (6, .int x6)] → sX0_countAll_105 F k_2 k_30 f h x0 x1 x2 x3 x4 x6 = some o → W p l e (rm 5 145) s m args below meth c H locs 0 0 (MQ below (QV X h0 o) args s 0 0 (aA (eB X))) (F0 m 105 ls []) := by
  intro f
  induction f with
  | zero =>
    intro h x0 x1 x2 x3 x4 x6 H locs k_x0 hkm hW hZ ls hl hE
    rw [sX0_countAll_105] at hE
    cases hE
  | succ f ih =>
    intro h x0 x1 x2 x3 x4 x6 H locs k_x0 hkm hW hZ ls hl hE
    rw [sX0_countAll_105] at hE
    have hk_105 : ∀ (h : Hp) (x0 : Nat) (x1 : Int32) (x2 : Int32) (x3 : Int32) (x4 : Int32) (x6 : Int32) (H : Heap) (locs : List Loc), hK h x0 = 0 → Km h0 h → Wx X h H → va_S (aA (eB X)) s.heap H locs → ∀ (ls : Array Slot), lv_has ls 7 [(0, .ref x0), (1, .int x1), (2, .int x2), (3, .int x3), (4, .int x4), (6, .int x6)] → sX0_countAll_105 F k_2 k_30 f h x0 x1 x2 x3 x4 x6 = some o → W p l e (rm 5 145) s m args below meth c H locs 0 0 (MQ below (QV X h0 o) args s 0 0 (aA (eB X))) (F0 m 105 ls []) := fun h x0 x1 x2 x3 x4 x6 H locs k_x0 a b c ls hl hE => ih k_x0 a b c ls hl hE
    refine lv_iload C.1 C.2.1 dX0_countAll_105 (lv_at hl 5 rfl) ?_
    refine lv_iconst (v := (2 : Int32)) C.1 C.2.1 dX0_countAll_107 (by decide) ?_
    refine lv_icmp_ge (tgt := 138) C.1 C.2.1 dX0_countAll_108 (by decide) (fun c_1 => ?_) (fun c_1 => ?_)
    · have hE := br_p hE c_1
      exact bX0_countAll_138 C hk_2 hk_30 k_x0 hkm hW hZ _ (lv_sub hl [0, 1, 2, 3] rfl) hE
    · have hE := br_n hE c_1
      refine lv_aload_n C.1 C.2.1 dX0_countAll_111 rfl (lv_at hl 0 rfl) ?_
      obtain ⟨r_2, er_2, hE⟩ := cl_e hE
      refine gf_X0_31 C hW k_x0 er_2 dX0_countAll_112 (fun k_r_2 => ?_)
      refine lv_iload C.1 C.2.1 dX0_countAll_115 (lv_at hl 4 rfl) ?_
      refine lv_iload C.1 C.2.1 dX0_countAll_117 (lv_at hl 5 rfl) ?_
      refine lv_iadd C.1 C.2.1 dX0_countAll_119 ?_
      obtain ⟨g_3, hE⟩ := gd_e hE
      refine y_iald C hW k_r_2 g_3 dX0_countAll_120 ?_
      refine lv_ldc (v := (4000000 : Int32)) C.1 C.2.1 C.2.2.2.1 (C.2.2.2.2.1 _ m_1662) dX0_countAll_121 ?_
      refine lv_icmp_eq (tgt := 132) C.1 C.2.1 dX0_countAll_123 (by decide) (fun c_4 => ?_) (fun c_4 => ?_)
      · have hE := br_p hE c_4
        exact bX0_countAll_132 C hk_2 hk_30 hk_105 k_x0 hkm hW hZ _ (lv_sub hl [0, 1, 2, 3, 4, 5] rfl) hE
      · have hE := br_n hE c_4
        refine lv_aload_n C.1 C.2.1 dX0_countAll_126 rfl (lv_at hl 0 rfl) ?_
        refine lv_iload C.1 C.2.1 dX0_countAll_127 (lv_at hl 5 rfl) ?_
        obtain ⟨o_5, eo_5, hE⟩ := cl_e hE
        refine x_kV (o := o_5) (z_runV (As := [.int x6]) (rest := []) C (ct_X0_goBack l X F k_x0 eo_5) cw_X0_115 hW hZ k_x0 (by decide) rfl rfl rfl hl.1 (Nat.le_of_ble_eq_true rfl) rfl dX0_countAll_129 ⟨Nat.le_of_ble_eq_true rfl, Nat.le_of_ble_eq_true rfl⟩ ⟨Nat.le_refl _, Nat.le_refl _⟩) hZ (fun _ _ hW km hZ => ?_)
        replace hkm := hkm.tr km
        replace k_x0 := km.at k_x0 (by decide)
        exact bX0_countAll_132 C hk_2 hk_30 hk_105 k_x0 hkm hW hZ _ (lv_sub hl [0, 1, 2, 3, 4, 5] rfl) hE
set_option maxRecDepth 20000 in
theorem bX0_countAll_78 {p : Program} {l : Launch} {e : Env} {s : State} {m : MethodId} {args : Array Value} {below : List Frame} {meth : Method} {c : Code} {X : Ec} {h0 : Hp} {o : Hp} {k_2 : Hp → Nat → Int32 → Option (Hp)} {k_30 : Hp → Nat → Int32 → Int32 → Int32 → Option (Hp)} {F : Nat} (C : Cx X p s m args meth c RX0 cX0_countAll 7 none "countAll") (hk_2 : ∀ (h : Hp) (x0 : Nat) (x1 : Int32) (H : Heap) (locs : List Loc), hK h x0 = 0 → Km h0 h → Wx X h H → va_S (aA (eB X)) s.heap H locs → ∀ (ls : Array Slot), lv_has ls 7 [(0, .ref x0), (1, .int x1)] → k_2 h x0 x1 = some o → W p l e (rm 5 145) s m args below meth c H locs 0 0 (MQ below (QV X h0 o) args s 0 0 (aA (eB X))) (F0 m 2 ls [])) (hk_30 : ∀ (h : Hp) (x0 : Nat) (x1 : Int32) (x2 : Int32) (x3 : Int32) (H : Heap) (locs : List Loc), hK h x0 = 0 → Km h0 h → Wx X h H → va_S (aA (eB X)) s.heap H locs → ∀ (ls : Array Slot), lv_has ls 7 [(0, .ref x0), (1, .int x1), (2, .int x2), (3, .int x3)] → k_30 h x0 x1 x2 x3 = some o → W p l e (rm 5 145) s m args below meth c H locs 0 0 (MQ below (QV X h0 o) args s 0 0 (aA (eB X))) (F0 m 30 ls [])) {h : Hp} {x0 : Nat} {x1 : Int32} {x2 : Int32} {x3 : Int32} {x4 : Int32} {t0 : Int32} {H : Heap} {locs : List Loc} (k_x0 : hK h x0 = 0) (hkm : Km h0 h) (hW : Wx X h H) (hZ : va_S (aA (eB X)) s.heap H locs) (ls : Array Slot) (hl : lv_has ls 7 [(0, .ref x0), (1, .int x1), (2, .int x2), (3, .int x3), (4, .int x4)]) (hE : sX0_countAll_78 F k_2 k_30 h x0 x1 x2 x3 x4 t0 = some o) : W p l e (rm 5 145) s m args below meth c H locs 0 0 (MQ below (QV X h0 o) args s 0 0 (aA (eB X))) (F0 m 78 ls [.int t0]) := by
  refine lv_istore (lv' := [(5, .int t0), (0, .ref x0), (1, .int x1), (2, .int x2), (3, .int x3), (4, .int x4)]) C.1 C.2.1 dX0_countAll_78 hl (by decide) rfl (fun ls hl => ?_)
  refine lv_iload C.1 C.2.1 dX0_countAll_80 (lv_at hl 0 rfl) ?_
  refine lv_if_eq (tgt := 138) C.1 C.2.1 dX0_countAll_82 (by decide) (fun c_1 => ?_) (fun c_1 => ?_)
  · have hE := br_p hE c_1
    exact bX0_countAll_138 C hk_2 hk_30 k_x0 hkm hW hZ _ (lv_sub hl [1, 2, 3, 4] rfl) hE
  · have hE := br_n hE c_1
    refine lv_aload_n C.1 C.2.1 dX0_countAll_85 rfl (lv_at hl 1 rfl) ?_
    refine lv_aload_n C.1 C.2.1 dX0_countAll_86 rfl (lv_at hl 1 rfl) ?_
    obtain ⟨r_2, er_2, hE⟩ := cl_e hE
    refine gf_X0_18 C hW k_x0 er_2 dX0_countAll_87 (fun k_r_2 => ?_)
    refine lv_iload_n C.1 C.2.1 dX0_countAll_90 rfl (lv_at hl 2 rfl) ?_
    obtain ⟨g_3, hE⟩ := gd_e hE
    refine y_iald C hW k_r_2 g_3 dX0_countAll_91 ?_
    refine lv_iload_n C.1 C.2.1 dX0_countAll_92 rfl (lv_at hl 4 rfl) ?_
    obtain ⟨o_4, eo_4, hE⟩ := cl_e hE
    refine x_kI (o := o_4) (z_runV (As := [.int (hI h r_2 x1.toNatClampNeg), .int x3]) (rest := []) C (ct_X0_layOut l X F k_x0 eo_4) cw_X0_111 hW hZ k_x0 (by decide) rfl rfl rfl hl.1 (Nat.le_of_ble_eq_true rfl) rfl dX0_countAll_93 ⟨Nat.le_of_ble_eq_true rfl, Nat.le_of_ble_eq_true rfl⟩ ⟨Nat.le_refl _, Nat.le_refl _⟩) hZ (fun _ _ hW km hZ => ?_)
    replace hkm := hkm.tr km
    replace k_x0 := km.at k_x0 (by decide)
    refine lv_if_ne (tgt := 102) C.1 C.2.1 dX0_countAll_96 (by decide) (fun c_5 => ?_) (fun c_5 => ?_)
    · have hE := br_n hE c_5
      refine lv_iconst (v := (0 : Int32)) C.1 C.2.1 dX0_countAll_102 (by decide) ?_
      refine lv_istore (lv' := [(6, .int (0 : Int32)), (5, .int t0), (0, .ref x0), (1, .int x1), (2, .int x2), (3, .int x3), (4, .int x4)]) C.1 C.2.1 dX0_countAll_103 hl (by decide) rfl (fun ls hl => ?_)
      exact bX0_countAll_105 C hk_2 hk_30 F k_x0 hkm hW hZ _ (lv_sub hl [2, 3, 4, 5, 6, 0] rfl) hE
    · have hE := br_p hE c_5
      refine lv_goto (tgt := 138) C.1 C.2.1 dX0_countAll_99 (by decide) ?_
      exact bX0_countAll_138 C hk_2 hk_30 k_x0 hkm hW hZ _ (lv_sub hl [1, 2, 3, 4] rfl) hE
set_option maxRecDepth 20000 in
theorem bX0_countAll_73 {p : Program} {l : Launch} {e : Env} {s : State} {m : MethodId} {args : Array Value} {below : List Frame} {meth : Method} {c : Code} {X : Ec} {h0 : Hp} {o : Hp} {k_2 : Hp → Nat → Int32 → Option (Hp)} {k_30 : Hp → Nat → Int32 → Int32 → Int32 → Option (Hp)} {F : Nat} (C : Cx X p s m args meth c RX0 cX0_countAll 7 none "countAll") (hk_2 : ∀ (h : Hp) (x0 : Nat) (x1 : Int32) (H : Heap) (locs : List Loc), hK h x0 = 0 → Km h0 h → Wx X h H → va_S (aA (eB X)) s.heap H locs → ∀ (ls : Array Slot), lv_has ls 7 [(0, .ref x0), (1, .int x1)] → k_2 h x0 x1 = some o → W p l e (rm 5 145) s m args below meth c H locs 0 0 (MQ below (QV X h0 o) args s 0 0 (aA (eB X))) (F0 m 2 ls [])) (hk_30 : ∀ (h : Hp) (x0 : Nat) (x1 : Int32) (x2 : Int32) (x3 : Int32) (H : Heap) (locs : List Loc), hK h x0 = 0 → Km h0 h → Wx X h H → va_S (aA (eB X)) s.heap H locs → ∀ (ls : Array Slot), lv_has ls 7 [(0, .ref x0), (1, .int x1), (2, .int x2), (3, .int x3)] → k_30 h x0 x1 x2 x3 = some o → W p l e (rm 5 145) s m args below meth c H locs 0 0 (MQ below (QV X h0 o) args s 0 0 (aA (eB X))) (F0 m 30 ls [])) {h : Hp} {x0 : Nat} {x1 : Int32} {x2 : Int32} {x3 : Int32} {x4 : Int32} {H : Heap} {locs : List Loc} (k_x0 : hK h x0 = 0) (hkm : Km h0 h) (hW : Wx X h H) (hZ : va_S (aA (eB X)) s.heap H locs) (ls : Array Slot) (hl : lv_has ls 7 [(0, .ref x0), (1, .int x1), (2, .int x2), (3, .int x3), (4, .int x4)]) (hE : sX0_countAll_73 F k_2 k_30 h x0 x1 x2 x3 x4 = some o) : W p l e (rm 5 145) s m args below meth c H locs 0 0 (MQ below (QV X h0 o) args s 0 0 (aA (eB X))) (F0 m 73 ls []) := by
  refine lv_iconst (v := (1 : Int32)) C.1 C.2.1 dX0_countAll_73 (by decide) ?_
  refine lv_goto (tgt := 78) C.1 C.2.1 dX0_countAll_74 (by decide) ?_
  exact bX0_countAll_78 C hk_2 hk_30 k_x0 hkm hW hZ _ (lv_sub hl [0, 1, 2, 3, 4] rfl) hE
set_option maxRecDepth 20000 in
theorem bX0_countAll_30 {p : Program} {l : Launch} {e : Env} {s : State} {m : MethodId} {args : Array Value} {below : List Frame} {meth : Method} {c : Code} {X : Ec} {h0 : Hp} {o : Hp} {k_2 : Hp → Nat → Int32 → Option (Hp)} {F : Nat} (C : Cx X p s m args meth c RX0 cX0_countAll 7 none "countAll") (hk_2 : ∀ (h : Hp) (x0 : Nat) (x1 : Int32) (H : Heap) (locs : List Loc), hK h x0 = 0 → Km h0 h → Wx X h H → va_S (aA (eB X)) s.heap H locs → ∀ (ls : Array Slot), lv_has ls 7 [(0, .ref x0), (1, .int x1)] → k_2 h x0 x1 = some o → W p l e (rm 5 145) s m args below meth c H locs 0 0 (MQ below (QV X h0 o) args s 0 0 (aA (eB X))) (F0 m 2 ls [])) : ∀ (f : Nat) {h : Hp} {x0 : Nat} {x1 : Int32} {x2 : Int32} {x3 : Int32} {H : Heap} {locs : List Loc} (k_x0 : hK h x0 = 0), Km h0 h → Wx X h H → va_S (aA (eB X)) s.heap H locs → ∀ (ls : Array Slot), lv_has ls 7 [(0, .ref x0), (1, .int x1), (2, .int x2), (3, .int x3)] → sX0_countAll_30 F k_2 f h x0 x1 x2 x3 = some o → W p l e (rm 5 145) s m args below meth c H locs 0 0 (MQ below (QV X h0 o) args s 0 0 (aA (eB X))) (F0 m 30 ls []) := by
  intro f
  induction f with
  | zero =>
    intro h x0 x1 x2 x3 H locs k_x0 hkm hW hZ ls hl hE
    rw [sX0_countAll_30] at hE
    cases hE
  | succ f ih =>
    intro h x0 x1 x2 x3 H locs k_x0 hkm hW hZ ls hl hE
    rw [sX0_countAll_30] at hE
    have hk_30 : ∀ (h : Hp) (x0 : Nat) (x1 : Int32) (x2 : Int32) (x3 : Int32) (H : Heap) (locs : List Loc), hK h x0 = 0 → Km h0 h → Wx X h H → va_S (aA (eB X)) s.heap H locs → ∀ (ls : Array Slot), lv_has ls 7 [(0, .ref x0), (1, .int x1), (2, .int x2), (3, .int x3)] → sX0_countAll_30 F k_2 f h x0 x1 x2 x3 = some o → W p l e (rm 5 145) s m args below meth c H locs 0 0 (MQ below (QV X h0 o) args s 0 0 (aA (eB X))) (F0 m 30 ls []) := fun h x0 x1 x2 x3 H locs k_x0 a b c ls hl hE => ih k_x0 a b c ls hl hE
    refine lv_iload_n C.1 C.2.1 dX0_countAll_30 rfl (lv_at hl 3 rfl) ?_
    refine lv_iload_n C.1 C.2.1 dX0_countAll_31 rfl (lv_at hl 2 rfl) ?_
    refine lv_icmp_ge (tgt := 144) C.1 C.2.1 dX0_countAll_32 (by decide) (fun c_1 => ?_) (fun c_1 => ?_)
    · have hE := br_p hE c_1
      obtain ⟨v_2, ev_2, hE⟩ := nm_e2 hE
      refine lv_iinc (v := v_2) (lv' := [(1, .int v_2), (0, .ref x0), (2, .int x2), (3, .int x3)]) C.1 C.2.1 dX0_countAll_144 hl (k := 1) rfl (by rw [ev_2]; rfl) (by decide) rfl (fun ls hl => ?_)
      refine lv_goto (tgt := 2) C.1 C.2.1 dX0_countAll_147 (by decide) ?_
      exact hk_2 _ _ _ _ _ k_x0 hkm hW hZ _ (lv_sub hl [1, 0] rfl) hE
    · have hE := br_n hE c_1
      refine lv_aload_n C.1 C.2.1 dX0_countAll_35 rfl (lv_at hl 0 rfl) ?_
      obtain ⟨r_3, er_3, hE⟩ := cl_e hE
      refine gf_X0_22 C hW k_x0 er_3 dX0_countAll_36 (fun k_r_3 => ?_)
      refine lv_iload_n C.1 C.2.1 dX0_countAll_39 rfl (lv_at hl 1 rfl) ?_
      obtain ⟨g_4, hE⟩ := gd_e hE
      refine y_iald C hW k_r_3 g_4 dX0_countAll_40 ?_
      refine lv_iconst (v := (2 : Int32)) C.1 C.2.1 dX0_countAll_41 (by decide) ?_
      refine lv_iload_n C.1 C.2.1 dX0_countAll_42 rfl (lv_at hl 3 rfl) ?_
      refine lv_imul C.1 C.2.1 dX0_countAll_43 ?_
      refine lv_iadd C.1 C.2.1 dX0_countAll_44 ?_
      obtain ⟨v_5, ev_5, hE⟩ := nm_e2 hE
      refine x_nmI ev_5 ?_
      refine lv_istore (lv' := [(4, .int v_5), (0, .ref x0), (1, .int x1), (2, .int x2), (3, .int x3)]) C.1 C.2.1 dX0_countAll_45 hl (by decide) rfl (fun ls hl => ?_)
      refine lv_aload_n C.1 C.2.1 dX0_countAll_47 rfl (lv_at hl 1 rfl) ?_
      obtain ⟨r_6, er_6, hE⟩ := cl_e hE
      refine gf_X0_31 C hW k_x0 er_6 dX0_countAll_48 (fun k_r_6 => ?_)
      refine lv_iload C.1 C.2.1 dX0_countAll_51 (lv_at hl 0 rfl) ?_
      obtain ⟨g_7, hE⟩ := gd_e hE
      refine y_iald C hW k_r_6 g_7 dX0_countAll_53 ?_
      refine lv_ldc (v := (4000000 : Int32)) C.1 C.2.1 C.2.2.2.1 (C.2.2.2.2.1 _ m_1662) dX0_countAll_54 ?_
      refine lv_icmp_ne (tgt := 73) C.1 C.2.1 dX0_countAll_56 (by decide) (fun c_8 => ?_) (fun c_8 => ?_)
      · have hE := br_n hE c_8
        exact bX0_countAll_73 C hk_2 hk_30 k_x0 hkm hW hZ _ (lv_sub hl [1, 2, 3, 4, 0] rfl) hE
      · have hE := br_p hE c_8
        refine lv_aload_n C.1 C.2.1 dX0_countAll_59 rfl (lv_at hl 1 rfl) ?_
        obtain ⟨r_9, er_9, hE⟩ := cl_e hE
        refine gf_X0_31 C hW k_x0 er_9 dX0_countAll_60 (fun k_r_9 => ?_)
        refine lv_iload C.1 C.2.1 dX0_countAll_63 (lv_at hl 0 rfl) ?_
        refine lv_iconst (v := (1 : Int32)) C.1 C.2.1 dX0_countAll_65 (by decide) ?_
        refine lv_iadd C.1 C.2.1 dX0_countAll_66 ?_
        obtain ⟨g_10, hE⟩ := gd_e hE
        refine y_iald C hW k_r_9 g_10 dX0_countAll_67 ?_
        refine lv_ldc (v := (4000000 : Int32)) C.1 C.2.1 C.2.2.2.1 (C.2.2.2.2.1 _ m_1662) dX0_countAll_68 ?_
        refine lv_icmp_eq (tgt := 77) C.1 C.2.1 dX0_countAll_70 (by decide) (fun c_11 => ?_) (fun c_11 => ?_)
        · have hE := br_p hE c_11
          refine lv_iconst (v := (0 : Int32)) C.1 C.2.1 dX0_countAll_77 (by decide) ?_
          exact bX0_countAll_78 C hk_2 hk_30 k_x0 hkm hW hZ _ (lv_sub hl [1, 2, 3, 4, 0] rfl) hE
        · have hE := br_n hE c_11
          exact bX0_countAll_73 C hk_2 hk_30 k_x0 hkm hW hZ _ (lv_sub hl [1, 2, 3, 4, 0] rfl) hE
set_option maxRecDepth 20000 in
theorem bX0_countAll_2 {p : Program} {l : Launch} {e : Env} {s : State} {m : MethodId} {args : Array Value} {below : List Frame} {meth : Method} {c : Code} {X : Ec} {h0 : Hp} {o : Hp} {F : Nat} (C : Cx X p s m args meth c RX0 cX0_countAll 7 none "countAll") : ∀ (f : Nat) {h : Hp} {x0 : Nat} {x1 : Int32} {H : Heap} {locs : List Loc} (k_x0 : hK h x0 = 0), Km h0 h → Wx X h H → va_S (aA (eB X)) s.heap H locs → ∀ (ls : Array Slot), lv_has ls 7 [(0, .ref x0), (1, .int x1)] → sX0_countAll_2 F f h x0 x1 = some o → W p l e (rm 5 145) s m args below meth c H locs 0 0 (MQ below (QV X h0 o) args s 0 0 (aA (eB X))) (F0 m 2 ls []) := by
  intro f
  induction f with
  | zero =>
    intro h x0 x1 H locs k_x0 hkm hW hZ ls hl hE
    rw [sX0_countAll_2] at hE
    cases hE
  | succ f ih =>
    intro h x0 x1 H locs k_x0 hkm hW hZ ls hl hE
    rw [sX0_countAll_2] at hE
    have hk_2 : ∀ (h : Hp) (x0 : Nat) (x1 : Int32) (H : Heap) (locs : List Loc), hK h x0 = 0 → Km h0 h → Wx X h H → va_S (aA (eB X)) s.heap H locs → ∀ (ls : Array Slot), lv_has ls 7 [(0, .ref x0), (1, .int x1)] → sX0_countAll_2 F f h x0 x1 = some o → W p l e (rm 5 145) s m args below meth c H locs 0 0 (MQ below (QV X h0 o) args s 0 0 (aA (eB X))) (F0 m 2 ls []) := fun h x0 x1 H locs k_x0 a b c ls hl hE => ih k_x0 a b c ls hl hE
    refine lv_iload_n C.1 C.2.1 dX0_countAll_2 rfl (lv_at hl 1 rfl) ?_
    refine lv_aload_n C.1 C.2.1 dX0_countAll_3 rfl (lv_at hl 0 rfl) ?_
    refine gf_X0_129 C hW k_x0 dX0_countAll_4 ?_
    refine lv_icmp_ge (tgt := 150) C.1 C.2.1 dX0_countAll_7 (by decide) (fun c_1 => ?_) (fun c_1 => ?_)
    · have hE := br_p hE c_1
      exact x_vret C rfl hW hZ hkm hE dX0_countAll_150
    · have hE := br_n hE c_1
      refine lv_aload_n C.1 C.2.1 dX0_countAll_10 rfl (lv_at hl 0 rfl) ?_
      obtain ⟨r_2, er_2, hE⟩ := cl_e hE
      refine gf_X0_22 C hW k_x0 er_2 dX0_countAll_11 (fun k_r_2 => ?_)
      refine lv_iload_n C.1 C.2.1 dX0_countAll_14 rfl (lv_at hl 1 rfl) ?_
      refine lv_iconst (v := (1 : Int32)) C.1 C.2.1 dX0_countAll_15 (by decide) ?_
      refine lv_iadd C.1 C.2.1 dX0_countAll_16 ?_
      obtain ⟨g_3, hE⟩ := gd_e hE
      refine y_iald C hW k_r_2 g_3 dX0_countAll_17 ?_
      refine lv_aload_n C.1 C.2.1 dX0_countAll_18 rfl (lv_at hl 0 rfl) ?_
      obtain ⟨r_4, er_4, hE⟩ := cl_e hE
      refine gf_X0_22 C hW k_x0 er_4 dX0_countAll_19 (fun k_r_4 => ?_)
      refine lv_iload_n C.1 C.2.1 dX0_countAll_22 rfl (lv_at hl 1 rfl) ?_
      obtain ⟨g_5, hE⟩ := gd_e hE
      refine y_iald C hW k_r_4 g_5 dX0_countAll_23 ?_
      refine lv_isub C.1 C.2.1 dX0_countAll_24 ?_
      refine lv_iconst (v := (1 : Int32)) C.1 C.2.1 dX0_countAll_25 (by decide) ?_
      refine lv_ishr C.1 C.2.1 dX0_countAll_26 ?_
      obtain ⟨v_6, ev_6, hE⟩ := nm_e2 hE
      refine x_nmI ev_6 ?_
      refine lv_istore_n (lv' := [(2, .int v_6), (0, .ref x0), (1, .int x1)]) C.1 C.2.1 dX0_countAll_27 rfl hl (by decide) rfl (fun ls hl => ?_)
      refine lv_iconst (v := (0 : Int32)) C.1 C.2.1 dX0_countAll_28 (by decide) ?_
      refine lv_istore_n (lv' := [(3, .int (0 : Int32)), (2, .int v_6), (0, .ref x0), (1, .int x1)]) C.1 C.2.1 dX0_countAll_29 rfl hl (by decide) rfl (fun ls hl => ?_)
      exact bX0_countAll_30 C hk_2 F k_x0 hkm hW hZ _ (lv_sub hl [2, 3, 1, 0] rfl) hE
set_option maxRecDepth 20000 in
theorem ct_X0_countAll (l : Launch) (X : Ec) (F : Nat) {h : Hp} {x0 : Nat} {o : Hp} (k_x0 : hK h x0 = 0) (hE : sX0_countAll F h x0 = some o) : MetV l yX0_countAll cX0_countAll 7 none 5 145 X [.ref x0] h o := by
  refine x_met (by decide) (Nat.le_of_ble_eq_true rfl) ?_
  intro p e s m below meth c ls C hl hW hZ
  have hl : lv_has ls 7 [(0, .ref x0)] := hl
  have hkm : Km h h := Km.rf h
  refine lv_iconst (v := (0 : Int32)) C.1 C.2.1 dX0_countAll_0 (by decide) ?_
  refine lv_istore_n (lv' := [(1, .int (0 : Int32)), (0, .ref x0)]) C.1 C.2.1 dX0_countAll_1 rfl hl (by decide) rfl (fun ls hl => ?_)
  exact bX0_countAll_2 C F k_x0 hkm hW hZ _ (lv_sub hl [1, 0] rfl) hE
theorem dX0_settleCount_0 : decode cX0_settleCount 0 = .ok (.aload_n 0, 1) := by decide +kernel
theorem dX0_settleCount_1 : decode cX0_settleCount 1 = .ok (.getfield 34, 3) := by decide +kernel
theorem dX0_settleCount_4 : decode cX0_settleCount 4 = .ok (.iload_n 1, 1) := by decide +kernel
theorem dX0_settleCount_5 : decode cX0_settleCount 5 = .ok (.iaload, 1) := by decide +kernel
theorem dX0_settleCount_6 : decode cX0_settleCount 6 = .ok (.sipush 4096, 3) := by decide +kernel
theorem dX0_settleCount_9 : decode cX0_settleCount 9 = .ok (.idiv, 1) := by decide +kernel
theorem dX0_settleCount_10 : decode cX0_settleCount 10 = .ok (.istore_n 2, 1) := by decide +kernel
theorem dX0_settleCount_11 : decode cX0_settleCount 11 = .ok (.aload_n 0, 1) := by decide +kernel
theorem dX0_settleCount_12 : decode cX0_settleCount 12 = .ok (.getfield 34, 3) := by decide +kernel
theorem dX0_settleCount_15 : decode cX0_settleCount 15 = .ok (.iload_n 1, 1) := by decide +kernel
theorem dX0_settleCount_16 : decode cX0_settleCount 16 = .ok (.iaload, 1) := by decide +kernel
theorem dX0_settleCount_17 : decode cX0_settleCount 17 = .ok (.sipush 4095, 3) := by decide +kernel
theorem dX0_settleCount_20 : decode cX0_settleCount 20 = .ok (.iand, 1) := by decide +kernel
theorem dX0_settleCount_21 : decode cX0_settleCount 21 = .ok (.istore_n 3, 1) := by decide +kernel
theorem dX0_settleCount_22 : decode cX0_settleCount 22 = .ok (.aload_n 0, 1) := by decide +kernel
theorem dX0_settleCount_23 : decode cX0_settleCount 23 = .ok (.getfield 34, 3) := by decide +kernel
theorem dX0_settleCount_26 : decode cX0_settleCount 26 = .ok (.iload_n 1, 1) := by decide +kernel
theorem dX0_settleCount_27 : decode cX0_settleCount 27 = .ok (.aload_n 0, 1) := by decide +kernel
theorem dX0_settleCount_28 : decode cX0_settleCount 28 = .ok (.getfield 40, 3) := by decide +kernel
theorem dX0_settleCount_31 : decode cX0_settleCount 31 = .ok (.iconst 2, 1) := by decide +kernel
theorem dX0_settleCount_32 : decode cX0_settleCount 32 = .ok (.invokevirtual 212, 3) := by decide +kernel
theorem dX0_settleCount_35 : decode cX0_settleCount 35 = .ok (.ifCond .eq 14, 3) := by decide +kernel
theorem dX0_settleCount_38 : decode cX0_settleCount 38 = .ok (.iload_n 2, 1) := by decide +kernel
theorem dX0_settleCount_39 : decode cX0_settleCount 39 = .ok (.ifCond .le 10, 3) := by decide +kernel
theorem dX0_settleCount_42 : decode cX0_settleCount 42 = .ok (.iload_n 2, 1) := by decide +kernel
theorem dX0_settleCount_43 : decode cX0_settleCount 43 = .ok (.ldc 215, 2) := by decide +kernel
theorem dX0_settleCount_45 : decode cX0_settleCount 45 = .ok (.ior, 1) := by decide +kernel
theorem dX0_settleCount_46 : decode cX0_settleCount 46 = .ok (.goto 6, 3) := by decide +kernel
theorem dX0_settleCount_49 : decode cX0_settleCount 49 = .ok (.iload_n 2, 1) := by decide +kernel
theorem dX0_settleCount_50 : decode cX0_settleCount 50 = .ok (.iload_n 3, 1) := by decide +kernel
theorem dX0_settleCount_51 : decode cX0_settleCount 51 = .ok (.iadd, 1) := by decide +kernel
theorem dX0_settleCount_52 : decode cX0_settleCount 52 = .ok (.iastore, 1) := by decide +kernel
theorem dX0_settleCount_53 : decode cX0_settleCount 53 = .ok (.return_, 1) := by decide +kernel
def sX0_settleCount_52 (h : Hp) (t0 : Int32) (t1 : Int32) (t2 : Nat) : Option (Hp) := gd (inB t1 (hN h t2)) <| nm (wI h t2 t1.toNatClampNeg t0) fun h_2 => some h_2
def sX0_settleCount_49 (h : Hp) (x2 : Int32) (x3 : Int32) (t0 : Int32) (t1 : Nat) : Option (Hp) := sX0_settleCount_52  h (x2 + x3) t0 t1
def sX0_settleCount (h : Hp) (x0 : Nat) (x1 : Int32) : Option (Hp) := cl (hR h x0 12) fun r_1 => gd (inB x1 (hN h r_1)) <| nm ((hI h r_1 x1.toNatClampNeg) / (4096 : Int32)) fun v_3 => cl (hR h x0 12) fun r_4 => gd (inB x1 (hN h r_4)) <| nm ((hI h r_4 x1.toNatClampNeg) &&& (4095 : Int32)) fun v_6 => cl (hR h x0 12) fun r_7 => cl (hR h x0 0) fun r_8 => cl (sX1_has h r_8 (2 : Int32)) fun o_9 => br (o_9.1 = 0) (sX0_settleCount_49  o_9.2 v_3 v_6 x1 r_7) (br (v_3 ≤ 0) (sX0_settleCount_49  o_9.2 v_3 v_6 x1 r_7) (sX0_settleCount_52  o_9.2 (v_3 ||| (16777216 : Int32)) x1 r_7))
set_option maxRecDepth 20000 in
theorem moX0_settleCount_52 {o : Hp} {h : Hp} {t0 : Int32} {t1 : Int32} {t2 : Nat} (hE : sX0_settleCount_52 h  t0 t1 t2 = some o) : Le h o := by
  obtain ⟨g_1, hE⟩ := gd_e hE
  obtain ⟨h_2, eh_2, hE⟩ := nm_e2 hE
  refine (le_I eh_2).tr ?_
  exact le_some1 hE
set_option maxRecDepth 20000 in
theorem moX0_settleCount_49 {o : Hp} {h : Hp} {x2 : Int32} {x3 : Int32} {t0 : Int32} {t1 : Nat} (hE : sX0_settleCount_49 h x2 x3 t0 t1 = some o) : Le h o := by
  exact moX0_settleCount_52 hE
set_option maxRecDepth 20000 in
theorem moX0_settleCount {o : Hp} {h : Hp} {x0 : Nat} {x1 : Int32} (hE : sX0_settleCount h x0 x1 = some o) : Le h o := by
  obtain ⟨r_1, er_1, hE⟩ := cl_e hE
  obtain ⟨g_2, hE⟩ := gd_e hE
  obtain ⟨v_3, ev_3, hE⟩ := nm_e2 hE
  obtain ⟨r_4, er_4, hE⟩ := cl_e hE
  obtain ⟨g_5, hE⟩ := gd_e hE
  obtain ⟨v_6, ev_6, hE⟩ := nm_e2 hE
  obtain ⟨r_7, er_7, hE⟩ := cl_e hE
  obtain ⟨r_8, er_8, hE⟩ := cl_e hE
  obtain ⟨o_9, eo_9, hE⟩ := cl_e hE
  refine (moX1_has eo_9).tr ?_
  rcases br_e hE with ⟨_, hE⟩ | ⟨_, hE⟩
  · exact moX0_settleCount_49 hE
  · rcases br_e hE with ⟨_, hE⟩ | ⟨_, hE⟩
    · exact moX0_settleCount_49 hE
    · exact moX0_settleCount_52 hE
set_option maxRecDepth 20000 in
theorem bX0_settleCount_52 {p : Program} {l : Launch} {e : Env} {s : State} {m : MethodId} {args : Array Value} {below : List Frame} {meth : Method} {c : Code} {X : Ec} {h0 : Hp} {o : Hp} (C : Cx X p s m args meth c RX0 cX0_settleCount 4 none "settleCount") {h : Hp} {t0 : Int32} {t1 : Int32} {t2 : Nat} {H : Heap} {locs : List Loc} (k_t2 : hK h t2 = 17) (hkm : Km h0 h) (hW : Wx X h H) (hZ : va_S (aA (eB X)) s.heap H locs) (ls : Array Slot) (hl : lv_has ls 4 []) (hE : sX0_settleCount_52 h  t0 t1 t2 = some o) : W p l e (rm 1 21) s m args below meth c H locs 0 0 (MQ below (QV X h0 o) args s 0 0 (aA (eB X))) (F0 m 52 ls [.int t0, .int t1, .ref t2]) := by
  obtain ⟨g_1, hE⟩ := gd_e hE
  obtain ⟨h_2, eh_2, hE⟩ := nm_e2 hE
  refine y_iast C hW hZ k_t2 g_1 eh_2 dX0_settleCount_52 (fun _ _ hW km hZ => ?_)
  replace hkm := hkm.tr km
  exact x_vret C rfl hW hZ hkm hE dX0_settleCount_53
set_option maxRecDepth 20000 in
theorem bX0_settleCount_49 {p : Program} {l : Launch} {e : Env} {s : State} {m : MethodId} {args : Array Value} {below : List Frame} {meth : Method} {c : Code} {X : Ec} {h0 : Hp} {o : Hp} (C : Cx X p s m args meth c RX0 cX0_settleCount 4 none "settleCount") {h : Hp} {x2 : Int32} {x3 : Int32} {t0 : Int32} {t1 : Nat} {H : Heap} {locs : List Loc} (k_t1 : hK h t1 = 17) (hkm : Km h0 h) (hW : Wx X h H) (hZ : va_S (aA (eB X)) s.heap H locs) (ls : Array Slot) (hl : lv_has ls 4 [(2, .int x2), (3, .int x3)]) (hE : sX0_settleCount_49 h x2 x3 t0 t1 = some o) : W p l e (rm 1 21) s m args below meth c H locs 0 0 (MQ below (QV X h0 o) args s 0 0 (aA (eB X))) (F0 m 49 ls [.int t0, .ref t1]) := by
  refine lv_iload_n C.1 C.2.1 dX0_settleCount_49 rfl (lv_at hl 0 rfl) ?_
  refine lv_iload_n C.1 C.2.1 dX0_settleCount_50 rfl (lv_at hl 1 rfl) ?_
  refine lv_iadd C.1 C.2.1 dX0_settleCount_51 ?_
  exact bX0_settleCount_52 C k_t1 hkm hW hZ _ (lv_sub hl [] rfl) hE
set_option maxRecDepth 20000 in
theorem ct_X0_settleCount (l : Launch) (X : Ec) {h : Hp} {x0 : Nat} {x1 : Int32} {o : Hp} (k_x0 : hK h x0 = 0) (hE : sX0_settleCount h x0 x1 = some o) : MetV l yX0_settleCount cX0_settleCount 4 none 1 21 X [.ref x0, .int x1] h o := by
  refine x_met (by decide) (Nat.le_of_ble_eq_true rfl) ?_
  intro p e s m below meth c ls C hl hW hZ
  have hl : lv_has ls 4 [(0, .ref x0), (1, .int x1)] := hl
  have hkm : Km h h := Km.rf h
  refine lv_aload_n C.1 C.2.1 dX0_settleCount_0 rfl (lv_at hl 0 rfl) ?_
  obtain ⟨r_1, er_1, hE⟩ := cl_e hE
  refine gf_X0_34 C hW k_x0 er_1 dX0_settleCount_1 (fun k_r_1 => ?_)
  refine lv_iload_n C.1 C.2.1 dX0_settleCount_4 rfl (lv_at hl 1 rfl) ?_
  obtain ⟨g_2, hE⟩ := gd_e hE
  refine y_iald C hW k_r_1 g_2 dX0_settleCount_5 ?_
  refine lv_sipush (v := (4096 : Int32)) C.1 C.2.1 dX0_settleCount_6 (by decide) ?_
  refine lv_idiv C.1 C.2.1 dX0_settleCount_9 (by decide) ?_
  obtain ⟨v_3, ev_3, hE⟩ := nm_e2 hE
  refine x_nmI ev_3 ?_
  refine lv_istore_n (lv' := [(2, .int v_3), (0, .ref x0), (1, .int x1)]) C.1 C.2.1 dX0_settleCount_10 rfl hl (by decide) rfl (fun ls hl => ?_)
  refine lv_aload_n C.1 C.2.1 dX0_settleCount_11 rfl (lv_at hl 1 rfl) ?_
  obtain ⟨r_4, er_4, hE⟩ := cl_e hE
  refine gf_X0_34 C hW k_x0 er_4 dX0_settleCount_12 (fun k_r_4 => ?_)
  refine lv_iload_n C.1 C.2.1 dX0_settleCount_15 rfl (lv_at hl 2 rfl) ?_
  obtain ⟨g_5, hE⟩ := gd_e hE
  refine y_iald C hW k_r_4 g_5 dX0_settleCount_16 ?_
  refine lv_sipush (v := (4095 : Int32)) C.1 C.2.1 dX0_settleCount_17 (by decide) ?_
  refine lv_iand C.1 C.2.1 dX0_settleCount_20 ?_
  obtain ⟨v_6, ev_6, hE⟩ := nm_e2 hE
  refine x_nmI ev_6 ?_
  refine lv_istore_n (lv' := [(3, .int v_6), (2, .int v_3), (0, .ref x0), (1, .int x1)]) C.1 C.2.1 dX0_settleCount_21 rfl hl (by decide) rfl (fun ls hl => ?_)
  refine lv_aload_n C.1 C.2.1 dX0_settleCount_22 rfl (lv_at hl 2 rfl) ?_
  obtain ⟨r_7, er_7, hE⟩ := cl_e hE
  refine gf_X0_34 C hW k_x0 er_7 dX0_settleCount_23 (fun k_r_7 => ?_)
  refine lv_iload_n C.1 C.2.1 dX0_settleCount_26 rfl (lv_at hl 3 rfl) ?_
  refine lv_aload_n C.1 C.2.1 dX0_settleCount_27 rfl (lv_at hl 2 rfl) ?_
  obtain ⟨r_8, er_8, hE⟩ := cl_e hE
  refine gf_X0_40 C hW k_x0 er_8 dX0_settleCount_28 (fun k_r_8 => ?_)
  refine lv_iconst (v := (2 : Int32)) C.1 C.2.1 dX0_settleCount_31 (by decide) ?_
  obtain ⟨o_9, eo_9, hE⟩ := cl_e hE
  refine x_kI (o := o_9) (z_runV (As := [.int (2 : Int32)]) (rest := [.int x1, .ref r_7]) C (ct_X1_has l X k_r_8 eo_9) cw_X0_212 hW hZ k_r_8 (by decide) rfl rfl rfl hl.1 (Nat.le_of_ble_eq_true rfl) rfl dX0_settleCount_32 ⟨Nat.le_of_ble_eq_true rfl, Nat.le_of_ble_eq_true rfl⟩ ⟨Nat.le_refl _, Nat.le_refl _⟩) hZ (fun _ _ hW km hZ => ?_)
  replace hkm := hkm.tr km
  replace k_x0 := km.at k_x0 (by decide)
  replace k_r_7 := km.at k_r_7 (by decide)
  refine lv_if_eq (tgt := 49) C.1 C.2.1 dX0_settleCount_35 (by decide) (fun c_10 => ?_) (fun c_10 => ?_)
  · have hE := br_p hE c_10
    exact bX0_settleCount_49 C k_r_7 hkm hW hZ _ (lv_sub hl [1, 0] rfl) hE
  · have hE := br_n hE c_10
    refine lv_iload_n C.1 C.2.1 dX0_settleCount_38 rfl (lv_at hl 1 rfl) ?_
    refine lv_if_le (tgt := 49) C.1 C.2.1 dX0_settleCount_39 (by decide) (fun c_11 => ?_) (fun c_11 => ?_)
    · have hE := br_p hE c_11
      exact bX0_settleCount_49 C k_r_7 hkm hW hZ _ (lv_sub hl [1, 0] rfl) hE
    · have hE := br_n hE c_11
      refine lv_iload_n C.1 C.2.1 dX0_settleCount_42 rfl (lv_at hl 1 rfl) ?_
      refine lv_ldc (v := (16777216 : Int32)) C.1 C.2.1 C.2.2.2.1 (C.2.2.2.2.1 _ m_1718) dX0_settleCount_43 ?_
      refine lv_ior C.1 C.2.1 dX0_settleCount_45 ?_
      refine lv_goto (tgt := 52) C.1 C.2.1 dX0_settleCount_46 (by decide) ?_
      exact bX0_settleCount_52 C k_r_7 hkm hW hZ _ (lv_sub hl [] rfl) hE
set_option maxRecDepth 100000 in
theorem ms_111 : Cond.selects RX0 yX0_settleCount yX0_settleCount ∈ W0 := w0_in (List.mem_append_left _ (List.mem_of_getElem? (i := 111) rfl)) rfl
set_option maxRecDepth 100000 in
theorem m_1729 : Cond.methodLink RX0 206 yX0_settleCount ∈ W0 := w0_in (List.mem_append_right _ (List.mem_of_getElem? (i := 1729) rfl)) rfl
set_option maxRecDepth 100000 in
theorem m_1731 : Cond.instanceMethod yX0_settleCount ∈ W0 := w0_in (List.mem_append_right _ (List.mem_of_getElem? (i := 1731) rfl)) rfl
set_option maxRecDepth 100000 in
theorem m_1732 : Cond.code yX0_settleCount cX0_settleCount 4 none ∈ W0 := w0_in (List.mem_append_right _ (List.mem_of_getElem? (i := 1732) rfl)) rfl
theorem cw_X0_206 : cwd RX0 206 yX0_settleCount cX0_settleCount 4 none false 1 := ⟨m_1732, m_1729, m_13, ⟨m_1731, ms_111⟩, by decide, by decide, by decide +kernel⟩
theorem dX0_queueEnds_0 : decode cX0_queueEnds 0 = .ok (.iconst 0, 1) := by decide +kernel
theorem dX0_queueEnds_1 : decode cX0_queueEnds 1 = .ok (.istore_n 1, 1) := by decide +kernel
theorem dX0_queueEnds_2 : decode cX0_queueEnds 2 = .ok (.iload_n 1, 1) := by decide +kernel
theorem dX0_queueEnds_3 : decode cX0_queueEnds 3 = .ok (.aload_n 0, 1) := by decide +kernel
theorem dX0_queueEnds_4 : decode cX0_queueEnds 4 = .ok (.getfield 129, 3) := by decide +kernel
theorem dX0_queueEnds_7 : decode cX0_queueEnds 7 = .ok (.if_icmp .ge 188, 3) := by decide +kernel
theorem dX0_queueEnds_10 : decode cX0_queueEnds 10 = .ok (.aload_n 0, 1) := by decide +kernel
theorem dX0_queueEnds_11 : decode cX0_queueEnds 11 = .ok (.getfield 22, 3) := by decide +kernel
theorem dX0_queueEnds_14 : decode cX0_queueEnds 14 = .ok (.iload_n 1, 1) := by decide +kernel
theorem dX0_queueEnds_15 : decode cX0_queueEnds 15 = .ok (.iaload, 1) := by decide +kernel
theorem dX0_queueEnds_16 : decode cX0_queueEnds 16 = .ok (.istore_n 2, 1) := by decide +kernel
theorem dX0_queueEnds_17 : decode cX0_queueEnds 17 = .ok (.iload_n 2, 1) := by decide +kernel
theorem dX0_queueEnds_18 : decode cX0_queueEnds 18 = .ok (.aload_n 0, 1) := by decide +kernel
theorem dX0_queueEnds_19 : decode cX0_queueEnds 19 = .ok (.getfield 22, 3) := by decide +kernel
theorem dX0_queueEnds_22 : decode cX0_queueEnds 22 = .ok (.iload_n 1, 1) := by decide +kernel
theorem dX0_queueEnds_23 : decode cX0_queueEnds 23 = .ok (.iconst 1, 1) := by decide +kernel
theorem dX0_queueEnds_24 : decode cX0_queueEnds 24 = .ok (.iadd, 1) := by decide +kernel
theorem dX0_queueEnds_25 : decode cX0_queueEnds 25 = .ok (.iaload, 1) := by decide +kernel
theorem dX0_queueEnds_26 : decode cX0_queueEnds 26 = .ok (.if_icmp .ge 163, 3) := by decide +kernel
theorem dX0_queueEnds_29 : decode cX0_queueEnds 29 = .ok (.aload_n 0, 1) := by decide +kernel
theorem dX0_queueEnds_30 : decode cX0_queueEnds 30 = .ok (.getfield 31, 3) := by decide +kernel
theorem dX0_queueEnds_33 : decode cX0_queueEnds 33 = .ok (.iload_n 2, 1) := by decide +kernel
theorem dX0_queueEnds_34 : decode cX0_queueEnds 34 = .ok (.iaload, 1) := by decide +kernel
theorem dX0_queueEnds_35 : decode cX0_queueEnds 35 = .ok (.ldc 97, 2) := by decide +kernel
theorem dX0_queueEnds_37 : decode cX0_queueEnds 37 = .ok (.if_icmp .ne 8, 3) := by decide +kernel
theorem dX0_queueEnds_40 : decode cX0_queueEnds 40 = .ok (.aload_n 0, 1) := by decide +kernel
theorem dX0_queueEnds_41 : decode cX0_queueEnds 41 = .ok (.iload_n 2, 1) := by decide +kernel
theorem dX0_queueEnds_42 : decode cX0_queueEnds 42 = .ok (.invokevirtual 206, 3) := by decide +kernel
theorem dX0_queueEnds_45 : decode cX0_queueEnds 45 = .ok (.aload_n 0, 1) := by decide +kernel
theorem dX0_queueEnds_46 : decode cX0_queueEnds 46 = .ok (.getfield 31, 3) := by decide +kernel
theorem dX0_queueEnds_49 : decode cX0_queueEnds 49 = .ok (.iload_n 2, 1) := by decide +kernel
theorem dX0_queueEnds_50 : decode cX0_queueEnds 50 = .ok (.iaload, 1) := by decide +kernel
theorem dX0_queueEnds_51 : decode cX0_queueEnds 51 = .ok (.ldc 97, 2) := by decide +kernel
theorem dX0_queueEnds_53 : decode cX0_queueEnds 53 = .ok (.if_icmp .ne 20, 3) := by decide +kernel
theorem dX0_queueEnds_56 : decode cX0_queueEnds 56 = .ok (.aload_n 0, 1) := by decide +kernel
theorem dX0_queueEnds_57 : decode cX0_queueEnds 57 = .ok (.getfield 34, 3) := by decide +kernel
theorem dX0_queueEnds_60 : decode cX0_queueEnds 60 = .ok (.iload_n 2, 1) := by decide +kernel
theorem dX0_queueEnds_61 : decode cX0_queueEnds 61 = .ok (.iaload, 1) := by decide +kernel
theorem dX0_queueEnds_62 : decode cX0_queueEnds 62 = .ok (.sipush 4095, 3) := by decide +kernel
theorem dX0_queueEnds_65 : decode cX0_queueEnds 65 = .ok (.iand, 1) := by decide +kernel
theorem dX0_queueEnds_66 : decode cX0_queueEnds 66 = .ok (.ifCond .ne 7, 3) := by decide +kernel
theorem dX0_queueEnds_69 : decode cX0_queueEnds 69 = .ok (.iconst 1, 1) := by decide +kernel
theorem dX0_queueEnds_70 : decode cX0_queueEnds 70 = .ok (.goto 4, 3) := by decide +kernel
theorem dX0_queueEnds_73 : decode cX0_queueEnds 73 = .ok (.iconst 0, 1) := by decide +kernel
theorem dX0_queueEnds_74 : decode cX0_queueEnds 74 = .ok (.istore_n 3, 1) := by decide +kernel
theorem dX0_queueEnds_75 : decode cX0_queueEnds 75 = .ok (.iload_n 3, 1) := by decide +kernel
theorem dX0_queueEnds_76 : decode cX0_queueEnds 76 = .ok (.ifCond .eq 80, 3) := by decide +kernel
theorem dX0_queueEnds_79 : decode cX0_queueEnds 79 = .ok (.aload_n 0, 1) := by decide +kernel
theorem dX0_queueEnds_80 : decode cX0_queueEnds 80 = .ok (.aload_n 0, 1) := by decide +kernel
theorem dX0_queueEnds_81 : decode cX0_queueEnds 81 = .ok (.getfield 18, 3) := by decide +kernel
theorem dX0_queueEnds_84 : decode cX0_queueEnds 84 = .ok (.iload_n 1, 1) := by decide +kernel
theorem dX0_queueEnds_85 : decode cX0_queueEnds 85 = .ok (.iaload, 1) := by decide +kernel
theorem dX0_queueEnds_86 : decode cX0_queueEnds 86 = .ok (.iload_n 2, 1) := by decide +kernel
theorem dX0_queueEnds_87 : decode cX0_queueEnds 87 = .ok (.aload_n 0, 1) := by decide +kernel
theorem dX0_queueEnds_88 : decode cX0_queueEnds 88 = .ok (.getfield 22, 3) := by decide +kernel
theorem dX0_queueEnds_91 : decode cX0_queueEnds 91 = .ok (.iload_n 1, 1) := by decide +kernel
theorem dX0_queueEnds_92 : decode cX0_queueEnds 92 = .ok (.iaload, 1) := by decide +kernel
theorem dX0_queueEnds_93 : decode cX0_queueEnds 93 = .ok (.isub, 1) := by decide +kernel
theorem dX0_queueEnds_94 : decode cX0_queueEnds 94 = .ok (.iconst 1, 1) := by decide +kernel
theorem dX0_queueEnds_95 : decode cX0_queueEnds 95 = .ok (.ishr, 1) := by decide +kernel
theorem dX0_queueEnds_96 : decode cX0_queueEnds 96 = .ok (.invokevirtual 111, 3) := by decide +kernel
theorem dX0_queueEnds_99 : decode cX0_queueEnds 99 = .ok (.ifCond .eq 57, 3) := by decide +kernel
theorem dX0_queueEnds_102 : decode cX0_queueEnds 102 = .ok (.aload_n 0, 1) := by decide +kernel
theorem dX0_queueEnds_103 : decode cX0_queueEnds 103 = .ok (.getfield 14, 3) := by decide +kernel
theorem dX0_queueEnds_106 : decode cX0_queueEnds 106 = .ok (.iload_n 2, 1) := by decide +kernel
theorem dX0_queueEnds_107 : decode cX0_queueEnds 107 = .ok (.aload_n 0, 1) := by decide +kernel
theorem dX0_queueEnds_108 : decode cX0_queueEnds 108 = .ok (.getfield 22, 3) := by decide +kernel
theorem dX0_queueEnds_111 : decode cX0_queueEnds 111 = .ok (.iload_n 1, 1) := by decide +kernel
theorem dX0_queueEnds_112 : decode cX0_queueEnds 112 = .ok (.iaload, 1) := by decide +kernel
theorem dX0_queueEnds_113 : decode cX0_queueEnds 113 = .ok (.isub, 1) := by decide +kernel
theorem dX0_queueEnds_114 : decode cX0_queueEnds 114 = .ok (.iconst 1, 1) := by decide +kernel
theorem dX0_queueEnds_115 : decode cX0_queueEnds 115 = .ok (.iand, 1) := by decide +kernel
theorem dX0_queueEnds_116 : decode cX0_queueEnds 116 = .ok (.putfield 184, 3) := by decide +kernel
theorem dX0_queueEnds_119 : decode cX0_queueEnds 119 = .ok (.aload_n 0, 1) := by decide +kernel
theorem dX0_queueEnds_120 : decode cX0_queueEnds 120 = .ok (.getfield 31, 3) := by decide +kernel
theorem dX0_queueEnds_123 : decode cX0_queueEnds 123 = .ok (.iload_n 2, 1) := by decide +kernel
theorem dX0_queueEnds_124 : decode cX0_queueEnds 124 = .ok (.aload_n 0, 1) := by decide +kernel
theorem dX0_queueEnds_125 : decode cX0_queueEnds 125 = .ok (.aload_n 0, 1) := by decide +kernel
theorem dX0_queueEnds_126 : decode cX0_queueEnds 126 = .ok (.getfield 48, 3) := by decide +kernel
theorem dX0_queueEnds_129 : decode cX0_queueEnds 129 = .ok (.aload_n 0, 1) := by decide +kernel
theorem dX0_queueEnds_130 : decode cX0_queueEnds 130 = .ok (.getfield 14, 3) := by decide +kernel
theorem dX0_queueEnds_133 : decode cX0_queueEnds 133 = .ok (.aload_n 0, 1) := by decide +kernel
theorem dX0_queueEnds_134 : decode cX0_queueEnds 134 = .ok (.getfield 14, 3) := by decide +kernel
theorem dX0_queueEnds_137 : decode cX0_queueEnds 137 = .ok (.getfield 184, 3) := by decide +kernel
theorem dX0_queueEnds_140 : decode cX0_queueEnds 140 = .ok (.invokevirtual 187, 3) := by decide +kernel
theorem dX0_queueEnds_143 : decode cX0_queueEnds 143 = .ok (.ifCond .eq 7, 3) := by decide +kernel
theorem dX0_queueEnds_146 : decode cX0_queueEnds 146 = .ok (.iconst 5, 1) := by decide +kernel
theorem dX0_queueEnds_147 : decode cX0_queueEnds 147 = .ok (.goto 5, 3) := by decide +kernel
theorem dX0_queueEnds_150 : decode cX0_queueEnds 150 = .ok (.bipush 6, 2) := by decide +kernel
theorem dX0_queueEnds_152 : decode cX0_queueEnds 152 = .ok (.invokevirtual 197, 3) := by decide +kernel
theorem dX0_queueEnds_155 : decode cX0_queueEnds 155 = .ok (.iastore, 1) := by decide +kernel
theorem dX0_queueEnds_156 : decode cX0_queueEnds 156 = .ok (.aload_n 0, 1) := by decide +kernel
theorem dX0_queueEnds_157 : decode cX0_queueEnds 157 = .ok (.getfield 31, 3) := by decide +kernel
theorem dX0_queueEnds_160 : decode cX0_queueEnds 160 = .ok (.iload_n 2, 1) := by decide +kernel
theorem dX0_queueEnds_161 : decode cX0_queueEnds 161 = .ok (.iaload, 1) := by decide +kernel
theorem dX0_queueEnds_162 : decode cX0_queueEnds 162 = .ok (.ldc 204, 2) := by decide +kernel
theorem dX0_queueEnds_164 : decode cX0_queueEnds 164 = .ok (.if_icmp .eq 14, 3) := by decide +kernel
theorem dX0_queueEnds_167 : decode cX0_queueEnds 167 = .ok (.aload_n 0, 1) := by decide +kernel
theorem dX0_queueEnds_168 : decode cX0_queueEnds 168 = .ok (.getfield 31, 3) := by decide +kernel
theorem dX0_queueEnds_171 : decode cX0_queueEnds 171 = .ok (.iload_n 2, 1) := by decide +kernel
theorem dX0_queueEnds_172 : decode cX0_queueEnds 172 = .ok (.iaload, 1) := by decide +kernel
theorem dX0_queueEnds_173 : decode cX0_queueEnds 173 = .ok (.ldc 205, 2) := by decide +kernel
theorem dX0_queueEnds_175 : decode cX0_queueEnds 175 = .ok (.if_icmp .ne 8, 3) := by decide +kernel
theorem dX0_queueEnds_178 : decode cX0_queueEnds 178 = .ok (.aload_n 0, 1) := by decide +kernel
theorem dX0_queueEnds_179 : decode cX0_queueEnds 179 = .ok (.iload_n 2, 1) := by decide +kernel
theorem dX0_queueEnds_180 : decode cX0_queueEnds 180 = .ok (.invokevirtual 209, 3) := by decide +kernel
theorem dX0_queueEnds_183 : decode cX0_queueEnds 183 = .ok (.iinc 2 1, 3) := by decide +kernel
theorem dX0_queueEnds_186 : decode cX0_queueEnds 186 = .ok (.goto (-169), 3) := by decide +kernel
theorem dX0_queueEnds_189 : decode cX0_queueEnds 189 = .ok (.iinc 1 1, 3) := by decide +kernel
theorem dX0_queueEnds_192 : decode cX0_queueEnds 192 = .ok (.goto (-190), 3) := by decide +kernel
theorem dX0_queueEnds_195 : decode cX0_queueEnds 195 = .ok (.return_, 1) := by decide +kernel
def sX0_queueEnds_183 (F : Nat) (k_2 : Hp → Nat → Int32 → Option (Hp)) (k_17 : Hp → Nat → Int32 → Int32 → Option (Hp)) (h : Hp) (x0 : Nat) (x1 : Int32) (x2 : Int32) : Option (Hp) := nm (x2 + (1 : Int32)) fun v_1 => k_17 h x0 x1 v_1
def sX0_queueEnds_178 (F : Nat) (k_2 : Hp → Nat → Int32 → Option (Hp)) (k_17 : Hp → Nat → Int32 → Int32 → Option (Hp)) (h : Hp) (x0 : Nat) (x1 : Int32) (x2 : Int32) : Option (Hp) := cl (sX0_push h x0 x2) fun o_1 => sX0_queueEnds_183 F k_2 k_17 o_1 x0 x1 x2
def sX0_queueEnds_156 (F : Nat) (k_2 : Hp → Nat → Int32 → Option (Hp)) (k_17 : Hp → Nat → Int32 → Int32 → Option (Hp)) (h : Hp) (x0 : Nat) (x1 : Int32) (x2 : Int32) : Option (Hp) := cl (hR h x0 11) fun r_1 => gd (inB x2 (hN h r_1)) <| br ((hI h r_1 x2.toNatClampNeg) = (1000000 : Int32)) (sX0_queueEnds_178 F k_2 k_17 h x0 x1 x2) (cl (hR h x0 11) fun r_4 => gd (inB x2 (hN h r_4)) <| br ((hI h r_4 x2.toNatClampNeg) = (-1000000 : Int32)) (sX0_queueEnds_178 F k_2 k_17 h x0 x1 x2) (sX0_queueEnds_183 F k_2 k_17 h x0 x1 x2))
def sX0_queueEnds_152 (F : Nat) (k_2 : Hp → Nat → Int32 → Option (Hp)) (k_17 : Hp → Nat → Int32 → Int32 → Option (Hp)) (h : Hp) (x0 : Nat) (x1 : Int32) (x2 : Int32) (t0 : Int32) (t1 : Nat) (t2 : Int32) (t3 : Nat) : Option (Hp) := cl (sX0_endWorth h t1 t0) fun o_1 => gd (inB t2 (hN o_1.2 t3)) <| nm (wI o_1.2 t3 t2.toNatClampNeg o_1.1) fun h_3 => sX0_queueEnds_156 F k_2 k_17 h_3 x0 x1 x2
def sX0_queueEnds_74 (F : Nat) (k_2 : Hp → Nat → Int32 → Option (Hp)) (k_17 : Hp → Nat → Int32 → Int32 → Option (Hp)) (h : Hp) (x0 : Nat) (x1 : Int32) (x2 : Int32) (t0 : Int32) : Option (Hp) := br (t0 = 0) (sX0_queueEnds_156 F k_2 k_17 h x0 x1 x2) (cl (hR h x0 4) fun r_2 => gd (inB x1 (hN h r_2)) <| cl (hR h x0 5) fun r_4 => gd (inB x1 (hN h r_4)) <| cl (sX0_layOut F h x0 (hI h r_2 x1.toNatClampNeg) ((x2 - (hI h r_4 x1.toNatClampNeg)) >>> ((1 : Int32) &&& 31))) fun o_6 => br (o_6.1 = 0) (sX0_queueEnds_156 F k_2 k_17 o_6.2 x0 x1 x2) (cl (hR o_6.2 x0 3) fun r_8 => cl (hR o_6.2 x0 5) fun r_9 => gd (inB x1 (hN o_6.2 r_9)) <| nm (wI o_6.2 r_8 5 ((x2 - (hI o_6.2 r_9 x1.toNatClampNeg)) &&& (1 : Int32))) fun h_11 => cl (hR h_11 x0 11) fun r_12 => cl (hR h_11 x0 2) fun r_13 => cl (hR h_11 x0 3) fun r_14 => cl (hR h_11 x0 3) fun r_15 => cl (sX5_isRoyalHit F h_11 r_13 r_14 (hI h_11 r_15 5)) fun o_16 => br (o_16.1 = 0) (sX0_queueEnds_152 F k_2 k_17 o_16.2 x0 x1 x2 (6 : Int32) x0 x2 r_12) (sX0_queueEnds_152 F k_2 k_17 o_16.2 x0 x1 x2 (5 : Int32) x0 x2 r_12)))
def sX0_queueEnds_73 (F : Nat) (k_2 : Hp → Nat → Int32 → Option (Hp)) (k_17 : Hp → Nat → Int32 → Int32 → Option (Hp)) (h : Hp) (x0 : Nat) (x1 : Int32) (x2 : Int32) : Option (Hp) := sX0_queueEnds_74 F k_2 k_17 h x0 x1 x2 (0 : Int32)
def sX0_queueEnds_45 (F : Nat) (k_2 : Hp → Nat → Int32 → Option (Hp)) (k_17 : Hp → Nat → Int32 → Int32 → Option (Hp)) (h : Hp) (x0 : Nat) (x1 : Int32) (x2 : Int32) : Option (Hp) := cl (hR h x0 11) fun r_1 => gd (inB x2 (hN h r_1)) <| br ((hI h r_1 x2.toNatClampNeg) = (3000000 : Int32)) (cl (hR h x0 12) fun r_4 => gd (inB x2 (hN h r_4)) <| br (((hI h r_4 x2.toNatClampNeg) &&& (4095 : Int32)) = 0) (sX0_queueEnds_74 F k_2 k_17 h x0 x1 x2 (1 : Int32)) (sX0_queueEnds_73 F k_2 k_17 h x0 x1 x2)) (sX0_queueEnds_73 F k_2 k_17 h x0 x1 x2)
def sX0_queueEnds_17 (F : Nat) (k_2 : Hp → Nat → Int32 → Option (Hp)) : Nat → Hp → Nat → Int32 → Int32 → Option (Hp)
  | 0, _, _, _, _ => none
  | f + 1, h, x0, x1, x2 => cl (hR h x0 5) fun r_1 => gd (inB (x1 + (1 : Int32)) (hN h r_1)) <| br ((hI h r_1 (x1 + (1 : Int32)).toNatClampNeg) ≤ x2) (nm (x1 + (1 : Int32)) fun v_4 => k_2 h x0 v_4) (cl (hR h x0 11) fun r_5 => gd (inB x2 (hN h r_5)) <| br ((hI h r_5 x2.toNatClampNeg) = (3000000 : Int32)) (cl (sX0_settleCount h x0 x2) fun o_8 => sX0_queueEnds_45 F k_2 (sX0_queueEnds_17 F k_2 f) o_8 x0 x1 x2) (sX0_queueEnds_45 F k_2 (sX0_queueEnds_17 F k_2 f) h x0 x1 x2))
def sX0_queueEnds_2 (F : Nat) : Nat → Hp → Nat → Int32 → Option (Hp)
  | 0, _, _, _ => none
  | f + 1, h, x0, x1 => br ((hI h x0 9) ≤ x1) (some h) (cl (hR h x0 5) fun r_2 => gd (inB x1 (hN h r_2)) <| nm (hI h r_2 x1.toNatClampNeg) fun v_4 => sX0_queueEnds_17 F (sX0_queueEnds_2 F f) F h x0 x1 v_4)
def sX0_queueEnds (F : Nat) (h : Hp) (x0 : Nat) : Option (Hp) := sX0_queueEnds_2 F F h x0 (0 : Int32)
set_option maxRecDepth 20000 in
theorem moX0_queueEnds_183 {o : Hp} {k_2 : Hp → Nat → Int32 → Option (Hp)} {k_17 : Hp → Nat → Int32 → Int32 → Option (Hp)} {F : Nat} (mk_2 : ∀ (h : Hp) (x0 : Nat) (x1 : Int32), k_2 h x0 x1 = some o → Le h o) (mk_17 : ∀ (h : Hp) (x0 : Nat) (x1 : Int32) (x2 : Int32), k_17 h x0 x1 x2 = some o → Le h o) {h : Hp} {x0 : Nat} {x1 : Int32} {x2 : Int32} (hE : sX0_queueEnds_183 F k_2 k_17 h x0 x1 x2 = some o) : Le h o := by
  obtain ⟨v_1, ev_1, hE⟩ := nm_e2 hE
  exact mk_17 _ _ _ _ hE
set_option maxRecDepth 20000 in
theorem moX0_queueEnds_178 {o : Hp} {k_2 : Hp → Nat → Int32 → Option (Hp)} {k_17 : Hp → Nat → Int32 → Int32 → Option (Hp)} {F : Nat} (mk_2 : ∀ (h : Hp) (x0 : Nat) (x1 : Int32), k_2 h x0 x1 = some o → Le h o) (mk_17 : ∀ (h : Hp) (x0 : Nat) (x1 : Int32) (x2 : Int32), k_17 h x0 x1 x2 = some o → Le h o) {h : Hp} {x0 : Nat} {x1 : Int32} {x2 : Int32} (hE : sX0_queueEnds_178 F k_2 k_17 h x0 x1 x2 = some o) : Le h o := by
  obtain ⟨o_1, eo_1, hE⟩ := cl_e hE
  refine (moX0_push eo_1).tr ?_
  exact moX0_queueEnds_183 mk_2 mk_17 hE
set_option maxRecDepth 20000 in
theorem moX0_queueEnds_156 {o : Hp} {k_2 : Hp → Nat → Int32 → Option (Hp)} {k_17 : Hp → Nat → Int32 → Int32 → Option (Hp)} {F : Nat} (mk_2 : ∀ (h : Hp) (x0 : Nat) (x1 : Int32), k_2 h x0 x1 = some o → Le h o) (mk_17 : ∀ (h : Hp) (x0 : Nat) (x1 : Int32) (x2 : Int32), k_17 h x0 x1 x2 = some o → Le h o) {h : Hp} {x0 : Nat} {x1 : Int32} {x2 : Int32} (hE : sX0_queueEnds_156 F k_2 k_17 h x0 x1 x2 = some o) : Le h o := by
  obtain ⟨r_1, er_1, hE⟩ := cl_e hE
  obtain ⟨g_2, hE⟩ := gd_e hE
  rcases br_e hE with ⟨_, hE⟩ | ⟨_, hE⟩
  · exact moX0_queueEnds_178 mk_2 mk_17 hE
  · obtain ⟨r_4, er_4, hE⟩ := cl_e hE
    obtain ⟨g_5, hE⟩ := gd_e hE
    rcases br_e hE with ⟨_, hE⟩ | ⟨_, hE⟩
    · exact moX0_queueEnds_178 mk_2 mk_17 hE
    · exact moX0_queueEnds_183 mk_2 mk_17 hE
set_option maxRecDepth 20000 in
theorem moX0_queueEnds_152 {o : Hp} {k_2 : Hp → Nat → Int32 → Option (Hp)} {k_17 : Hp → Nat → Int32 → Int32 → Option (Hp)} {F : Nat} (mk_2 : ∀ (h : Hp) (x0 : Nat) (x1 : Int32), k_2 h x0 x1 = some o → Le h o) (mk_17 : ∀ (h : Hp) (x0 : Nat) (x1 : Int32) (x2 : Int32), k_17 h x0 x1 x2 = some o → Le h o) {h : Hp} {x0 : Nat} {x1 : Int32} {x2 : Int32} {t0 : Int32} {t1 : Nat} {t2 : Int32} {t3 : Nat} (hE : sX0_queueEnds_152 F k_2 k_17 h x0 x1 x2 t0 t1 t2 t3 = some o) : Le h o := by
  obtain ⟨o_1, eo_1, hE⟩ := cl_e hE
  refine (moX0_endWorth eo_1).tr ?_
  obtain ⟨g_2, hE⟩ := gd_e hE
  obtain ⟨h_3, eh_3, hE⟩ := nm_e2 hE
  refine (le_I eh_3).tr ?_
  exact moX0_queueEnds_156 mk_2 mk_17 hE
set_option maxRecDepth 20000 in
theorem moX0_queueEnds_74 {o : Hp} {k_2 : Hp → Nat → Int32 → Option (Hp)} {k_17 : Hp → Nat → Int32 → Int32 → Option (Hp)} {F : Nat} (mk_2 : ∀ (h : Hp) (x0 : Nat) (x1 : Int32), k_2 h x0 x1 = some o → Le h o) (mk_17 : ∀ (h : Hp) (x0 : Nat) (x1 : Int32) (x2 : Int32), k_17 h x0 x1 x2 = some o → Le h o) {h : Hp} {x0 : Nat} {x1 : Int32} {x2 : Int32} {t0 : Int32} (hE : sX0_queueEnds_74 F k_2 k_17 h x0 x1 x2 t0 = some o) : Le h o := by
  rcases br_e hE with ⟨_, hE⟩ | ⟨_, hE⟩
  · exact moX0_queueEnds_156 mk_2 mk_17 hE
  · obtain ⟨r_2, er_2, hE⟩ := cl_e hE
    obtain ⟨g_3, hE⟩ := gd_e hE
    obtain ⟨r_4, er_4, hE⟩ := cl_e hE
    obtain ⟨g_5, hE⟩ := gd_e hE
    obtain ⟨o_6, eo_6, hE⟩ := cl_e hE
    refine (moX0_layOut eo_6).tr ?_
    rcases br_e hE with ⟨_, hE⟩ | ⟨_, hE⟩
    · exact moX0_queueEnds_156 mk_2 mk_17 hE
    · obtain ⟨r_8, er_8, hE⟩ := cl_e hE
      obtain ⟨r_9, er_9, hE⟩ := cl_e hE
      obtain ⟨g_10, hE⟩ := gd_e hE
      obtain ⟨h_11, eh_11, hE⟩ := nm_e2 hE
      refine (le_I eh_11).tr ?_
      obtain ⟨r_12, er_12, hE⟩ := cl_e hE
      obtain ⟨r_13, er_13, hE⟩ := cl_e hE
      obtain ⟨r_14, er_14, hE⟩ := cl_e hE
      obtain ⟨r_15, er_15, hE⟩ := cl_e hE
      obtain ⟨o_16, eo_16, hE⟩ := cl_e hE
      refine (moX5_isRoyalHit eo_16).tr ?_
      rcases br_e hE with ⟨_, hE⟩ | ⟨_, hE⟩
      · exact moX0_queueEnds_152 mk_2 mk_17 hE
      · exact moX0_queueEnds_152 mk_2 mk_17 hE
set_option maxRecDepth 20000 in
theorem moX0_queueEnds_73 {o : Hp} {k_2 : Hp → Nat → Int32 → Option (Hp)} {k_17 : Hp → Nat → Int32 → Int32 → Option (Hp)} {F : Nat} (mk_2 : ∀ (h : Hp) (x0 : Nat) (x1 : Int32), k_2 h x0 x1 = some o → Le h o) (mk_17 : ∀ (h : Hp) (x0 : Nat) (x1 : Int32) (x2 : Int32), k_17 h x0 x1 x2 = some o → Le h o) {h : Hp} {x0 : Nat} {x1 : Int32} {x2 : Int32} (hE : sX0_queueEnds_73 F k_2 k_17 h x0 x1 x2 = some o) : Le h o := by
  exact moX0_queueEnds_74 mk_2 mk_17 hE
set_option maxRecDepth 20000 in
theorem moX0_queueEnds_45 {o : Hp} {k_2 : Hp → Nat → Int32 → Option (Hp)} {k_17 : Hp → Nat → Int32 → Int32 → Option (Hp)} {F : Nat} (mk_2 : ∀ (h : Hp) (x0 : Nat) (x1 : Int32), k_2 h x0 x1 = some o → Le h o) (mk_17 : ∀ (h : Hp) (x0 : Nat) (x1 : Int32) (x2 : Int32), k_17 h x0 x1 x2 = some o → Le h o) {h : Hp} {x0 : Nat} {x1 : Int32} {x2 : Int32} (hE : sX0_queueEnds_45 F k_2 k_17 h x0 x1 x2 = some o) : Le h o := by
  obtain ⟨r_1, er_1, hE⟩ := cl_e hE
  obtain ⟨g_2, hE⟩ := gd_e hE
  rcases br_e hE with ⟨_, hE⟩ | ⟨_, hE⟩
  · obtain ⟨r_4, er_4, hE⟩ := cl_e hE
    obtain ⟨g_5, hE⟩ := gd_e hE
    rcases br_e hE with ⟨_, hE⟩ | ⟨_, hE⟩
    · exact moX0_queueEnds_74 mk_2 mk_17 hE
    · exact moX0_queueEnds_73 mk_2 mk_17 hE
  · exact moX0_queueEnds_73 mk_2 mk_17 hE
set_option maxRecDepth 20000 in
theorem moX0_queueEnds_17 {o : Hp} {k_2 : Hp → Nat → Int32 → Option (Hp)} {F : Nat} (mk_2 : ∀ (h : Hp) (x0 : Nat) (x1 : Int32), k_2 h x0 x1 = some o → Le h o) : ∀ (f : Nat) {h : Hp} {x0 : Nat} {x1 : Int32} {x2 : Int32}, sX0_queueEnds_17 F k_2 f h x0 x1 x2 = some o → Le h o := by
  intro f
  induction f with
  | zero =>
    intro h x0 x1 x2 hE
    rw [sX0_queueEnds_17] at hE
    cases hE
  | succ f ih =>
    intro h x0 x1 x2 hE
    rw [sX0_queueEnds_17] at hE
    have mk_17 : ∀ (h : Hp) (x0 : Nat) (x1 : Int32) (x2 : Int32), sX0_queueEnds_17 F k_2 f h x0 x1 x2 = some o → Le h o := fun h x0 x1 x2 hE => ih hE
    obtain ⟨r_1, er_1, hE⟩ := cl_e hE
    obtain ⟨g_2, hE⟩ := gd_e hE
    rcases br_e hE with ⟨_, hE⟩ | ⟨_, hE⟩
    · obtain ⟨v_4, ev_4, hE⟩ := nm_e2 hE
      exact mk_2 _ _ _ hE
    · obtain ⟨r_5, er_5, hE⟩ := cl_e hE
      obtain ⟨g_6, hE⟩ := gd_e hE
      rcases br_e hE with ⟨_, hE⟩ | ⟨_, hE⟩
      · obtain ⟨o_8, eo_8, hE⟩ := cl_e hE
        refine (moX0_settleCount eo_8).tr ?_
        exact moX0_queueEnds_45 mk_2 mk_17 hE
      · exact moX0_queueEnds_45 mk_2 mk_17 hE
set_option maxRecDepth 20000 in
theorem moX0_queueEnds_2 {o : Hp} {F : Nat} : ∀ (f : Nat) {h : Hp} {x0 : Nat} {x1 : Int32}, sX0_queueEnds_2 F f h x0 x1 = some o → Le h o := by
  intro f
  induction f with
  | zero =>
    intro h x0 x1 hE
    rw [sX0_queueEnds_2] at hE
    cases hE
  | succ f ih =>
    intro h x0 x1 hE
    rw [sX0_queueEnds_2] at hE
    have mk_2 : ∀ (h : Hp) (x0 : Nat) (x1 : Int32), sX0_queueEnds_2 F f h x0 x1 = some o → Le h o := fun h x0 x1 hE => ih hE
    rcases br_e hE with ⟨_, hE⟩ | ⟨_, hE⟩
    · exact le_some1 hE
    · obtain ⟨r_2, er_2, hE⟩ := cl_e hE
      obtain ⟨g_3, hE⟩ := gd_e hE
      obtain ⟨v_4, ev_4, hE⟩ := nm_e2 hE
      exact moX0_queueEnds_17 mk_2 _ hE
set_option maxRecDepth 20000 in
theorem moX0_queueEnds {o : Hp} {F : Nat} {h : Hp} {x0 : Nat} (hE : sX0_queueEnds F h x0 = some o) : Le h o := by
  exact moX0_queueEnds_2 _ hE
set_option maxRecDepth 20000 in
theorem bX0_queueEnds_183 {p : Program} {l : Launch} {e : Env} {s : State} {m : MethodId} {args : Array Value} {below : List Frame} {meth : Method} {c : Code} {X : Ec} {h0 : Hp} {o : Hp} {k_2 : Hp → Nat → Int32 → Option (Hp)} {k_17 : Hp → Nat → Int32 → Int32 → Option (Hp)} {F : Nat} (C : Cx X p s m args meth c RX0 cX0_queueEnds 4 none "queueEnds") (hk_2 : ∀ (h : Hp) (x0 : Nat) (x1 : Int32) (H : Heap) (locs : List Loc), hK h x0 = 0 → Km h0 h → Wx X h H → va_S (aA (eB X)) s.heap H locs → ∀ (ls : Array Slot), lv_has ls 4 [(0, .ref x0), (1, .int x1)] → k_2 h x0 x1 = some o → W p l e (rm 3 75) s m args below meth c H locs 0 0 (MQ below (QV X h0 o) args s 0 0 (aA (eB X))) (F0 m 2 ls [])) (hk_17 : ∀ (h : Hp) (x0 : Nat) (x1 : Int32) (x2 : Int32) (H : Heap) (locs : List Loc), hK h x0 = 0 → Km h0 h → Wx X h H → va_S (aA (eB X)) s.heap H locs → ∀ (ls : Array Slot), lv_has ls 4 [(0, .ref x0), (1, .int x1), (2, .int x2)] → k_17 h x0 x1 x2 = some o → W p l e (rm 3 75) s m args below meth c H locs 0 0 (MQ below (QV X h0 o) args s 0 0 (aA (eB X))) (F0 m 17 ls [])) {h : Hp} {x0 : Nat} {x1 : Int32} {x2 : Int32} {H : Heap} {locs : List Loc} (k_x0 : hK h x0 = 0) (hkm : Km h0 h) (hW : Wx X h H) (hZ : va_S (aA (eB X)) s.heap H locs) (ls : Array Slot) (hl : lv_has ls 4 [(0, .ref x0), (1, .int x1), (2, .int x2)]) (hE : sX0_queueEnds_183 F k_2 k_17 h x0 x1 x2 = some o) : W p l e (rm 3 75) s m args below meth c H locs 0 0 (MQ below (QV X h0 o) args s 0 0 (aA (eB X))) (F0 m 183 ls []) := by
  obtain ⟨v_1, ev_1, hE⟩ := nm_e2 hE
  refine lv_iinc (v := v_1) (lv' := [(2, .int v_1), (0, .ref x0), (1, .int x1)]) C.1 C.2.1 dX0_queueEnds_183 hl (k := 2) rfl (by rw [ev_1]; rfl) (by decide) rfl (fun ls hl => ?_)
  refine lv_goto (tgt := 17) C.1 C.2.1 dX0_queueEnds_186 (by decide) ?_
  exact hk_17 _ _ _ _ _ _ k_x0 hkm hW hZ _ (lv_sub hl [1, 2, 0] rfl) hE
set_option maxRecDepth 20000 in
theorem bX0_queueEnds_178 {p : Program} {l : Launch} {e : Env} {s : State} {m : MethodId} {args : Array Value} {below : List Frame} {meth : Method} {c : Code} {X : Ec} {h0 : Hp} {o : Hp} {k_2 : Hp → Nat → Int32 → Option (Hp)} {k_17 : Hp → Nat → Int32 → Int32 → Option (Hp)} {F : Nat} (C : Cx X p s m args meth c RX0 cX0_queueEnds 4 none "queueEnds") (hk_2 : ∀ (h : Hp) (x0 : Nat) (x1 : Int32) (H : Heap) (locs : List Loc), hK h x0 = 0 → Km h0 h → Wx X h H → va_S (aA (eB X)) s.heap H locs → ∀ (ls : Array Slot), lv_has ls 4 [(0, .ref x0), (1, .int x1)] → k_2 h x0 x1 = some o → W p l e (rm 3 75) s m args below meth c H locs 0 0 (MQ below (QV X h0 o) args s 0 0 (aA (eB X))) (F0 m 2 ls [])) (hk_17 : ∀ (h : Hp) (x0 : Nat) (x1 : Int32) (x2 : Int32) (H : Heap) (locs : List Loc), hK h x0 = 0 → Km h0 h → Wx X h H → va_S (aA (eB X)) s.heap H locs → ∀ (ls : Array Slot), lv_has ls 4 [(0, .ref x0), (1, .int x1), (2, .int x2)] → k_17 h x0 x1 x2 = some o → W p l e (rm 3 75) s m args below meth c H locs 0 0 (MQ below (QV X h0 o) args s 0 0 (aA (eB X))) (F0 m 17 ls [])) {h : Hp} {x0 : Nat} {x1 : Int32} {x2 : Int32} {H : Heap} {locs : List Loc} (k_x0 : hK h x0 = 0) (hkm : Km h0 h) (hW : Wx X h H) (hZ : va_S (aA (eB X)) s.heap H locs) (ls : Array Slot) (hl : lv_has ls 4 [(0, .ref x0), (1, .int x1), (2, .int x2)]) (hE : sX0_queueEnds_178 F k_2 k_17 h x0 x1 x2 = some o) : W p l e (rm 3 75) s m args below meth c H locs 0 0 (MQ below (QV X h0 o) args s 0 0 (aA (eB X))) (F0 m 178 ls []) := by
  refine lv_aload_n C.1 C.2.1 dX0_queueEnds_178 rfl (lv_at hl 0 rfl) ?_
  refine lv_iload_n C.1 C.2.1 dX0_queueEnds_179 rfl (lv_at hl 2 rfl) ?_
  obtain ⟨o_1, eo_1, hE⟩ := cl_e hE
  refine x_kV (o := o_1) (z_runV (As := [.int x2]) (rest := []) C (ct_X0_push l X k_x0 eo_1) cw_X0_209 hW hZ k_x0 (by decide) rfl rfl rfl hl.1 (Nat.le_of_ble_eq_true rfl) rfl dX0_queueEnds_180 ⟨Nat.le_of_ble_eq_true rfl, Nat.le_of_ble_eq_true rfl⟩ ⟨Nat.le_refl _, Nat.le_refl _⟩) hZ (fun _ _ hW km hZ => ?_)
  replace hkm := hkm.tr km
  replace k_x0 := km.at k_x0 (by decide)
  exact bX0_queueEnds_183 C hk_2 hk_17 k_x0 hkm hW hZ _ (lv_sub hl [0, 1, 2] rfl) hE
set_option maxRecDepth 20000 in
theorem bX0_queueEnds_156 {p : Program} {l : Launch} {e : Env} {s : State} {m : MethodId} {args : Array Value} {below : List Frame} {meth : Method} {c : Code} {X : Ec} {h0 : Hp} {o : Hp} {k_2 : Hp → Nat → Int32 → Option (Hp)} {k_17 : Hp → Nat → Int32 → Int32 → Option (Hp)} {F : Nat} (C : Cx X p s m args meth c RX0 cX0_queueEnds 4 none "queueEnds") (hk_2 : ∀ (h : Hp) (x0 : Nat) (x1 : Int32) (H : Heap) (locs : List Loc), hK h x0 = 0 → Km h0 h → Wx X h H → va_S (aA (eB X)) s.heap H locs → ∀ (ls : Array Slot), lv_has ls 4 [(0, .ref x0), (1, .int x1)] → k_2 h x0 x1 = some o → W p l e (rm 3 75) s m args below meth c H locs 0 0 (MQ below (QV X h0 o) args s 0 0 (aA (eB X))) (F0 m 2 ls [])) (hk_17 : ∀ (h : Hp) (x0 : Nat) (x1 : Int32) (x2 : Int32) (H : Heap) (locs : List Loc), hK h x0 = 0 → Km h0 h → Wx X h H → va_S (aA (eB X)) s.heap H locs → ∀ (ls : Array Slot), lv_has ls 4 [(0, .ref x0), (1, .int x1), (2, .int x2)] → k_17 h x0 x1 x2 = some o → W p l e (rm 3 75) s m args below meth c H locs 0 0 (MQ below (QV X h0 o) args s 0 0 (aA (eB X))) (F0 m 17 ls [])) {h : Hp} {x0 : Nat} {x1 : Int32} {x2 : Int32} {H : Heap} {locs : List Loc} (k_x0 : hK h x0 = 0) (hkm : Km h0 h) (hW : Wx X h H) (hZ : va_S (aA (eB X)) s.heap H locs) (ls : Array Slot) (hl : lv_has ls 4 [(0, .ref x0), (1, .int x1), (2, .int x2)]) (hE : sX0_queueEnds_156 F k_2 k_17 h x0 x1 x2 = some o) : W p l e (rm 3 75) s m args below meth c H locs 0 0 (MQ below (QV X h0 o) args s 0 0 (aA (eB X))) (F0 m 156 ls []) := by
  refine lv_aload_n C.1 C.2.1 dX0_queueEnds_156 rfl (lv_at hl 0 rfl) ?_
  obtain ⟨r_1, er_1, hE⟩ := cl_e hE
  refine gf_X0_31 C hW k_x0 er_1 dX0_queueEnds_157 (fun k_r_1 => ?_)
  refine lv_iload_n C.1 C.2.1 dX0_queueEnds_160 rfl (lv_at hl 2 rfl) ?_
  obtain ⟨g_2, hE⟩ := gd_e hE
  refine y_iald C hW k_r_1 g_2 dX0_queueEnds_161 ?_
  refine lv_ldc (v := (1000000 : Int32)) C.1 C.2.1 C.2.2.2.1 (C.2.2.2.2.1 _ m_1670) dX0_queueEnds_162 ?_
  refine lv_icmp_eq (tgt := 178) C.1 C.2.1 dX0_queueEnds_164 (by decide) (fun c_3 => ?_) (fun c_3 => ?_)
  · have hE := br_p hE c_3
    exact bX0_queueEnds_178 C hk_2 hk_17 k_x0 hkm hW hZ _ (lv_sub hl [0, 1, 2] rfl) hE
  · have hE := br_n hE c_3
    refine lv_aload_n C.1 C.2.1 dX0_queueEnds_167 rfl (lv_at hl 0 rfl) ?_
    obtain ⟨r_4, er_4, hE⟩ := cl_e hE
    refine gf_X0_31 C hW k_x0 er_4 dX0_queueEnds_168 (fun k_r_4 => ?_)
    refine lv_iload_n C.1 C.2.1 dX0_queueEnds_171 rfl (lv_at hl 2 rfl) ?_
    obtain ⟨g_5, hE⟩ := gd_e hE
    refine y_iald C hW k_r_4 g_5 dX0_queueEnds_172 ?_
    refine lv_ldc (v := (-1000000 : Int32)) C.1 C.2.1 C.2.2.2.1 (C.2.2.2.2.1 _ m_1671) dX0_queueEnds_173 ?_
    refine lv_icmp_ne (tgt := 183) C.1 C.2.1 dX0_queueEnds_175 (by decide) (fun c_6 => ?_) (fun c_6 => ?_)
    · have hE := br_n hE c_6
      exact bX0_queueEnds_183 C hk_2 hk_17 k_x0 hkm hW hZ _ (lv_sub hl [0, 1, 2] rfl) hE
    · have hE := br_p hE c_6
      exact bX0_queueEnds_178 C hk_2 hk_17 k_x0 hkm hW hZ _ (lv_sub hl [0, 1, 2] rfl) hE
set_option maxRecDepth 20000 in
theorem bX0_queueEnds_152 {p : Program} {l : Launch} {e : Env} {s : State} {m : MethodId} {args : Array Value} {below : List Frame} {meth : Method} {c : Code} {X : Ec} {h0 : Hp} {o : Hp} {k_2 : Hp → Nat → Int32 → Option (Hp)} {k_17 : Hp → Nat → Int32 → Int32 → Option (Hp)} {F : Nat} (C : Cx X p s m args meth c RX0 cX0_queueEnds 4 none "queueEnds") (hk_2 : ∀ (h : Hp) (x0 : Nat) (x1 : Int32) (H : Heap) (locs : List Loc), hK h x0 = 0 → Km h0 h → Wx X h H → va_S (aA (eB X)) s.heap H locs → ∀ (ls : Array Slot), lv_has ls 4 [(0, .ref x0), (1, .int x1)] → k_2 h x0 x1 = some o → W p l e (rm 3 75) s m args below meth c H locs 0 0 (MQ below (QV X h0 o) args s 0 0 (aA (eB X))) (F0 m 2 ls [])) (hk_17 : ∀ (h : Hp) (x0 : Nat) (x1 : Int32) (x2 : Int32) (H : Heap) (locs : List Loc), hK h x0 = 0 → Km h0 h → Wx X h H → va_S (aA (eB X)) s.heap H locs → ∀ (ls : Array Slot), lv_has ls 4 [(0, .ref x0), (1, .int x1), (2, .int x2)] → k_17 h x0 x1 x2 = some o → W p l e (rm 3 75) s m args below meth c H locs 0 0 (MQ below (QV X h0 o) args s 0 0 (aA (eB X))) (F0 m 17 ls [])) {h : Hp} {x0 : Nat} {x1 : Int32} {x2 : Int32} {t0 : Int32} {t1 : Nat} {t2 : Int32} {t3 : Nat} {H : Heap} {locs : List Loc} (k_x0 : hK h x0 = 0) (k_t1 : hK h t1 = 0) (k_t3 : hK h t3 = 17) (hkm : Km h0 h) (hW : Wx X h H) (hZ : va_S (aA (eB X)) s.heap H locs) (ls : Array Slot) (hl : lv_has ls 4 [(0, .ref x0), (1, .int x1), (2, .int x2)]) (hE : sX0_queueEnds_152 F k_2 k_17 h x0 x1 x2 t0 t1 t2 t3 = some o) : W p l e (rm 3 75) s m args below meth c H locs 0 0 (MQ below (QV X h0 o) args s 0 0 (aA (eB X))) (F0 m 152 ls [.int t0, .ref t1, .int t2, .ref t3]) := by
  obtain ⟨o_1, eo_1, hE⟩ := cl_e hE
  refine x_kI (o := o_1) (z_runV (As := [.int t0]) (rest := [.int t2, .ref t3]) C (ct_X0_endWorth l X k_t1 eo_1) cw_X0_197 hW hZ k_t1 (by decide) rfl rfl rfl hl.1 (Nat.le_of_ble_eq_true rfl) rfl dX0_queueEnds_152 ⟨Nat.le_of_ble_eq_true rfl, Nat.le_of_ble_eq_true rfl⟩ ⟨Nat.le_refl _, Nat.le_refl _⟩) hZ (fun _ _ hW km hZ => ?_)
  replace hkm := hkm.tr km
  replace k_x0 := km.at k_x0 (by decide)
  replace k_t3 := km.at k_t3 (by decide)
  obtain ⟨g_2, hE⟩ := gd_e hE
  obtain ⟨h_3, eh_3, hE⟩ := nm_e2 hE
  refine y_iast C hW hZ k_t3 g_2 eh_3 dX0_queueEnds_155 (fun _ _ hW km hZ => ?_)
  replace hkm := hkm.tr km
  replace k_x0 := km.at k_x0 (by decide)
  exact bX0_queueEnds_156 C hk_2 hk_17 k_x0 hkm hW hZ _ (lv_sub hl [0, 1, 2] rfl) hE
set_option maxRecDepth 20000 in
theorem bX0_queueEnds_74 {p : Program} {l : Launch} {e : Env} {s : State} {m : MethodId} {args : Array Value} {below : List Frame} {meth : Method} {c : Code} {X : Ec} {h0 : Hp} {o : Hp} {k_2 : Hp → Nat → Int32 → Option (Hp)} {k_17 : Hp → Nat → Int32 → Int32 → Option (Hp)} {F : Nat} (C : Cx X p s m args meth c RX0 cX0_queueEnds 4 none "queueEnds") (hk_2 : ∀ (h : Hp) (x0 : Nat) (x1 : Int32) (H : Heap) (locs : List Loc), hK h x0 = 0 → Km h0 h → Wx X h H → va_S (aA (eB X)) s.heap H locs → ∀ (ls : Array Slot), lv_has ls 4 [(0, .ref x0), (1, .int x1)] → k_2 h x0 x1 = some o → W p l e (rm 3 75) s m args below meth c H locs 0 0 (MQ below (QV X h0 o) args s 0 0 (aA (eB X))) (F0 m 2 ls [])) (hk_17 : ∀ (h : Hp) (x0 : Nat) (x1 : Int32) (x2 : Int32) (H : Heap) (locs : List Loc), hK h x0 = 0 → Km h0 h → Wx X h H → va_S (aA (eB X)) s.heap H locs → ∀ (ls : Array Slot), lv_has ls 4 [(0, .ref x0), (1, .int x1), (2, .int x2)] → k_17 h x0 x1 x2 = some o → W p l e (rm 3 75) s m args below meth c H locs 0 0 (MQ below (QV X h0 o) args s 0 0 (aA (eB X))) (F0 m 17 ls [])) {h : Hp} {x0 : Nat} {x1 : Int32} {x2 : Int32} {t0 : Int32} {H : Heap} {locs : List Loc} (k_x0 : hK h x0 = 0) (hkm : Km h0 h) (hW : Wx X h H) (hZ : va_S (aA (eB X)) s.heap H locs) (ls : Array Slot) (hl : lv_has ls 4 [(0, .ref x0), (1, .int x1), (2, .int x2)]) (hE : sX0_queueEnds_74 F k_2 k_17 h x0 x1 x2 t0 = some o) : W p l e (rm 3 75) s m args below meth c H locs 0 0 (MQ below (QV X h0 o) args s 0 0 (aA (eB X))) (F0 m 74 ls [.int t0]) := by
  refine lv_istore_n (lv' := [(3, .int t0), (0, .ref x0), (1, .int x1), (2, .int x2)]) C.1 C.2.1 dX0_queueEnds_74 rfl hl (by decide) rfl (fun ls hl => ?_)
  refine lv_iload_n C.1 C.2.1 dX0_queueEnds_75 rfl (lv_at hl 0 rfl) ?_
  refine lv_if_eq (tgt := 156) C.1 C.2.1 dX0_queueEnds_76 (by decide) (fun c_1 => ?_) (fun c_1 => ?_)
  · have hE := br_p hE c_1
    exact bX0_queueEnds_156 C hk_2 hk_17 k_x0 hkm hW hZ _ (lv_sub hl [1, 2, 3] rfl) hE
  · have hE := br_n hE c_1
    refine lv_aload_n C.1 C.2.1 dX0_queueEnds_79 rfl (lv_at hl 1 rfl) ?_
    refine lv_aload_n C.1 C.2.1 dX0_queueEnds_80 rfl (lv_at hl 1 rfl) ?_
    obtain ⟨r_2, er_2, hE⟩ := cl_e hE
    refine gf_X0_18 C hW k_x0 er_2 dX0_queueEnds_81 (fun k_r_2 => ?_)
    refine lv_iload_n C.1 C.2.1 dX0_queueEnds_84 rfl (lv_at hl 2 rfl) ?_
    obtain ⟨g_3, hE⟩ := gd_e hE
    refine y_iald C hW k_r_2 g_3 dX0_queueEnds_85 ?_
    refine lv_iload_n C.1 C.2.1 dX0_queueEnds_86 rfl (lv_at hl 3 rfl) ?_
    refine lv_aload_n C.1 C.2.1 dX0_queueEnds_87 rfl (lv_at hl 1 rfl) ?_
    obtain ⟨r_4, er_4, hE⟩ := cl_e hE
    refine gf_X0_22 C hW k_x0 er_4 dX0_queueEnds_88 (fun k_r_4 => ?_)
    refine lv_iload_n C.1 C.2.1 dX0_queueEnds_91 rfl (lv_at hl 2 rfl) ?_
    obtain ⟨g_5, hE⟩ := gd_e hE
    refine y_iald C hW k_r_4 g_5 dX0_queueEnds_92 ?_
    refine lv_isub C.1 C.2.1 dX0_queueEnds_93 ?_
    refine lv_iconst (v := (1 : Int32)) C.1 C.2.1 dX0_queueEnds_94 (by decide) ?_
    refine lv_ishr C.1 C.2.1 dX0_queueEnds_95 ?_
    obtain ⟨o_6, eo_6, hE⟩ := cl_e hE
    refine x_kI (o := o_6) (z_runV (As := [.int (hI h r_2 x1.toNatClampNeg), .int ((x2 - (hI h r_4 x1.toNatClampNeg)) >>> ((1 : Int32) &&& 31))]) (rest := []) C (ct_X0_layOut l X F k_x0 eo_6) cw_X0_111 hW hZ k_x0 (by decide) rfl rfl rfl hl.1 (Nat.le_of_ble_eq_true rfl) rfl dX0_queueEnds_96 ⟨Nat.le_of_ble_eq_true rfl, Nat.le_of_ble_eq_true rfl⟩ ⟨Nat.le_refl _, Nat.le_refl _⟩) hZ (fun _ _ hW km hZ => ?_)
    replace hkm := hkm.tr km
    replace k_x0 := km.at k_x0 (by decide)
    refine lv_if_eq (tgt := 156) C.1 C.2.1 dX0_queueEnds_99 (by decide) (fun c_7 => ?_) (fun c_7 => ?_)
    · have hE := br_p hE c_7
      exact bX0_queueEnds_156 C hk_2 hk_17 k_x0 hkm hW hZ _ (lv_sub hl [1, 2, 3] rfl) hE
    · have hE := br_n hE c_7
      refine lv_aload_n C.1 C.2.1 dX0_queueEnds_102 rfl (lv_at hl 1 rfl) ?_
      obtain ⟨r_8, er_8, hE⟩ := cl_e hE
      refine gf_X0_14 C hW k_x0 er_8 dX0_queueEnds_103 (fun k_r_8 => ?_)
      refine lv_iload_n C.1 C.2.1 dX0_queueEnds_106 rfl (lv_at hl 3 rfl) ?_
      refine lv_aload_n C.1 C.2.1 dX0_queueEnds_107 rfl (lv_at hl 1 rfl) ?_
      obtain ⟨r_9, er_9, hE⟩ := cl_e hE
      refine gf_X0_22 C hW k_x0 er_9 dX0_queueEnds_108 (fun k_r_9 => ?_)
      refine lv_iload_n C.1 C.2.1 dX0_queueEnds_111 rfl (lv_at hl 2 rfl) ?_
      obtain ⟨g_10, hE⟩ := gd_e hE
      refine y_iald C hW k_r_9 g_10 dX0_queueEnds_112 ?_
      refine lv_isub C.1 C.2.1 dX0_queueEnds_113 ?_
      refine lv_iconst (v := (1 : Int32)) C.1 C.2.1 dX0_queueEnds_114 (by decide) ?_
      refine lv_iand C.1 C.2.1 dX0_queueEnds_115 ?_
      obtain ⟨h_11, eh_11, hE⟩ := nm_e2 hE
      refine pf_X0_184 C hW hZ k_r_8 eh_11 dX0_queueEnds_116 (fun _ _ hW km hZ => ?_)
      replace hkm := hkm.tr km
      replace k_x0 := km.at k_x0 (by decide)
      refine lv_aload_n C.1 C.2.1 dX0_queueEnds_119 rfl (lv_at hl 1 rfl) ?_
      obtain ⟨r_12, er_12, hE⟩ := cl_e hE
      refine gf_X0_31 C hW k_x0 er_12 dX0_queueEnds_120 (fun k_r_12 => ?_)
      refine lv_iload_n C.1 C.2.1 dX0_queueEnds_123 rfl (lv_at hl 3 rfl) ?_
      refine lv_aload_n C.1 C.2.1 dX0_queueEnds_124 rfl (lv_at hl 1 rfl) ?_
      refine lv_aload_n C.1 C.2.1 dX0_queueEnds_125 rfl (lv_at hl 1 rfl) ?_
      obtain ⟨r_13, er_13, hE⟩ := cl_e hE
      refine gf_X0_48 C hW k_x0 er_13 dX0_queueEnds_126 (fun k_r_13 => ?_)
      refine lv_aload_n C.1 C.2.1 dX0_queueEnds_129 rfl (lv_at hl 1 rfl) ?_
      obtain ⟨r_14, er_14, hE⟩ := cl_e hE
      refine gf_X0_14 C hW k_x0 er_14 dX0_queueEnds_130 (fun k_r_14 => ?_)
      refine lv_aload_n C.1 C.2.1 dX0_queueEnds_133 rfl (lv_at hl 1 rfl) ?_
      obtain ⟨r_15, er_15, hE⟩ := cl_e hE
      refine gf_X0_14 C hW k_x0 er_15 dX0_queueEnds_134 (fun k_r_15 => ?_)
      refine gf_X0_184 C hW k_r_15 dX0_queueEnds_137 ?_
      obtain ⟨o_16, eo_16, hE⟩ := cl_e hE
      refine x_kI (o := o_16) (z_runV (As := [.ref r_14, .int (hI h_11 r_15 5)]) (rest := [.ref x0, .int x2, .ref r_12]) C (ct_X5_isRoyalHit l X F k_r_13 k_r_14 eo_16) cw_X0_187 hW hZ k_r_13 (by decide) rfl rfl rfl hl.1 (Nat.le_of_ble_eq_true rfl) rfl dX0_queueEnds_140 ⟨Nat.le_of_ble_eq_true rfl, Nat.le_of_ble_eq_true rfl⟩ ⟨Nat.le_refl _, Nat.le_refl _⟩) hZ (fun _ _ hW km hZ => ?_)
      replace hkm := hkm.tr km
      replace k_x0 := km.at k_x0 (by decide)
      replace k_r_12 := km.at k_r_12 (by decide)
      refine lv_if_eq (tgt := 150) C.1 C.2.1 dX0_queueEnds_143 (by decide) (fun c_17 => ?_) (fun c_17 => ?_)
      · have hE := br_p hE c_17
        refine lv_bipush (v := (6 : Int32)) C.1 C.2.1 dX0_queueEnds_150 (by decide) ?_
        exact bX0_queueEnds_152 C hk_2 hk_17 k_x0 k_x0 k_r_12 hkm hW hZ _ (lv_sub hl [1, 2, 3] rfl) hE
      · have hE := br_n hE c_17
        refine lv_iconst (v := (5 : Int32)) C.1 C.2.1 dX0_queueEnds_146 (by decide) ?_
        refine lv_goto (tgt := 152) C.1 C.2.1 dX0_queueEnds_147 (by decide) ?_
        exact bX0_queueEnds_152 C hk_2 hk_17 k_x0 k_x0 k_r_12 hkm hW hZ _ (lv_sub hl [1, 2, 3] rfl) hE
set_option maxRecDepth 20000 in
theorem bX0_queueEnds_73 {p : Program} {l : Launch} {e : Env} {s : State} {m : MethodId} {args : Array Value} {below : List Frame} {meth : Method} {c : Code} {X : Ec} {h0 : Hp} {o : Hp} {k_2 : Hp → Nat → Int32 → Option (Hp)} {k_17 : Hp → Nat → Int32 → Int32 → Option (Hp)} {F : Nat} (C : Cx X p s m args meth c RX0 cX0_queueEnds 4 none "queueEnds") (hk_2 : ∀ (h : Hp) (x0 : Nat) (x1 : Int32) (H : Heap) (locs : List Loc), hK h x0 = 0 → Km h0 h → Wx X h H → va_S (aA (eB X)) s.heap H locs → ∀ (ls : Array Slot), lv_has ls 4 [(0, .ref x0), (1, .int x1)] → k_2 h x0 x1 = some o → W p l e (rm 3 75) s m args below meth c H locs 0 0 (MQ below (QV X h0 o) args s 0 0 (aA (eB X))) (F0 m 2 ls [])) (hk_17 : ∀ (h : Hp) (x0 : Nat) (x1 : Int32) (x2 : Int32) (H : Heap) (locs : List Loc), hK h x0 = 0 → Km h0 h → Wx X h H → va_S (aA (eB X)) s.heap H locs → ∀ (ls : Array Slot), lv_has ls 4 [(0, .ref x0), (1, .int x1), (2, .int x2)] → k_17 h x0 x1 x2 = some o → W p l e (rm 3 75) s m args below meth c H locs 0 0 (MQ below (QV X h0 o) args s 0 0 (aA (eB X))) (F0 m 17 ls [])) {h : Hp} {x0 : Nat} {x1 : Int32} {x2 : Int32} {H : Heap} {locs : List Loc} (k_x0 : hK h x0 = 0) (hkm : Km h0 h) (hW : Wx X h H) (hZ : va_S (aA (eB X)) s.heap H locs) (ls : Array Slot) (hl : lv_has ls 4 [(0, .ref x0), (1, .int x1), (2, .int x2)]) (hE : sX0_queueEnds_73 F k_2 k_17 h x0 x1 x2 = some o) : W p l e (rm 3 75) s m args below meth c H locs 0 0 (MQ below (QV X h0 o) args s 0 0 (aA (eB X))) (F0 m 73 ls []) := by
  refine lv_iconst (v := (0 : Int32)) C.1 C.2.1 dX0_queueEnds_73 (by decide) ?_
  exact bX0_queueEnds_74 C hk_2 hk_17 k_x0 hkm hW hZ _ (lv_sub hl [0, 1, 2] rfl) hE
set_option maxRecDepth 20000 in
theorem bX0_queueEnds_45 {p : Program} {l : Launch} {e : Env} {s : State} {m : MethodId} {args : Array Value} {below : List Frame} {meth : Method} {c : Code} {X : Ec} {h0 : Hp} {o : Hp} {k_2 : Hp → Nat → Int32 → Option (Hp)} {k_17 : Hp → Nat → Int32 → Int32 → Option (Hp)} {F : Nat} (C : Cx X p s m args meth c RX0 cX0_queueEnds 4 none "queueEnds") (hk_2 : ∀ (h : Hp) (x0 : Nat) (x1 : Int32) (H : Heap) (locs : List Loc), hK h x0 = 0 → Km h0 h → Wx X h H → va_S (aA (eB X)) s.heap H locs → ∀ (ls : Array Slot), lv_has ls 4 [(0, .ref x0), (1, .int x1)] → k_2 h x0 x1 = some o → W p l e (rm 3 75) s m args below meth c H locs 0 0 (MQ below (QV X h0 o) args s 0 0 (aA (eB X))) (F0 m 2 ls [])) (hk_17 : ∀ (h : Hp) (x0 : Nat) (x1 : Int32) (x2 : Int32) (H : Heap) (locs : List Loc), hK h x0 = 0 → Km h0 h → Wx X h H → va_S (aA (eB X)) s.heap H locs → ∀ (ls : Array Slot), lv_has ls 4 [(0, .ref x0), (1, .int x1), (2, .int x2)] → k_17 h x0 x1 x2 = some o → W p l e (rm 3 75) s m args below meth c H locs 0 0 (MQ below (QV X h0 o) args s 0 0 (aA (eB X))) (F0 m 17 ls [])) {h : Hp} {x0 : Nat} {x1 : Int32} {x2 : Int32} {H : Heap} {locs : List Loc} (k_x0 : hK h x0 = 0) (hkm : Km h0 h) (hW : Wx X h H) (hZ : va_S (aA (eB X)) s.heap H locs) (ls : Array Slot) (hl : lv_has ls 4 [(0, .ref x0), (1, .int x1), (2, .int x2)]) (hE : sX0_queueEnds_45 F k_2 k_17 h x0 x1 x2 = some o) : W p l e (rm 3 75) s m args below meth c H locs 0 0 (MQ below (QV X h0 o) args s 0 0 (aA (eB X))) (F0 m 45 ls []) := by
  refine lv_aload_n C.1 C.2.1 dX0_queueEnds_45 rfl (lv_at hl 0 rfl) ?_
  obtain ⟨r_1, er_1, hE⟩ := cl_e hE
  refine gf_X0_31 C hW k_x0 er_1 dX0_queueEnds_46 (fun k_r_1 => ?_)
  refine lv_iload_n C.1 C.2.1 dX0_queueEnds_49 rfl (lv_at hl 2 rfl) ?_
  obtain ⟨g_2, hE⟩ := gd_e hE
  refine y_iald C hW k_r_1 g_2 dX0_queueEnds_50 ?_
  refine lv_ldc (v := (3000000 : Int32)) C.1 C.2.1 C.2.2.2.1 (C.2.2.2.2.1 _ m_1664) dX0_queueEnds_51 ?_
  refine lv_icmp_ne (tgt := 73) C.1 C.2.1 dX0_queueEnds_53 (by decide) (fun c_3 => ?_) (fun c_3 => ?_)
  · have hE := br_n hE c_3
    exact bX0_queueEnds_73 C hk_2 hk_17 k_x0 hkm hW hZ _ (lv_sub hl [0, 1, 2] rfl) hE
  · have hE := br_p hE c_3
    refine lv_aload_n C.1 C.2.1 dX0_queueEnds_56 rfl (lv_at hl 0 rfl) ?_
    obtain ⟨r_4, er_4, hE⟩ := cl_e hE
    refine gf_X0_34 C hW k_x0 er_4 dX0_queueEnds_57 (fun k_r_4 => ?_)
    refine lv_iload_n C.1 C.2.1 dX0_queueEnds_60 rfl (lv_at hl 2 rfl) ?_
    obtain ⟨g_5, hE⟩ := gd_e hE
    refine y_iald C hW k_r_4 g_5 dX0_queueEnds_61 ?_
    refine lv_sipush (v := (4095 : Int32)) C.1 C.2.1 dX0_queueEnds_62 (by decide) ?_
    refine lv_iand C.1 C.2.1 dX0_queueEnds_65 ?_
    refine lv_if_ne (tgt := 73) C.1 C.2.1 dX0_queueEnds_66 (by decide) (fun c_6 => ?_) (fun c_6 => ?_)
    · have hE := br_n hE c_6
      exact bX0_queueEnds_73 C hk_2 hk_17 k_x0 hkm hW hZ _ (lv_sub hl [0, 1, 2] rfl) hE
    · have hE := br_p hE c_6
      refine lv_iconst (v := (1 : Int32)) C.1 C.2.1 dX0_queueEnds_69 (by decide) ?_
      refine lv_goto (tgt := 74) C.1 C.2.1 dX0_queueEnds_70 (by decide) ?_
      exact bX0_queueEnds_74 C hk_2 hk_17 k_x0 hkm hW hZ _ (lv_sub hl [0, 1, 2] rfl) hE
set_option maxRecDepth 20000 in
theorem bX0_queueEnds_17 {p : Program} {l : Launch} {e : Env} {s : State} {m : MethodId} {args : Array Value} {below : List Frame} {meth : Method} {c : Code} {X : Ec} {h0 : Hp} {o : Hp} {k_2 : Hp → Nat → Int32 → Option (Hp)} {F : Nat} (C : Cx X p s m args meth c RX0 cX0_queueEnds 4 none "queueEnds") (hk_2 : ∀ (h : Hp) (x0 : Nat) (x1 : Int32) (H : Heap) (locs : List Loc), hK h x0 = 0 → Km h0 h → Wx X h H → va_S (aA (eB X)) s.heap H locs → ∀ (ls : Array Slot), lv_has ls 4 [(0, .ref x0), (1, .int x1)] → k_2 h x0 x1 = some o → W p l e (rm 3 75) s m args below meth c H locs 0 0 (MQ below (QV X h0 o) args s 0 0 (aA (eB X))) (F0 m 2 ls [])) : ∀ (f : Nat) {h : Hp} {x0 : Nat} {x1 : Int32} {x2 : Int32} {H : Heap} {locs : List Loc} (k_x0 : hK h x0 = 0), Km h0 h → Wx X h H → va_S (aA (eB X)) s.heap H locs → ∀ (ls : Array Slot), lv_has ls 4 [(0, .ref x0), (1, .int x1), (2, .int x2)] → sX0_queueEnds_17 F k_2 f h x0 x1 x2 = some o → W p l e (rm 3 75) s m args below meth c H locs 0 0 (MQ below (QV X h0 o) args s 0 0 (aA (eB X))) (F0 m 17 ls []) := by
  intro f
  induction f with
  | zero =>
    intro h x0 x1 x2 H locs k_x0 hkm hW hZ ls hl hE
    rw [sX0_queueEnds_17] at hE
    cases hE
  | succ f ih =>
    intro h x0 x1 x2 H locs k_x0 hkm hW hZ ls hl hE
    rw [sX0_queueEnds_17] at hE
    have hk_17 : ∀ (h : Hp) (x0 : Nat) (x1 : Int32) (x2 : Int32) (H : Heap) (locs : List Loc), hK h x0 = 0 → Km h0 h → Wx X h H → va_S (aA (eB X)) s.heap H locs → ∀ (ls : Array Slot), lv_has ls 4 [(0, .ref x0), (1, .int x1), (2, .int x2)] → sX0_queueEnds_17 F k_2 f h x0 x1 x2 = some o → W p l e (rm 3 75) s m args below meth c H locs 0 0 (MQ below (QV X h0 o) args s 0 0 (aA (eB X))) (F0 m 17 ls []) := fun h x0 x1 x2 H locs k_x0 a b c ls hl hE => ih k_x0 a b c ls hl hE
    refine lv_iload_n C.1 C.2.1 dX0_queueEnds_17 rfl (lv_at hl 2 rfl) ?_
    refine lv_aload_n C.1 C.2.1 dX0_queueEnds_18 rfl (lv_at hl 0 rfl) ?_
    obtain ⟨r_1, er_1, hE⟩ := cl_e hE
    refine gf_X0_22 C hW k_x0 er_1 dX0_queueEnds_19 (fun k_r_1 => ?_)
    refine lv_iload_n C.1 C.2.1 dX0_queueEnds_22 rfl (lv_at hl 1 rfl) ?_
    refine lv_iconst (v := (1 : Int32)) C.1 C.2.1 dX0_queueEnds_23 (by decide) ?_
    refine lv_iadd C.1 C.2.1 dX0_queueEnds_24 ?_
    obtain ⟨g_2, hE⟩ := gd_e hE
    refine y_iald C hW k_r_1 g_2 dX0_queueEnds_25 ?_
    refine lv_icmp_ge (tgt := 189) C.1 C.2.1 dX0_queueEnds_26 (by decide) (fun c_3 => ?_) (fun c_3 => ?_)
    · have hE := br_p hE c_3
      obtain ⟨v_4, ev_4, hE⟩ := nm_e2 hE
      refine lv_iinc (v := v_4) (lv' := [(1, .int v_4), (0, .ref x0), (2, .int x2)]) C.1 C.2.1 dX0_queueEnds_189 hl (k := 1) rfl (by rw [ev_4]; rfl) (by decide) rfl (fun ls hl => ?_)
      refine lv_goto (tgt := 2) C.1 C.2.1 dX0_queueEnds_192 (by decide) ?_
      exact hk_2 _ _ _ _ _ k_x0 hkm hW hZ _ (lv_sub hl [1, 0] rfl) hE
    · have hE := br_n hE c_3
      refine lv_aload_n C.1 C.2.1 dX0_queueEnds_29 rfl (lv_at hl 0 rfl) ?_
      obtain ⟨r_5, er_5, hE⟩ := cl_e hE
      refine gf_X0_31 C hW k_x0 er_5 dX0_queueEnds_30 (fun k_r_5 => ?_)
      refine lv_iload_n C.1 C.2.1 dX0_queueEnds_33 rfl (lv_at hl 2 rfl) ?_
      obtain ⟨g_6, hE⟩ := gd_e hE
      refine y_iald C hW k_r_5 g_6 dX0_queueEnds_34 ?_
      refine lv_ldc (v := (3000000 : Int32)) C.1 C.2.1 C.2.2.2.1 (C.2.2.2.2.1 _ m_1664) dX0_queueEnds_35 ?_
      refine lv_icmp_ne (tgt := 45) C.1 C.2.1 dX0_queueEnds_37 (by decide) (fun c_7 => ?_) (fun c_7 => ?_)
      · have hE := br_n hE c_7
        exact bX0_queueEnds_45 C hk_2 hk_17 k_x0 hkm hW hZ _ (lv_sub hl [0, 1, 2] rfl) hE
      · have hE := br_p hE c_7
        refine lv_aload_n C.1 C.2.1 dX0_queueEnds_40 rfl (lv_at hl 0 rfl) ?_
        refine lv_iload_n C.1 C.2.1 dX0_queueEnds_41 rfl (lv_at hl 2 rfl) ?_
        obtain ⟨o_8, eo_8, hE⟩ := cl_e hE
        refine x_kV (o := o_8) (z_runV (As := [.int x2]) (rest := []) C (ct_X0_settleCount l X k_x0 eo_8) cw_X0_206 hW hZ k_x0 (by decide) rfl rfl rfl hl.1 (Nat.le_of_ble_eq_true rfl) rfl dX0_queueEnds_42 ⟨Nat.le_of_ble_eq_true rfl, Nat.le_of_ble_eq_true rfl⟩ ⟨Nat.le_refl _, Nat.le_refl _⟩) hZ (fun _ _ hW km hZ => ?_)
        replace hkm := hkm.tr km
        replace k_x0 := km.at k_x0 (by decide)
        exact bX0_queueEnds_45 C hk_2 hk_17 k_x0 hkm hW hZ _ (lv_sub hl [0, 1, 2] rfl) hE
set_option maxRecDepth 20000 in
theorem bX0_queueEnds_2 {p : Program} {l : Launch} {e : Env} {s : State} {m : MethodId} {args : Array Value} {below : List Frame} {meth : Method} {c : Code} {X : Ec} {h0 : Hp} {o : Hp} {F : Nat} (C : Cx X p s m args meth c RX0 cX0_queueEnds 4 none "queueEnds") : ∀ (f : Nat) {h : Hp} {x0 : Nat} {x1 : Int32} {H : Heap} {locs : List Loc} (k_x0 : hK h x0 = 0), Km h0 h → Wx X h H → va_S (aA (eB X)) s.heap H locs → ∀ (ls : Array Slot), lv_has ls 4 [(0, .ref x0), (1, .int x1)] → sX0_queueEnds_2 F f h x0 x1 = some o → W p l e (rm 3 75) s m args below meth c H locs 0 0 (MQ below (QV X h0 o) args s 0 0 (aA (eB X))) (F0 m 2 ls []) := by
  intro f
  induction f with
  | zero =>
    intro h x0 x1 H locs k_x0 hkm hW hZ ls hl hE
    rw [sX0_queueEnds_2] at hE
    cases hE
  | succ f ih =>
    intro h x0 x1 H locs k_x0 hkm hW hZ ls hl hE
    rw [sX0_queueEnds_2] at hE
    have hk_2 : ∀ (h : Hp) (x0 : Nat) (x1 : Int32) (H : Heap) (locs : List Loc), hK h x0 = 0 → Km h0 h → Wx X h H → va_S (aA (eB X)) s.heap H locs → ∀ (ls : Array Slot), lv_has ls 4 [(0, .ref x0), (1, .int x1)] → sX0_queueEnds_2 F f h x0 x1 = some o → W p l e (rm 3 75) s m args below meth c H locs 0 0 (MQ below (QV X h0 o) args s 0 0 (aA (eB X))) (F0 m 2 ls []) := fun h x0 x1 H locs k_x0 a b c ls hl hE => ih k_x0 a b c ls hl hE
    refine lv_iload_n C.1 C.2.1 dX0_queueEnds_2 rfl (lv_at hl 1 rfl) ?_
    refine lv_aload_n C.1 C.2.1 dX0_queueEnds_3 rfl (lv_at hl 0 rfl) ?_
    refine gf_X0_129 C hW k_x0 dX0_queueEnds_4 ?_
    refine lv_icmp_ge (tgt := 195) C.1 C.2.1 dX0_queueEnds_7 (by decide) (fun c_1 => ?_) (fun c_1 => ?_)
    · have hE := br_p hE c_1
      exact x_vret C rfl hW hZ hkm hE dX0_queueEnds_195
    · have hE := br_n hE c_1
      refine lv_aload_n C.1 C.2.1 dX0_queueEnds_10 rfl (lv_at hl 0 rfl) ?_
      obtain ⟨r_2, er_2, hE⟩ := cl_e hE
      refine gf_X0_22 C hW k_x0 er_2 dX0_queueEnds_11 (fun k_r_2 => ?_)
      refine lv_iload_n C.1 C.2.1 dX0_queueEnds_14 rfl (lv_at hl 1 rfl) ?_
      obtain ⟨g_3, hE⟩ := gd_e hE
      refine y_iald C hW k_r_2 g_3 dX0_queueEnds_15 ?_
      obtain ⟨v_4, ev_4, hE⟩ := nm_e2 hE
      refine x_nmI ev_4 ?_
      refine lv_istore_n (lv' := [(2, .int v_4), (0, .ref x0), (1, .int x1)]) C.1 C.2.1 dX0_queueEnds_16 rfl hl (by decide) rfl (fun ls hl => ?_)
      exact bX0_queueEnds_17 C hk_2 F k_x0 hkm hW hZ _ (lv_sub hl [1, 2, 0] rfl) hE
set_option maxRecDepth 20000 in
theorem ct_X0_queueEnds (l : Launch) (X : Ec) (F : Nat) {h : Hp} {x0 : Nat} {o : Hp} (k_x0 : hK h x0 = 0) (hE : sX0_queueEnds F h x0 = some o) : MetV l yX0_queueEnds cX0_queueEnds 4 none 3 75 X [.ref x0] h o := by
  refine x_met (by decide) (Nat.le_of_ble_eq_true rfl) ?_
  intro p e s m below meth c ls C hl hW hZ
  have hl : lv_has ls 4 [(0, .ref x0)] := hl
  have hkm : Km h h := Km.rf h
  refine lv_iconst (v := (0 : Int32)) C.1 C.2.1 dX0_queueEnds_0 (by decide) ?_
  refine lv_istore_n (lv' := [(1, .int (0 : Int32)), (0, .ref x0)]) C.1 C.2.1 dX0_queueEnds_1 rfl hl (by decide) rfl (fun ls hl => ?_)
  exact bX0_queueEnds_2 C F k_x0 hkm hW hZ _ (lv_sub hl [1, 0] rfl) hE
