theorem dX0_takeBack_0 : decode cX0_takeBack 0 = .ok (.aload_n 0, 1) := by decide +kernel
theorem dX0_takeBack_1 : decode cX0_takeBack 1 = .ok (.iload_n 1, 1) := by decide +kernel
theorem dX0_takeBack_2 : decode cX0_takeBack 2 = .ok (.iload_n 2, 1) := by decide +kernel
theorem dX0_takeBack_3 : decode cX0_takeBack 3 = .ok (.iconst (-1), 1) := by decide +kernel
theorem dX0_takeBack_4 : decode cX0_takeBack 4 = .ok (.invokevirtual 238, 3) := by decide +kernel
theorem dX0_takeBack_7 : decode cX0_takeBack 7 = .ok (.aload_n 0, 1) := by decide +kernel
theorem dX0_takeBack_8 : decode cX0_takeBack 8 = .ok (.getfield 14, 3) := by decide +kernel
theorem dX0_takeBack_11 : decode cX0_takeBack 11 = .ok (.invokevirtual 165, 3) := by decide +kernel
theorem dX0_takeBack_14 : decode cX0_takeBack 14 = .ok (.invokestatic 241, 3) := by decide +kernel
theorem dX0_takeBack_17 : decode cX0_takeBack 17 = .ok (.aload_n 0, 1) := by decide +kernel
theorem dX0_takeBack_18 : decode cX0_takeBack 18 = .ok (.getfield 93, 3) := by decide +kernel
theorem dX0_takeBack_21 : decode cX0_takeBack 21 = .ok (.invokestatic 142, 3) := by decide +kernel
theorem dX0_takeBack_24 : decode cX0_takeBack 24 = .ok (.if_icmp .lt 4, 3) := by decide +kernel
theorem dX0_takeBack_27 : decode cX0_takeBack 27 = .ok (.return_, 1) := by decide +kernel
theorem dX0_takeBack_28 : decode cX0_takeBack 28 = .ok (.iconst 0, 1) := by decide +kernel
theorem dX0_takeBack_29 : decode cX0_takeBack 29 = .ok (.istore_n 3, 1) := by decide +kernel
theorem dX0_takeBack_30 : decode cX0_takeBack 30 = .ok (.iload_n 3, 1) := by decide +kernel
theorem dX0_takeBack_31 : decode cX0_takeBack 31 = .ok (.aload_n 0, 1) := by decide +kernel
theorem dX0_takeBack_32 : decode cX0_takeBack 32 = .ok (.getfield 40, 3) := by decide +kernel
theorem dX0_takeBack_35 : decode cX0_takeBack 35 = .ok (.getfield 232, 3) := by decide +kernel
theorem dX0_takeBack_38 : decode cX0_takeBack 38 = .ok (.if_icmp .ge 35, 3) := by decide +kernel
theorem dX0_takeBack_41 : decode cX0_takeBack 41 = .ok (.iload_n 3, 1) := by decide +kernel
theorem dX0_takeBack_42 : decode cX0_takeBack 42 = .ok (.aload_n 0, 1) := by decide +kernel
theorem dX0_takeBack_43 : decode cX0_takeBack 43 = .ok (.getfield 40, 3) := by decide +kernel
theorem dX0_takeBack_46 : decode cX0_takeBack 46 = .ok (.getfield 67, 3) := by decide +kernel
theorem dX0_takeBack_49 : decode cX0_takeBack 49 = .ok (.if_icmp .eq 18, 3) := by decide +kernel
theorem dX0_takeBack_52 : decode cX0_takeBack 52 = .ok (.aload_n 0, 1) := by decide +kernel
theorem dX0_takeBack_53 : decode cX0_takeBack 53 = .ok (.iload_n 1, 1) := by decide +kernel
theorem dX0_takeBack_54 : decode cX0_takeBack 54 = .ok (.iload_n 2, 1) := by decide +kernel
theorem dX0_takeBack_55 : decode cX0_takeBack 55 = .ok (.iconst 2, 1) := by decide +kernel
theorem dX0_takeBack_56 : decode cX0_takeBack 56 = .ok (.iload_n 3, 1) := by decide +kernel
theorem dX0_takeBack_57 : decode cX0_takeBack 57 = .ok (.imul, 1) := by decide +kernel
theorem dX0_takeBack_58 : decode cX0_takeBack 58 = .ok (.iconst 1, 1) := by decide +kernel
theorem dX0_takeBack_59 : decode cX0_takeBack 59 = .ok (.iadd, 1) := by decide +kernel
theorem dX0_takeBack_60 : decode cX0_takeBack 60 = .ok (.iload_n 2, 1) := by decide +kernel
theorem dX0_takeBack_61 : decode cX0_takeBack 61 = .ok (.iconst 1, 1) := by decide +kernel
theorem dX0_takeBack_62 : decode cX0_takeBack 62 = .ok (.iand, 1) := by decide +kernel
theorem dX0_takeBack_63 : decode cX0_takeBack 63 = .ok (.isub, 1) := by decide +kernel
theorem dX0_takeBack_64 : decode cX0_takeBack 64 = .ok (.invokevirtual 238, 3) := by decide +kernel
theorem dX0_takeBack_67 : decode cX0_takeBack 67 = .ok (.iinc 3 1, 3) := by decide +kernel
theorem dX0_takeBack_70 : decode cX0_takeBack 70 = .ok (.goto (-40), 3) := by decide +kernel
theorem dX0_takeBack_73 : decode cX0_takeBack 73 = .ok (.return_, 1) := by decide +kernel
def sX0_takeBack_67 (F : Nat) (k_30 : Hp → Nat → Int32 → Int32 → Int32 → Option (Hp)) (h : Hp) (x0 : Nat) (x1 : Int32) (x2 : Int32) (x3 : Int32) : Option (Hp) := nm (x3 + (1 : Int32)) fun v_1 => k_30 h x0 x1 x2 v_1
def sX0_takeBack_30 (F : Nat) : Nat → Hp → Nat → Int32 → Int32 → Int32 → Option (Hp)
  | 0, _, _, _, _, _ => none
  | f + 1, h, x0, x1, x2, x3 => cl (hR h x0 0) fun r_1 => br ((hI h r_1 3) ≤ x3) (some h) (cl (hR h x0 0) fun r_3 => br (x3 = (hI h r_3 4)) (sX0_takeBack_67 F (sX0_takeBack_30 F f) h x0 x1 x2 x3) (cl (sX0_takeBackTaking F h x0 x1 x2 ((((2 : Int32) * x3) + (1 : Int32)) - (x2 &&& (1 : Int32)))) fun o_5 => sX0_takeBack_67 F (sX0_takeBack_30 F f) o_5 x0 x1 x2 x3))
def sX0_takeBack (F : Nat) (h : Hp) (x0 : Nat) (x1 : Int32) (x2 : Int32) : Option (Hp) := cl (sX0_takeBackTaking F h x0 x1 x2 (-1 : Int32)) fun o_1 => cl (hR o_1 x0 3) fun r_2 => cl (sX3_occupied o_1 r_2) fun o_3 => cl (sJ13_bitCount_95d88 o_3.2 o_3.1) fun o_4 => cl (sX0_sizeOf F o_4.2 (hI o_4.2 x0 15)) fun o_5 => br (o_4.1 < o_5.1) (sX0_takeBack_30 F F o_5.2 x0 x1 x2 (0 : Int32)) (some o_5.2)
set_option maxRecDepth 20000 in
theorem moX0_takeBack_67 {o : Hp} {k_30 : Hp → Nat → Int32 → Int32 → Int32 → Option (Hp)} {F : Nat} (mk_30 : ∀ (h : Hp) (x0 : Nat) (x1 : Int32) (x2 : Int32) (x3 : Int32), k_30 h x0 x1 x2 x3 = some o → Le h o) {h : Hp} {x0 : Nat} {x1 : Int32} {x2 : Int32} {x3 : Int32} (hE : sX0_takeBack_67 F k_30 h x0 x1 x2 x3 = some o) : Le h o := by
  obtain ⟨v_1, ev_1, hE⟩ := nm_e2 hE
  exact mk_30 _ _ _ _ _ hE
set_option maxRecDepth 20000 in
theorem moX0_takeBack_30 {o : Hp} {F : Nat} : ∀ (f : Nat) {h : Hp} {x0 : Nat} {x1 : Int32} {x2 : Int32} {x3 : Int32}, sX0_takeBack_30 F f h x0 x1 x2 x3 = some o → Le h o := by
  intro f
  induction f with
  | zero =>
    intro h x0 x1 x2 x3 hE
    rw [sX0_takeBack_30] at hE
    cases hE
  | succ f ih =>
    intro h x0 x1 x2 x3 hE
    rw [sX0_takeBack_30] at hE
    have mk_30 : ∀ (h : Hp) (x0 : Nat) (x1 : Int32) (x2 : Int32) (x3 : Int32), sX0_takeBack_30 F f h x0 x1 x2 x3 = some o → Le h o := fun h x0 x1 x2 x3 hE => ih hE
    obtain ⟨r_1, er_1, hE⟩ := cl_e hE
    rcases br_e hE with ⟨_, hE⟩ | ⟨_, hE⟩
    · first | exact le_some2 hE | exact le_some1 hE
    · obtain ⟨r_3, er_3, hE⟩ := cl_e hE
      rcases br_e hE with ⟨_, hE⟩ | ⟨_, hE⟩
      · exact moX0_takeBack_67 mk_30 hE
      · obtain ⟨o_5, eo_5, hE⟩ := cl_e hE
        refine (moX0_takeBackTaking eo_5).tr ?_
        exact moX0_takeBack_67 mk_30 hE
set_option maxRecDepth 20000 in
theorem moX0_takeBack {o : Hp} {F : Nat} {h : Hp} {x0 : Nat} {x1 : Int32} {x2 : Int32} (hE : sX0_takeBack F h x0 x1 x2 = some o) : Le h o := by
  obtain ⟨o_1, eo_1, hE⟩ := cl_e hE
  refine (moX0_takeBackTaking eo_1).tr ?_
  obtain ⟨r_2, er_2, hE⟩ := cl_e hE
  obtain ⟨o_3, eo_3, hE⟩ := cl_e hE
  refine (moX3_occupied eo_3).tr ?_
  obtain ⟨o_4, eo_4, hE⟩ := cl_e hE
  refine (moJ13_bitCount_95d88 eo_4).tr ?_
  obtain ⟨o_5, eo_5, hE⟩ := cl_e hE
  refine (moX0_sizeOf eo_5).tr ?_
  rcases br_e hE with ⟨_, hE⟩ | ⟨_, hE⟩
  · exact moX0_takeBack_30 _ hE
  · first | exact le_some2 hE | exact le_some1 hE
set_option maxRecDepth 20000 in
theorem bX0_takeBack_67 {p : Program} {l : Launch} {e : Env} {s : State} {m : MethodId} {args : Array Value} {below : List Frame} {meth : Method} {c : Code} {X : Ec} {h0 : Hp} {o : Hp} {k_30 : Hp → Nat → Int32 → Int32 → Int32 → Option (Hp)} {F : Nat} (C : Cx X p s m args meth c RX0 cX0_takeBack 4 none "takeBack") (hk_30 : ∀ (h : Hp) (x0 : Nat) (x1 : Int32) (x2 : Int32) (x3 : Int32) (H : Heap) (locs : List Loc), hK h x0 = 0 → Km h0 h → Wx X h H → va_S (aA (eB X)) s.heap H locs → ∀ (ls : Array Slot), lv_has ls 4 [(0, .ref x0), (1, .int x1), (2, .int x2), (3, .int x3)] → k_30 h x0 x1 x2 x3 = some o → W p l e (rm 3 94) s m args below meth c H locs 0 0 (MQ below (QV X h0 o) args s 0 0 (aA (eB X))) (F0 m 30 ls [])) {h : Hp} {x0 : Nat} {x1 : Int32} {x2 : Int32} {x3 : Int32} {H : Heap} {locs : List Loc} (k_x0 : hK h x0 = 0) (hkm : Km h0 h) (hW : Wx X h H) (hZ : va_S (aA (eB X)) s.heap H locs) (ls : Array Slot) (hl : lv_has ls 4 [(0, .ref x0), (1, .int x1), (2, .int x2), (3, .int x3)]) (hE : sX0_takeBack_67 F k_30 h x0 x1 x2 x3 = some o) : W p l e (rm 3 94) s m args below meth c H locs 0 0 (MQ below (QV X h0 o) args s 0 0 (aA (eB X))) (F0 m 67 ls []) := by
  obtain ⟨v_1, ev_1, hE⟩ := nm_e2 hE
  refine lv_iinc (v := v_1) (lv' := [(3, .int v_1), (0, .ref x0), (1, .int x1), (2, .int x2)]) C.1 C.2.1 dX0_takeBack_67 hl (k := 3) rfl (by rw [ev_1]; rfl) (by decide) rfl (fun ls hl => ?_)
  refine lv_goto (tgt := 30) C.1 C.2.1 dX0_takeBack_70 (by decide) ?_
  exact hk_30 _ _ _ _ _ _ _ k_x0 hkm hW hZ _ (lv_sub hl [1, 2, 3, 0] rfl) hE
set_option maxRecDepth 20000 in
theorem bX0_takeBack_30 {p : Program} {l : Launch} {e : Env} {s : State} {m : MethodId} {args : Array Value} {below : List Frame} {meth : Method} {c : Code} {X : Ec} {h0 : Hp} {o : Hp} {F : Nat} (C : Cx X p s m args meth c RX0 cX0_takeBack 4 none "takeBack") : ∀ (f : Nat) {h : Hp} {x0 : Nat} {x1 : Int32} {x2 : Int32} {x3 : Int32} {H : Heap} {locs : List Loc} (k_x0 : hK h x0 = 0), Km h0 h → Wx X h H → va_S (aA (eB X)) s.heap H locs → ∀ (ls : Array Slot), lv_has ls 4 [(0, .ref x0), (1, .int x1), (2, .int x2), (3, .int x3)] → sX0_takeBack_30 F f h x0 x1 x2 x3 = some o → W p l e (rm 3 94) s m args below meth c H locs 0 0 (MQ below (QV X h0 o) args s 0 0 (aA (eB X))) (F0 m 30 ls []) := by
  intro f
  induction f with
  | zero =>
    intro h x0 x1 x2 x3 H locs k_x0 hkm hW hZ ls hl hE
    rw [sX0_takeBack_30] at hE
    cases hE
  | succ f ih =>
    intro h x0 x1 x2 x3 H locs k_x0 hkm hW hZ ls hl hE
    rw [sX0_takeBack_30] at hE
    have hk_30 : ∀ (h : Hp) (x0 : Nat) (x1 : Int32) (x2 : Int32) (x3 : Int32) (H : Heap) (locs : List Loc), hK h x0 = 0 → Km h0 h → Wx X h H → va_S (aA (eB X)) s.heap H locs → ∀ (ls : Array Slot), lv_has ls 4 [(0, .ref x0), (1, .int x1), (2, .int x2), (3, .int x3)] → sX0_takeBack_30 F f h x0 x1 x2 x3 = some o → W p l e (rm 3 94) s m args below meth c H locs 0 0 (MQ below (QV X h0 o) args s 0 0 (aA (eB X))) (F0 m 30 ls []) := fun h x0 x1 x2 x3 H locs k_x0 a b c ls hl hE => ih k_x0 a b c ls hl hE
    refine lv_iload_n C.1 C.2.1 dX0_takeBack_30 rfl (lv_at hl 3 rfl) ?_
    refine lv_aload_n C.1 C.2.1 dX0_takeBack_31 rfl (lv_at hl 0 rfl) ?_
    obtain ⟨r_1, er_1, hE⟩ := cl_e hE
    refine gf_X0_40 C hW k_x0 er_1 dX0_takeBack_32 (fun k_r_1 => ?_)
    refine gf_X0_232 C hW k_r_1 dX0_takeBack_35 ?_
    refine lv_icmp_ge (tgt := 73) C.1 C.2.1 dX0_takeBack_38 (by decide) (fun c_2 => ?_) (fun c_2 => ?_)
    · have hE := br_p hE c_2
      exact x_vret C rfl hW hZ hkm hE dX0_takeBack_73
    · have hE := br_n hE c_2
      refine lv_iload_n C.1 C.2.1 dX0_takeBack_41 rfl (lv_at hl 3 rfl) ?_
      refine lv_aload_n C.1 C.2.1 dX0_takeBack_42 rfl (lv_at hl 0 rfl) ?_
      obtain ⟨r_3, er_3, hE⟩ := cl_e hE
      refine gf_X0_40 C hW k_x0 er_3 dX0_takeBack_43 (fun k_r_3 => ?_)
      refine gf_X0_67 C hW k_r_3 dX0_takeBack_46 ?_
      refine lv_icmp_eq (tgt := 67) C.1 C.2.1 dX0_takeBack_49 (by decide) (fun c_4 => ?_) (fun c_4 => ?_)
      · have hE := br_p hE c_4
        exact bX0_takeBack_67 C hk_30 k_x0 hkm hW hZ _ (lv_sub hl [0, 1, 2, 3] rfl) hE
      · have hE := br_n hE c_4
        refine lv_aload_n C.1 C.2.1 dX0_takeBack_52 rfl (lv_at hl 0 rfl) ?_
        refine lv_iload_n C.1 C.2.1 dX0_takeBack_53 rfl (lv_at hl 1 rfl) ?_
        refine lv_iload_n C.1 C.2.1 dX0_takeBack_54 rfl (lv_at hl 2 rfl) ?_
        refine lv_iconst (v := (2 : Int32)) C.1 C.2.1 dX0_takeBack_55 (by decide) ?_
        refine lv_iload_n C.1 C.2.1 dX0_takeBack_56 rfl (lv_at hl 3 rfl) ?_
        refine lv_imul C.1 C.2.1 dX0_takeBack_57 ?_
        refine lv_iconst (v := (1 : Int32)) C.1 C.2.1 dX0_takeBack_58 (by decide) ?_
        refine lv_iadd C.1 C.2.1 dX0_takeBack_59 ?_
        refine lv_iload_n C.1 C.2.1 dX0_takeBack_60 rfl (lv_at hl 2 rfl) ?_
        refine lv_iconst (v := (1 : Int32)) C.1 C.2.1 dX0_takeBack_61 (by decide) ?_
        refine lv_iand C.1 C.2.1 dX0_takeBack_62 ?_
        refine lv_isub C.1 C.2.1 dX0_takeBack_63 ?_
        obtain ⟨o_5, eo_5, hE⟩ := cl_e hE
        refine x_kV (o := o_5) (z_runV (As := [.int x1, .int x2, .int ((((2 : Int32) * x3) + (1 : Int32)) - (x2 &&& (1 : Int32)))]) (rest := []) C (ct_X0_takeBackTaking l X F k_x0 eo_5) cw_X0_238 hW hZ k_x0 (by decide) rfl rfl rfl hl.1 (Nat.le_of_ble_eq_true rfl) rfl dX0_takeBack_64 ⟨Nat.le_of_ble_eq_true rfl, Nat.le_of_ble_eq_true rfl⟩ ⟨Nat.le_refl _, Nat.le_refl _⟩) hZ (fun _ _ hW km hZ => ?_)
        replace hkm := hkm.tr km
        replace k_x0 := km.at k_x0 (by decide)
        exact bX0_takeBack_67 C hk_30 k_x0 hkm hW hZ _ (lv_sub hl [0, 1, 2, 3] rfl) hE
set_option maxRecDepth 20000 in
theorem ct_X0_takeBack (l : Launch) (X : Ec) (F : Nat) {h : Hp} {x0 : Nat} {x1 : Int32} {x2 : Int32} {o : Hp} (k_x0 : hK h x0 = 0) (hE : sX0_takeBack F h x0 x1 x2 = some o) : MetV l yX0_takeBack cX0_takeBack 4 none 3 94 X [.ref x0, .int x1, .int x2] h o := by
  refine x_met (by decide) (Nat.le_of_ble_eq_true rfl) ?_
  intro p e s m below meth c ls C hl hW hZ
  have hl : lv_has ls 4 [(0, .ref x0), (1, .int x1), (2, .int x2)] := hl
  have hkm : Km h h := Km.rf h
  refine lv_aload_n C.1 C.2.1 dX0_takeBack_0 rfl (lv_at hl 0 rfl) ?_
  refine lv_iload_n C.1 C.2.1 dX0_takeBack_1 rfl (lv_at hl 1 rfl) ?_
  refine lv_iload_n C.1 C.2.1 dX0_takeBack_2 rfl (lv_at hl 2 rfl) ?_
  refine lv_iconst (v := (-1 : Int32)) C.1 C.2.1 dX0_takeBack_3 (by decide) ?_
  obtain ⟨o_1, eo_1, hE⟩ := cl_e hE
  refine x_kV (o := o_1) (z_runV (As := [.int x1, .int x2, .int (-1 : Int32)]) (rest := []) C (ct_X0_takeBackTaking l X F k_x0 eo_1) cw_X0_238 hW hZ k_x0 (by decide) rfl rfl rfl hl.1 (Nat.le_of_ble_eq_true rfl) rfl dX0_takeBack_4 ⟨Nat.le_of_ble_eq_true rfl, Nat.le_of_ble_eq_true rfl⟩ ⟨Nat.le_refl _, Nat.le_refl _⟩) hZ (fun _ _ hW km hZ => ?_)
  replace hkm := hkm.tr km
  replace k_x0 := km.at k_x0 (by decide)
  refine lv_aload_n C.1 C.2.1 dX0_takeBack_7 rfl (lv_at hl 0 rfl) ?_
  obtain ⟨r_2, er_2, hE⟩ := cl_e hE
  refine gf_X0_14 C hW k_x0 er_2 dX0_takeBack_8 (fun k_r_2 => ?_)
  obtain ⟨o_3, eo_3, hE⟩ := cl_e hE
  refine x_kJ (o := o_3) (z_runV (As := []) (rest := []) C (ct_X3_occupied l X k_r_2 eo_3) cw_X0_165 hW hZ k_r_2 (by decide) rfl rfl rfl hl.1 (Nat.le_of_ble_eq_true rfl) rfl dX0_takeBack_11 ⟨Nat.le_of_ble_eq_true rfl, Nat.le_of_ble_eq_true rfl⟩ ⟨Nat.le_refl _, Nat.le_refl _⟩) hZ (fun _ _ hW km hZ => ?_)
  replace hkm := hkm.tr km
  replace k_x0 := km.at k_x0 (by decide)
  obtain ⟨o_4, eo_4, hE⟩ := cl_e hE
  refine x_kI (o := o_4) (z_runS (As := [.long o_3.1]) (rest := []) C (ct_J13_bitCount_95d88 l X eo_4) cw_X0_241 hW hZ rfl hl.1 (Nat.le_of_ble_eq_true rfl) rfl dX0_takeBack_14 ⟨Nat.le_of_ble_eq_true rfl, Nat.le_of_ble_eq_true rfl⟩ ⟨Nat.le_refl _, Nat.le_refl _⟩) hZ (fun _ _ hW km hZ => ?_)
  replace hkm := hkm.tr km
  replace k_x0 := km.at k_x0 (by decide)
  refine lv_aload_n C.1 C.2.1 dX0_takeBack_17 rfl (lv_at hl 0 rfl) ?_
  refine gf_X0_93 C hW k_x0 dX0_takeBack_18 ?_
  obtain ⟨o_5, eo_5, hE⟩ := cl_e hE
  refine x_kI (o := o_5) (z_runS (As := [.int (hI o_4.2 x0 15)]) (rest := [.int o_4.1]) C (ct_X0_sizeOf l X F eo_5) cw_X0_142 hW hZ rfl hl.1 (Nat.le_of_ble_eq_true rfl) rfl dX0_takeBack_21 ⟨Nat.le_of_ble_eq_true rfl, Nat.le_of_ble_eq_true rfl⟩ ⟨Nat.le_refl _, Nat.le_refl _⟩) hZ (fun _ _ hW km hZ => ?_)
  replace hkm := hkm.tr km
  replace k_x0 := km.at k_x0 (by decide)
  refine lv_icmp_lt (tgt := 28) C.1 C.2.1 dX0_takeBack_24 (by decide) (fun c_6 => ?_) (fun c_6 => ?_)
  · have hE := br_p hE c_6
    refine lv_iconst (v := (0 : Int32)) C.1 C.2.1 dX0_takeBack_28 (by decide) ?_
    refine lv_istore_n (lv' := [(3, .int (0 : Int32)), (0, .ref x0), (1, .int x1), (2, .int x2)]) C.1 C.2.1 dX0_takeBack_29 rfl hl (by decide) rfl (fun ls hl => ?_)
    exact bX0_takeBack_30 C F k_x0 hkm hW hZ _ (lv_sub hl [1, 2, 3, 0] rfl) hE
  · have hE := br_n hE c_6
    exact x_vret C rfl hW hZ hkm hE dX0_takeBack_27
theorem ms_100 : Cond.selects RX0 yX0_takeBack yX0_takeBack ∈ W0 := w0_in (List.mem_append_left _ (List.mem_of_getElem? (i := 100) (by decide +kernel))) rfl
theorem m_285 : Cond.fieldLink RX0 224 (TX3 1).1 (TX3 1).2.1 (TX3 1).2.2.1 ∈ W0 := w0_in (List.mem_append_right _ (List.mem_of_getElem? (i := 285) (by decide +kernel))) rfl
theorem m_1701 : Cond.methodLink RX0 220 yX1_has ∈ W0 := w0_in (List.mem_append_right _ (List.mem_of_getElem? (i := 1701) (by decide +kernel))) rfl
theorem m_1702 : Cond.methodLink RX0 228 yX0_takeBack ∈ W0 := w0_in (List.mem_append_right _ (List.mem_of_getElem? (i := 1702) (by decide +kernel))) rfl
theorem m_1704 : Cond.instanceMethod yX0_takeBack ∈ W0 := w0_in (List.mem_append_right _ (List.mem_of_getElem? (i := 1704) (by decide +kernel))) rfl
theorem m_1705 : Cond.code yX0_takeBack cX0_takeBack 4 none ∈ W0 := w0_in (List.mem_append_right _ (List.mem_of_getElem? (i := 1705) (by decide +kernel))) rfl
theorem m_1745 : Cond.methodLink RX0 235 yX1_becomesThis ∈ W0 := w0_in (List.mem_append_right _ (List.mem_of_getElem? (i := 1745) (by decide +kernel))) rfl
section
variable {p : Program} {l : Launch} {e : Env} {R : Room} {s : State} {m : MethodId} {args : Array Value} {below : List Frame} {meth : Method} {c : Code} {H : Heap} {locs : List Loc} {cells slots : Nat} {Q : State → Prop}
variable {cc : ByteArray} {pc : Nat} {ls : Array Slot} {rest : List Value} {X : Ec} {h h1 : Hp} {nL : Nat} {rt : Option FieldType} {mn : String}
theorem gf_X0_224 {a r : Nat} (C : Cx X p s m args meth c RX0 cc nL rt mn) (hW : Wx X h H) (ha : hK h a = 3) (hr : hR h a 1 = some r) (hdg : decode cc pc = .ok (.getfield 224, 3)) (kk : hK h r = 18 → W p l e R s m args below meth c H locs cells slots Q (F0 m (pc + 3) ls (.ref r :: rest))) : W p l e R s m args below meth c H locs cells slots Q (F0 m pc ls (.ref a :: rest)) :=
  y_getr C hW ha i_X3 (by decide) rfl (by decide) m_285 rfl rfl hr hdg kk
end
theorem cw_X0_235 : cwd RX0 235 yX1_becomesThis cX1_becomesThis 4 (some .boolean) false 2 := ⟨m_1601, m_1745, m_4, ⟨m_1599, m_1600⟩, by decide, by decide, by decide +kernel⟩
theorem cw_X0_228 : cwd RX0 228 yX0_takeBack cX0_takeBack 4 none false 2 := ⟨m_1705, m_1702, m_13, ⟨m_1704, ms_100⟩, by decide, by decide, by decide +kernel⟩
theorem cw_X0_220 : cwd RX0 220 yX1_has cX1_has 2 (some .boolean) false 1 := ⟨m_1052, m_1701, m_4, ⟨m_1050, m_1051⟩, by decide, by decide, by decide +kernel⟩
theorem dX0_goBack_0 : decode cX0_goBack 0 = .ok (.iconst 1, 1) := by decide +kernel
theorem dX0_goBack_1 : decode cX0_goBack 1 = .ok (.iload_n 1, 1) := by decide +kernel
theorem dX0_goBack_2 : decode cX0_goBack 2 = .ok (.isub, 1) := by decide +kernel
theorem dX0_goBack_3 : decode cX0_goBack 3 = .ok (.istore_n 2, 1) := by decide +kernel
theorem dX0_goBack_4 : decode cX0_goBack 4 = .ok (.aload_n 0, 1) := by decide +kernel
theorem dX0_goBack_5 : decode cX0_goBack 5 = .ok (.getfield 40, 3) := by decide +kernel
theorem dX0_goBack_8 : decode cX0_goBack 8 = .ok (.iconst 4, 1) := by decide +kernel
theorem dX0_goBack_9 : decode cX0_goBack 9 = .ok (.invokevirtual 220, 3) := by decide +kernel
theorem dX0_goBack_12 : decode cX0_goBack 12 = .ok (.ifCond .eq 19, 3) := by decide +kernel
theorem dX0_goBack_15 : decode cX0_goBack 15 = .ok (.aload_n 0, 1) := by decide +kernel
theorem dX0_goBack_16 : decode cX0_goBack 16 = .ok (.getfield 48, 3) := by decide +kernel
theorem dX0_goBack_19 : decode cX0_goBack 19 = .ok (.aload_n 0, 1) := by decide +kernel
theorem dX0_goBack_20 : decode cX0_goBack 20 = .ok (.getfield 14, 3) := by decide +kernel
theorem dX0_goBack_23 : decode cX0_goBack 23 = .ok (.iload_n 1, 1) := by decide +kernel
theorem dX0_goBack_24 : decode cX0_goBack 24 = .ok (.invokevirtual 195, 3) := by decide +kernel
theorem dX0_goBack_27 : decode cX0_goBack 27 = .ok (.ifCond .eq 4, 3) := by decide +kernel
theorem dX0_goBack_30 : decode cX0_goBack 30 = .ok (.return_, 1) := by decide +kernel
theorem dX0_goBack_31 : decode cX0_goBack 31 = .ok (.aload_n 0, 1) := by decide +kernel
theorem dX0_goBack_32 : decode cX0_goBack 32 = .ok (.getfield 14, 3) := by decide +kernel
theorem dX0_goBack_35 : decode cX0_goBack 35 = .ok (.getfield 224, 3) := by decide +kernel
theorem dX0_goBack_38 : decode cX0_goBack 38 = .ok (.iload_n 2, 1) := by decide +kernel
theorem dX0_goBack_39 : decode cX0_goBack 39 = .ok (.laload, 1) := by decide +kernel
theorem dX0_goBack_40 : decode cX0_goBack 40 = .ok (.lstore_n 3, 1) := by decide +kernel
theorem dX0_goBack_41 : decode cX0_goBack 41 = .ok (.iconst 0, 1) := by decide +kernel
theorem dX0_goBack_42 : decode cX0_goBack 42 = .ok (.istore 5, 2) := by decide +kernel
theorem dX0_goBack_44 : decode cX0_goBack 44 = .ok (.iload 5, 2) := by decide +kernel
theorem dX0_goBack_46 : decode cX0_goBack 46 = .ok (.bipush 64, 2) := by decide +kernel
theorem dX0_goBack_48 : decode cX0_goBack 48 = .ok (.if_icmp .ge 109, 3) := by decide +kernel
theorem dX0_goBack_51 : decode cX0_goBack 51 = .ok (.lload_n 3, 1) := by decide +kernel
theorem dX0_goBack_52 : decode cX0_goBack 52 = .ok (.lconst 0, 1) := by decide +kernel
theorem dX0_goBack_53 : decode cX0_goBack 53 = .ok (.lcmp, 1) := by decide +kernel
theorem dX0_goBack_54 : decode cX0_goBack 54 = .ok (.ifCond .eq 103, 3) := by decide +kernel
theorem dX0_goBack_57 : decode cX0_goBack 57 = .ok (.lload_n 3, 1) := by decide +kernel
theorem dX0_goBack_58 : decode cX0_goBack 58 = .ok (.invokestatic 169, 3) := by decide +kernel
theorem dX0_goBack_61 : decode cX0_goBack 61 = .ok (.istore 6, 2) := by decide +kernel
theorem dX0_goBack_63 : decode cX0_goBack 63 = .ok (.lload_n 3, 1) := by decide +kernel
theorem dX0_goBack_64 : decode cX0_goBack 64 = .ok (.lload_n 3, 1) := by decide +kernel
theorem dX0_goBack_65 : decode cX0_goBack 65 = .ok (.lconst 1, 1) := by decide +kernel
theorem dX0_goBack_66 : decode cX0_goBack 66 = .ok (.lsub, 1) := by decide +kernel
theorem dX0_goBack_67 : decode cX0_goBack 67 = .ok (.land, 1) := by decide +kernel
theorem dX0_goBack_68 : decode cX0_goBack 68 = .ok (.lstore_n 3, 1) := by decide +kernel
theorem dX0_goBack_69 : decode cX0_goBack 69 = .ok (.aload_n 0, 1) := by decide +kernel
theorem dX0_goBack_70 : decode cX0_goBack 70 = .ok (.getfield 14, 3) := by decide +kernel
theorem dX0_goBack_73 : decode cX0_goBack 73 = .ok (.getfield 184, 3) := by decide +kernel
theorem dX0_goBack_76 : decode cX0_goBack 76 = .ok (.iload 6, 2) := by decide +kernel
theorem dX0_goBack_78 : decode cX0_goBack 78 = .ok (.baload, 1) := by decide +kernel
theorem dX0_goBack_79 : decode cX0_goBack 79 = .ok (.istore 7, 2) := by decide +kernel
theorem dX0_goBack_81 : decode cX0_goBack 81 = .ok (.aload_n 0, 1) := by decide +kernel
theorem dX0_goBack_82 : decode cX0_goBack 82 = .ok (.iload 6, 2) := by decide +kernel
theorem dX0_goBack_84 : decode cX0_goBack 84 = .ok (.iload 7, 2) := by decide +kernel
theorem dX0_goBack_86 : decode cX0_goBack 86 = .ok (.invokevirtual 228, 3) := by decide +kernel
theorem dX0_goBack_89 : decode cX0_goBack 89 = .ok (.iconst 0, 1) := by decide +kernel
theorem dX0_goBack_90 : decode cX0_goBack 90 = .ok (.istore 8, 2) := by decide +kernel
theorem dX0_goBack_92 : decode cX0_goBack 92 = .ok (.iload 8, 2) := by decide +kernel
theorem dX0_goBack_94 : decode cX0_goBack 94 = .ok (.aload_n 0, 1) := by decide +kernel
theorem dX0_goBack_95 : decode cX0_goBack 95 = .ok (.getfield 40, 3) := by decide +kernel
theorem dX0_goBack_98 : decode cX0_goBack 98 = .ok (.getfield 232, 3) := by decide +kernel
theorem dX0_goBack_101 : decode cX0_goBack 101 = .ok (.if_icmp .ge 50, 3) := by decide +kernel
theorem dX0_goBack_104 : decode cX0_goBack 104 = .ok (.aload_n 0, 1) := by decide +kernel
theorem dX0_goBack_105 : decode cX0_goBack 105 = .ok (.getfield 40, 3) := by decide +kernel
theorem dX0_goBack_108 : decode cX0_goBack 108 = .ok (.iload 6, 2) := by decide +kernel
theorem dX0_goBack_110 : decode cX0_goBack 110 = .ok (.iload_n 2, 1) := by decide +kernel
theorem dX0_goBack_111 : decode cX0_goBack 111 = .ok (.invokevirtual 181, 3) := by decide +kernel
theorem dX0_goBack_114 : decode cX0_goBack 114 = .ok (.ifCond .eq 37, 3) := by decide +kernel
theorem dX0_goBack_117 : decode cX0_goBack 117 = .ok (.aload_n 0, 1) := by decide +kernel
theorem dX0_goBack_118 : decode cX0_goBack 118 = .ok (.getfield 40, 3) := by decide +kernel
theorem dX0_goBack_121 : decode cX0_goBack 121 = .ok (.iload 8, 2) := by decide +kernel
theorem dX0_goBack_123 : decode cX0_goBack 123 = .ok (.iload 7, 2) := by decide +kernel
theorem dX0_goBack_125 : decode cX0_goBack 125 = .ok (.iconst 1, 1) := by decide +kernel
theorem dX0_goBack_126 : decode cX0_goBack 126 = .ok (.ishr, 1) := by decide +kernel
theorem dX0_goBack_127 : decode cX0_goBack 127 = .ok (.invokevirtual 235, 3) := by decide +kernel
theorem dX0_goBack_130 : decode cX0_goBack 130 = .ok (.ifCond .eq 15, 3) := by decide +kernel
theorem dX0_goBack_133 : decode cX0_goBack 133 = .ok (.aload_n 0, 1) := by decide +kernel
theorem dX0_goBack_134 : decode cX0_goBack 134 = .ok (.iload 6, 2) := by decide +kernel
theorem dX0_goBack_136 : decode cX0_goBack 136 = .ok (.iconst 2, 1) := by decide +kernel
theorem dX0_goBack_137 : decode cX0_goBack 137 = .ok (.iload 8, 2) := by decide +kernel
theorem dX0_goBack_139 : decode cX0_goBack 139 = .ok (.imul, 1) := by decide +kernel
theorem dX0_goBack_140 : decode cX0_goBack 140 = .ok (.iload_n 2, 1) := by decide +kernel
theorem dX0_goBack_141 : decode cX0_goBack 141 = .ok (.iadd, 1) := by decide +kernel
theorem dX0_goBack_142 : decode cX0_goBack 142 = .ok (.invokevirtual 228, 3) := by decide +kernel
theorem dX0_goBack_145 : decode cX0_goBack 145 = .ok (.iinc 8 1, 3) := by decide +kernel
theorem dX0_goBack_148 : decode cX0_goBack 148 = .ok (.goto (-56), 3) := by decide +kernel
theorem dX0_goBack_151 : decode cX0_goBack 151 = .ok (.iinc 5 1, 3) := by decide +kernel
theorem dX0_goBack_154 : decode cX0_goBack 154 = .ok (.goto (-110), 3) := by decide +kernel
theorem dX0_goBack_157 : decode cX0_goBack 157 = .ok (.return_, 1) := by decide +kernel
def sX0_goBack_157 (F : Nat) (h : Hp) : Option (Hp) := some h
def sX0_goBack_151 (F : Nat) (k_44 : Hp → Nat → Int32 → Int64 → Int32 → Option (Hp)) (h : Hp) (x0 : Nat) (x2 : Int32) (x3 : Int64) (x5 : Int32) : Option (Hp) := nm (x5 + (1 : Int32)) fun v_1 => k_44 h x0 x2 x3 v_1
def sX0_goBack_145 (F : Nat) (k_44 : Hp → Nat → Int32 → Int64 → Int32 → Option (Hp)) (k_92 : Hp → Nat → Int32 → Int64 → Int32 → Int32 → Int32 → Int32 → Option (Hp)) (h : Hp) (x0 : Nat) (x2 : Int32) (x3 : Int64) (x5 : Int32) (x6 : Int32) (x7 : Int32) (x8 : Int32) : Option (Hp) := nm (x8 + (1 : Int32)) fun v_1 => k_92 h x0 x2 x3 x5 x6 x7 v_1
def sX0_goBack_92 (F : Nat) (k_44 : Hp → Nat → Int32 → Int64 → Int32 → Option (Hp)) : Nat → Hp → Nat → Int32 → Int64 → Int32 → Int32 → Int32 → Int32 → Option (Hp)
  | 0, _, _, _, _, _, _, _, _ => none
  | f + 1, h, x0, x2, x3, x5, x6, x7, x8 => cl (hR h x0 0) fun r_1 => br ((hI h r_1 3) ≤ x8) (sX0_goBack_151 F k_44 h x0 x2 x3 x5) (cl (hR h x0 0) fun r_3 => cl (sX1_isLast h r_3 x6 x2) fun o_4 => br (o_4.1 = 0) (sX0_goBack_151 F k_44 o_4.2 x0 x2 x3 x5) (cl (hR o_4.2 x0 0) fun r_6 => cl (sX1_becomesThis F o_4.2 r_6 x8 (x7 >>> ((1 : Int32) &&& 31))) fun o_7 => br (o_7.1 = 0) (sX0_goBack_145 F k_44 (sX0_goBack_92 F k_44 f) o_7.2 x0 x2 x3 x5 x6 x7 x8) (cl (sX0_takeBack F o_7.2 x0 x6 (((2 : Int32) * x8) + x2)) fun o_9 => sX0_goBack_145 F k_44 (sX0_goBack_92 F k_44 f) o_9 x0 x2 x3 x5 x6 x7 x8)))
def sX0_goBack_44 (F : Nat) : Nat → Hp → Nat → Int32 → Int64 → Int32 → Option (Hp)
  | 0, _, _, _, _, _ => none
  | f + 1, h, x0, x2, x3, x5 => br ((64 : Int32) ≤ x5) (sX0_goBack_157 F h ) (br ((lg_cmp x3 (0 : Int64)) = 0) (sX0_goBack_157 F h ) (cl (sX11_lowest h x3) fun o_3 => nm (x3 &&& (x3 - (1 : Int64))) fun v_4 => cl (hR o_3.2 x0 3) fun r_5 => cl (hR o_3.2 r_5 0) fun r_6 => gd (inB o_3.1 (hN o_3.2 r_6)) <| nm (hI o_3.2 r_6 o_3.1.toNatClampNeg) fun v_8 => cl (sX0_takeBack F o_3.2 x0 o_3.1 v_8) fun o_9 => sX0_goBack_92 F (sX0_goBack_44 F f) F o_9 x0 x2 v_4 x5 o_3.1 v_8 (0 : Int32)))
def sX0_goBack_31 (F : Nat) (h : Hp) (x0 : Nat) (x2 : Int32) : Option (Hp) := cl (hR h x0 3) fun r_1 => cl (hR h r_1 1) fun r_2 => gd (inB x2 (hN h r_2)) <| nm (hJ h r_2 x2.toNatClampNeg) fun v_4 => sX0_goBack_44 F F h x0 x2 v_4 (0 : Int32)
def sX0_goBack (F : Nat) (h : Hp) (x0 : Nat) (x1 : Int32) : Option (Hp) := nm ((1 : Int32) - x1) fun v_1 => cl (hR h x0 0) fun r_2 => cl (sX1_has h r_2 (4 : Int32)) fun o_3 => br (o_3.1 = 0) (sX0_goBack_31 F o_3.2 x0 v_1) (cl (hR o_3.2 x0 2) fun r_5 => cl (hR o_3.2 x0 3) fun r_6 => cl (sX5_isRoyalHit F o_3.2 r_5 r_6 x1) fun o_7 => br (o_7.1 = 0) (sX0_goBack_31 F o_7.2 x0 v_1) (some o_7.2))
set_option maxRecDepth 20000 in
theorem moX0_goBack_157 {o : Hp} {F : Nat} {h : Hp} (hE : sX0_goBack_157 F h  = some o) : Le h o := by
  first | exact le_some2 hE | exact le_some1 hE
set_option maxRecDepth 20000 in
theorem moX0_goBack_151 {o : Hp} {k_44 : Hp → Nat → Int32 → Int64 → Int32 → Option (Hp)} {F : Nat} (mk_44 : ∀ (h : Hp) (x0 : Nat) (x2 : Int32) (x3 : Int64) (x5 : Int32), k_44 h x0 x2 x3 x5 = some o → Le h o) {h : Hp} {x0 : Nat} {x2 : Int32} {x3 : Int64} {x5 : Int32} (hE : sX0_goBack_151 F k_44 h x0 x2 x3 x5 = some o) : Le h o := by
  obtain ⟨v_1, ev_1, hE⟩ := nm_e2 hE
  exact mk_44 _ _ _ _ _ hE
set_option maxRecDepth 20000 in
theorem moX0_goBack_145 {o : Hp} {k_44 : Hp → Nat → Int32 → Int64 → Int32 → Option (Hp)} {k_92 : Hp → Nat → Int32 → Int64 → Int32 → Int32 → Int32 → Int32 → Option (Hp)} {F : Nat} (mk_44 : ∀ (h : Hp) (x0 : Nat) (x2 : Int32) (x3 : Int64) (x5 : Int32), k_44 h x0 x2 x3 x5 = some o → Le h o) (mk_92 : ∀ (h : Hp) (x0 : Nat) (x2 : Int32) (x3 : Int64) (x5 : Int32) (x6 : Int32) (x7 : Int32) (x8 : Int32), k_92 h x0 x2 x3 x5 x6 x7 x8 = some o → Le h o) {h : Hp} {x0 : Nat} {x2 : Int32} {x3 : Int64} {x5 : Int32} {x6 : Int32} {x7 : Int32} {x8 : Int32} (hE : sX0_goBack_145 F k_44 k_92 h x0 x2 x3 x5 x6 x7 x8 = some o) : Le h o := by
  obtain ⟨v_1, ev_1, hE⟩ := nm_e2 hE
  exact mk_92 _ _ _ _ _ _ _ _ hE
set_option maxRecDepth 20000 in
theorem moX0_goBack_92 {o : Hp} {k_44 : Hp → Nat → Int32 → Int64 → Int32 → Option (Hp)} {F : Nat} (mk_44 : ∀ (h : Hp) (x0 : Nat) (x2 : Int32) (x3 : Int64) (x5 : Int32), k_44 h x0 x2 x3 x5 = some o → Le h o) : ∀ (f : Nat) {h : Hp} {x0 : Nat} {x2 : Int32} {x3 : Int64} {x5 : Int32} {x6 : Int32} {x7 : Int32} {x8 : Int32}, sX0_goBack_92 F k_44 f h x0 x2 x3 x5 x6 x7 x8 = some o → Le h o := by
  intro f
  induction f with
  | zero =>
    intro h x0 x2 x3 x5 x6 x7 x8 hE
    rw [sX0_goBack_92] at hE
    cases hE
  | succ f ih =>
    intro h x0 x2 x3 x5 x6 x7 x8 hE
    rw [sX0_goBack_92] at hE
    have mk_92 : ∀ (h : Hp) (x0 : Nat) (x2 : Int32) (x3 : Int64) (x5 : Int32) (x6 : Int32) (x7 : Int32) (x8 : Int32), sX0_goBack_92 F k_44 f h x0 x2 x3 x5 x6 x7 x8 = some o → Le h o := fun h x0 x2 x3 x5 x6 x7 x8 hE => ih hE
    obtain ⟨r_1, er_1, hE⟩ := cl_e hE
    rcases br_e hE with ⟨_, hE⟩ | ⟨_, hE⟩
    · exact moX0_goBack_151 mk_44 hE
    · obtain ⟨r_3, er_3, hE⟩ := cl_e hE
      obtain ⟨o_4, eo_4, hE⟩ := cl_e hE
      refine (moX1_isLast eo_4).tr ?_
      rcases br_e hE with ⟨_, hE⟩ | ⟨_, hE⟩
      · exact moX0_goBack_151 mk_44 hE
      · obtain ⟨r_6, er_6, hE⟩ := cl_e hE
        obtain ⟨o_7, eo_7, hE⟩ := cl_e hE
        refine (moX1_becomesThis eo_7).tr ?_
        rcases br_e hE with ⟨_, hE⟩ | ⟨_, hE⟩
        · exact moX0_goBack_145 mk_44 mk_92 hE
        · obtain ⟨o_9, eo_9, hE⟩ := cl_e hE
          refine (moX0_takeBack eo_9).tr ?_
          exact moX0_goBack_145 mk_44 mk_92 hE
set_option maxRecDepth 20000 in
theorem moX0_goBack_44 {o : Hp} {F : Nat} : ∀ (f : Nat) {h : Hp} {x0 : Nat} {x2 : Int32} {x3 : Int64} {x5 : Int32}, sX0_goBack_44 F f h x0 x2 x3 x5 = some o → Le h o := by
  intro f
  induction f with
  | zero =>
    intro h x0 x2 x3 x5 hE
    rw [sX0_goBack_44] at hE
    cases hE
  | succ f ih =>
    intro h x0 x2 x3 x5 hE
    rw [sX0_goBack_44] at hE
    have mk_44 : ∀ (h : Hp) (x0 : Nat) (x2 : Int32) (x3 : Int64) (x5 : Int32), sX0_goBack_44 F f h x0 x2 x3 x5 = some o → Le h o := fun h x0 x2 x3 x5 hE => ih hE
    rcases br_e hE with ⟨_, hE⟩ | ⟨_, hE⟩
    · exact moX0_goBack_157 hE
    · rcases br_e hE with ⟨_, hE⟩ | ⟨_, hE⟩
      · exact moX0_goBack_157 hE
      · obtain ⟨o_3, eo_3, hE⟩ := cl_e hE
        refine (moX11_lowest eo_3).tr ?_
        obtain ⟨v_4, ev_4, hE⟩ := nm_e2 hE
        obtain ⟨r_5, er_5, hE⟩ := cl_e hE
        obtain ⟨r_6, er_6, hE⟩ := cl_e hE
        obtain ⟨g_7, hE⟩ := gd_e hE
        obtain ⟨v_8, ev_8, hE⟩ := nm_e2 hE
        obtain ⟨o_9, eo_9, hE⟩ := cl_e hE
        refine (moX0_takeBack eo_9).tr ?_
        exact moX0_goBack_92 mk_44 _ hE
set_option maxRecDepth 20000 in
theorem moX0_goBack_31 {o : Hp} {F : Nat} {h : Hp} {x0 : Nat} {x2 : Int32} (hE : sX0_goBack_31 F h x0 x2 = some o) : Le h o := by
  obtain ⟨r_1, er_1, hE⟩ := cl_e hE
  obtain ⟨r_2, er_2, hE⟩ := cl_e hE
  obtain ⟨g_3, hE⟩ := gd_e hE
  obtain ⟨v_4, ev_4, hE⟩ := nm_e2 hE
  exact moX0_goBack_44 _ hE
set_option maxRecDepth 20000 in
theorem moX0_goBack {o : Hp} {F : Nat} {h : Hp} {x0 : Nat} {x1 : Int32} (hE : sX0_goBack F h x0 x1 = some o) : Le h o := by
  obtain ⟨v_1, ev_1, hE⟩ := nm_e2 hE
  obtain ⟨r_2, er_2, hE⟩ := cl_e hE
  obtain ⟨o_3, eo_3, hE⟩ := cl_e hE
  refine (moX1_has eo_3).tr ?_
  rcases br_e hE with ⟨_, hE⟩ | ⟨_, hE⟩
  · exact moX0_goBack_31 hE
  · obtain ⟨r_5, er_5, hE⟩ := cl_e hE
    obtain ⟨r_6, er_6, hE⟩ := cl_e hE
    obtain ⟨o_7, eo_7, hE⟩ := cl_e hE
    refine (moX5_isRoyalHit eo_7).tr ?_
    rcases br_e hE with ⟨_, hE⟩ | ⟨_, hE⟩
    · exact moX0_goBack_31 hE
    · first | exact le_some2 hE | exact le_some1 hE
set_option maxRecDepth 20000 in
theorem bX0_goBack_157 {p : Program} {l : Launch} {e : Env} {s : State} {m : MethodId} {args : Array Value} {below : List Frame} {meth : Method} {c : Code} {X : Ec} {h0 : Hp} {o : Hp} {F : Nat} (C : Cx X p s m args meth c RX0 cX0_goBack 9 none "goBack") {h : Hp} {H : Heap} {locs : List Loc} (hkm : Km h0 h) (hW : Wx X h H) (hZ : va_S (aA (eB X)) s.heap H locs) (ls : Array Slot) (hl : lv_has ls 9 []) (hE : sX0_goBack_157 F h  = some o) : W p l e (rm 4 117) s m args below meth c H locs 0 0 (MQ below (QV X h0 o) args s 0 0 (aA (eB X))) (F0 m 157 ls []) := by
  exact x_vret C rfl hW hZ hkm hE dX0_goBack_157
set_option maxRecDepth 20000 in
theorem bX0_goBack_151 {p : Program} {l : Launch} {e : Env} {s : State} {m : MethodId} {args : Array Value} {below : List Frame} {meth : Method} {c : Code} {X : Ec} {h0 : Hp} {o : Hp} {k_44 : Hp → Nat → Int32 → Int64 → Int32 → Option (Hp)} {F : Nat} (C : Cx X p s m args meth c RX0 cX0_goBack 9 none "goBack") (hk_44 : ∀ (h : Hp) (x0 : Nat) (x2 : Int32) (x3 : Int64) (x5 : Int32) (H : Heap) (locs : List Loc), hK h x0 = 0 → Km h0 h → Wx X h H → va_S (aA (eB X)) s.heap H locs → ∀ (ls : Array Slot), lv_has ls 9 [(0, .ref x0), (2, .int x2), (3, .long x3), (5, .int x5)] → k_44 h x0 x2 x3 x5 = some o → W p l e (rm 4 117) s m args below meth c H locs 0 0 (MQ below (QV X h0 o) args s 0 0 (aA (eB X))) (F0 m 44 ls [])) {h : Hp} {x0 : Nat} {x2 : Int32} {x3 : Int64} {x5 : Int32} {H : Heap} {locs : List Loc} (k_x0 : hK h x0 = 0) (hkm : Km h0 h) (hW : Wx X h H) (hZ : va_S (aA (eB X)) s.heap H locs) (ls : Array Slot) (hl : lv_has ls 9 [(0, .ref x0), (2, .int x2), (3, .long x3), (5, .int x5)]) (hE : sX0_goBack_151 F k_44 h x0 x2 x3 x5 = some o) : W p l e (rm 4 117) s m args below meth c H locs 0 0 (MQ below (QV X h0 o) args s 0 0 (aA (eB X))) (F0 m 151 ls []) := by
  obtain ⟨v_1, ev_1, hE⟩ := nm_e2 hE
  refine lv_iinc (v := v_1) (lv' := [(5, .int v_1), (0, .ref x0), (2, .int x2), (3, .long x3)]) C.1 C.2.1 dX0_goBack_151 hl (k := 3) rfl (by rw [ev_1]; rfl) (by decide) rfl (fun ls hl => ?_)
  refine lv_goto (tgt := 44) C.1 C.2.1 dX0_goBack_154 (by decide) ?_
  exact hk_44 _ _ _ _ _ _ _ k_x0 hkm hW hZ _ (lv_sub hl [1, 2, 3, 0] rfl) hE
set_option maxRecDepth 20000 in
theorem bX0_goBack_145 {p : Program} {l : Launch} {e : Env} {s : State} {m : MethodId} {args : Array Value} {below : List Frame} {meth : Method} {c : Code} {X : Ec} {h0 : Hp} {o : Hp} {k_44 : Hp → Nat → Int32 → Int64 → Int32 → Option (Hp)} {k_92 : Hp → Nat → Int32 → Int64 → Int32 → Int32 → Int32 → Int32 → Option (Hp)} {F : Nat} (C : Cx X p s m args meth c RX0 cX0_goBack 9 none "goBack") (hk_44 : ∀ (h : Hp) (x0 : Nat) (x2 : Int32) (x3 : Int64) (x5 : Int32) (H : Heap) (locs : List Loc), hK h x0 = 0 → Km h0 h → Wx X h H → va_S (aA (eB X)) s.heap H locs → ∀ (ls : Array Slot), lv_has ls 9 [(0, .ref x0), (2, .int x2), (3, .long x3), (5, .int x5)] → k_44 h x0 x2 x3 x5 = some o → W p l e (rm 4 117) s m args below meth c H locs 0 0 (MQ below (QV X h0 o) args s 0 0 (aA (eB X))) (F0 m 44 ls [])) (hk_92 : ∀ (h : Hp) (x0 : Nat) (x2 : Int32) (x3 : Int64) (x5 : Int32) (x6 : Int32) (x7 : Int32) (x8 : Int32) (H : Heap) (locs : List Loc), hK h x0 = 0 → Km h0 h → Wx X h H → va_S (aA (eB X)) s.heap H locs → ∀ (ls : Array Slot), lv_has ls 9 [(0, .ref x0), (2, .int x2), (3, .long x3), (5, .int x5), (6, .int x6), (7, .int x7), (8, .int x8)] → k_92 h x0 x2 x3 x5 x6 x7 x8 = some o → W p l e (rm 4 117) s m args below meth c H locs 0 0 (MQ below (QV X h0 o) args s 0 0 (aA (eB X))) (F0 m 92 ls [])) {h : Hp} {x0 : Nat} {x2 : Int32} {x3 : Int64} {x5 : Int32} {x6 : Int32} {x7 : Int32} {x8 : Int32} {H : Heap} {locs : List Loc} (k_x0 : hK h x0 = 0) (hkm : Km h0 h) (hW : Wx X h H) (hZ : va_S (aA (eB X)) s.heap H locs) (ls : Array Slot) (hl : lv_has ls 9 [(0, .ref x0), (2, .int x2), (3, .long x3), (5, .int x5), (6, .int x6), (7, .int x7), (8, .int x8)]) (hE : sX0_goBack_145 F k_44 k_92 h x0 x2 x3 x5 x6 x7 x8 = some o) : W p l e (rm 4 117) s m args below meth c H locs 0 0 (MQ below (QV X h0 o) args s 0 0 (aA (eB X))) (F0 m 145 ls []) := by
  obtain ⟨v_1, ev_1, hE⟩ := nm_e2 hE
  refine lv_iinc (v := v_1) (lv' := [(8, .int v_1), (0, .ref x0), (2, .int x2), (3, .long x3), (5, .int x5), (6, .int x6), (7, .int x7)]) C.1 C.2.1 dX0_goBack_145 hl (k := 6) rfl (by rw [ev_1]; rfl) (by decide) rfl (fun ls hl => ?_)
  refine lv_goto (tgt := 92) C.1 C.2.1 dX0_goBack_148 (by decide) ?_
  exact hk_92 _ _ _ _ _ _ _ _ _ _ k_x0 hkm hW hZ _ (lv_sub hl [1, 2, 3, 4, 5, 6, 0] rfl) hE
set_option maxRecDepth 20000 in
theorem bX0_goBack_92 {p : Program} {l : Launch} {e : Env} {s : State} {m : MethodId} {args : Array Value} {below : List Frame} {meth : Method} {c : Code} {X : Ec} {h0 : Hp} {o : Hp} {k_44 : Hp → Nat → Int32 → Int64 → Int32 → Option (Hp)} {F : Nat} (C : Cx X p s m args meth c RX0 cX0_goBack 9 none "goBack") (hk_44 : ∀ (h : Hp) (x0 : Nat) (x2 : Int32) (x3 : Int64) (x5 : Int32) (H : Heap) (locs : List Loc), hK h x0 = 0 → Km h0 h → Wx X h H → va_S (aA (eB X)) s.heap H locs → ∀ (ls : Array Slot), lv_has ls 9 [(0, .ref x0), (2, .int x2), (3, .long x3), (5, .int x5)] → k_44 h x0 x2 x3 x5 = some o → W p l e (rm 4 117) s m args below meth c H locs 0 0 (MQ below (QV X h0 o) args s 0 0 (aA (eB X))) (F0 m 44 ls [])) : ∀ (f : Nat) {h : Hp} {x0 : Nat} {x2 : Int32} {x3 : Int64} {x5 : Int32} {x6 : Int32} {x7 : Int32} {x8 : Int32} {H : Heap} {locs : List Loc} (k_x0 : hK h x0 = 0), Km h0 h → Wx X h H → va_S (aA (eB X)) s.heap H locs → ∀ (ls : Array Slot), lv_has ls 9 [(0, .ref x0), (2, .int x2), (3, .long x3), (5, .int x5), (6, .int x6), (7, .int x7), (8, .int x8)] → sX0_goBack_92 F k_44 f h x0 x2 x3 x5 x6 x7 x8 = some o → W p l e (rm 4 117) s m args below meth c H locs 0 0 (MQ below (QV X h0 o) args s 0 0 (aA (eB X))) (F0 m 92 ls []) := by
  intro f
  induction f with
  | zero =>
    intro h x0 x2 x3 x5 x6 x7 x8 H locs k_x0 hkm hW hZ ls hl hE
    rw [sX0_goBack_92] at hE
    cases hE
  | succ f ih =>
    intro h x0 x2 x3 x5 x6 x7 x8 H locs k_x0 hkm hW hZ ls hl hE
    rw [sX0_goBack_92] at hE
    have hk_92 : ∀ (h : Hp) (x0 : Nat) (x2 : Int32) (x3 : Int64) (x5 : Int32) (x6 : Int32) (x7 : Int32) (x8 : Int32) (H : Heap) (locs : List Loc), hK h x0 = 0 → Km h0 h → Wx X h H → va_S (aA (eB X)) s.heap H locs → ∀ (ls : Array Slot), lv_has ls 9 [(0, .ref x0), (2, .int x2), (3, .long x3), (5, .int x5), (6, .int x6), (7, .int x7), (8, .int x8)] → sX0_goBack_92 F k_44 f h x0 x2 x3 x5 x6 x7 x8 = some o → W p l e (rm 4 117) s m args below meth c H locs 0 0 (MQ below (QV X h0 o) args s 0 0 (aA (eB X))) (F0 m 92 ls []) := fun h x0 x2 x3 x5 x6 x7 x8 H locs k_x0 a b c ls hl hE => ih k_x0 a b c ls hl hE
    refine lv_iload C.1 C.2.1 dX0_goBack_92 (lv_at hl 6 rfl) ?_
    refine lv_aload_n C.1 C.2.1 dX0_goBack_94 rfl (lv_at hl 0 rfl) ?_
    obtain ⟨r_1, er_1, hE⟩ := cl_e hE
    refine gf_X0_40 C hW k_x0 er_1 dX0_goBack_95 (fun k_r_1 => ?_)
    refine gf_X0_232 C hW k_r_1 dX0_goBack_98 ?_
    refine lv_icmp_ge (tgt := 151) C.1 C.2.1 dX0_goBack_101 (by decide) (fun c_2 => ?_) (fun c_2 => ?_)
    · have hE := br_p hE c_2
      exact bX0_goBack_151 C hk_44 k_x0 hkm hW hZ _ (lv_sub hl [0, 1, 2, 3] rfl) hE
    · have hE := br_n hE c_2
      refine lv_aload_n C.1 C.2.1 dX0_goBack_104 rfl (lv_at hl 0 rfl) ?_
      obtain ⟨r_3, er_3, hE⟩ := cl_e hE
      refine gf_X0_40 C hW k_x0 er_3 dX0_goBack_105 (fun k_r_3 => ?_)
      refine lv_iload C.1 C.2.1 dX0_goBack_108 (lv_at hl 4 rfl) ?_
      refine lv_iload_n C.1 C.2.1 dX0_goBack_110 rfl (lv_at hl 1 rfl) ?_
      obtain ⟨o_4, eo_4, hE⟩ := cl_e hE
      refine x_kI (o := o_4) (z_runV (As := [.int x6, .int x2]) (rest := []) C (ct_X1_isLast l X k_r_3 eo_4) cw_X0_181 hW hZ k_r_3 (by decide) rfl rfl rfl hl.1 (Nat.le_of_ble_eq_true rfl) rfl dX0_goBack_111 ⟨Nat.le_of_ble_eq_true rfl, Nat.le_of_ble_eq_true rfl⟩ ⟨Nat.le_refl _, Nat.le_refl _⟩) hZ (fun _ _ hW km hZ => ?_)
      replace hkm := hkm.tr km
      replace k_x0 := km.at k_x0 (by decide)
      refine lv_if_eq (tgt := 151) C.1 C.2.1 dX0_goBack_114 (by decide) (fun c_5 => ?_) (fun c_5 => ?_)
      · have hE := br_p hE c_5
        exact bX0_goBack_151 C hk_44 k_x0 hkm hW hZ _ (lv_sub hl [0, 1, 2, 3] rfl) hE
      · have hE := br_n hE c_5
        refine lv_aload_n C.1 C.2.1 dX0_goBack_117 rfl (lv_at hl 0 rfl) ?_
        obtain ⟨r_6, er_6, hE⟩ := cl_e hE
        refine gf_X0_40 C hW k_x0 er_6 dX0_goBack_118 (fun k_r_6 => ?_)
        refine lv_iload C.1 C.2.1 dX0_goBack_121 (lv_at hl 6 rfl) ?_
        refine lv_iload C.1 C.2.1 dX0_goBack_123 (lv_at hl 5 rfl) ?_
        refine lv_iconst (v := (1 : Int32)) C.1 C.2.1 dX0_goBack_125 (by decide) ?_
        refine lv_ishr C.1 C.2.1 dX0_goBack_126 ?_
        obtain ⟨o_7, eo_7, hE⟩ := cl_e hE
        refine x_kI (o := o_7) (z_runV (As := [.int x8, .int (x7 >>> ((1 : Int32) &&& 31))]) (rest := []) C (ct_X1_becomesThis l X F k_r_6 eo_7) cw_X0_235 hW hZ k_r_6 (by decide) rfl rfl rfl hl.1 (Nat.le_of_ble_eq_true rfl) rfl dX0_goBack_127 ⟨Nat.le_of_ble_eq_true rfl, Nat.le_of_ble_eq_true rfl⟩ ⟨Nat.le_refl _, Nat.le_refl _⟩) hZ (fun _ _ hW km hZ => ?_)
        replace hkm := hkm.tr km
        replace k_x0 := km.at k_x0 (by decide)
        refine lv_if_eq (tgt := 145) C.1 C.2.1 dX0_goBack_130 (by decide) (fun c_8 => ?_) (fun c_8 => ?_)
        · have hE := br_p hE c_8
          exact bX0_goBack_145 C hk_44 hk_92 k_x0 hkm hW hZ _ (lv_sub hl [0, 1, 2, 3, 4, 5, 6] rfl) hE
        · have hE := br_n hE c_8
          refine lv_aload_n C.1 C.2.1 dX0_goBack_133 rfl (lv_at hl 0 rfl) ?_
          refine lv_iload C.1 C.2.1 dX0_goBack_134 (lv_at hl 4 rfl) ?_
          refine lv_iconst (v := (2 : Int32)) C.1 C.2.1 dX0_goBack_136 (by decide) ?_
          refine lv_iload C.1 C.2.1 dX0_goBack_137 (lv_at hl 6 rfl) ?_
          refine lv_imul C.1 C.2.1 dX0_goBack_139 ?_
          refine lv_iload_n C.1 C.2.1 dX0_goBack_140 rfl (lv_at hl 1 rfl) ?_
          refine lv_iadd C.1 C.2.1 dX0_goBack_141 ?_
          obtain ⟨o_9, eo_9, hE⟩ := cl_e hE
          refine x_kV (o := o_9) (z_runV (As := [.int x6, .int (((2 : Int32) * x8) + x2)]) (rest := []) C (ct_X0_takeBack l X F k_x0 eo_9) cw_X0_228 hW hZ k_x0 (by decide) rfl rfl rfl hl.1 (Nat.le_of_ble_eq_true rfl) rfl dX0_goBack_142 ⟨Nat.le_of_ble_eq_true rfl, Nat.le_of_ble_eq_true rfl⟩ ⟨Nat.le_refl _, Nat.le_refl _⟩) hZ (fun _ _ hW km hZ => ?_)
          replace hkm := hkm.tr km
          replace k_x0 := km.at k_x0 (by decide)
          exact bX0_goBack_145 C hk_44 hk_92 k_x0 hkm hW hZ _ (lv_sub hl [0, 1, 2, 3, 4, 5, 6] rfl) hE
set_option maxRecDepth 20000 in
theorem bX0_goBack_44 {p : Program} {l : Launch} {e : Env} {s : State} {m : MethodId} {args : Array Value} {below : List Frame} {meth : Method} {c : Code} {X : Ec} {h0 : Hp} {o : Hp} {F : Nat} (C : Cx X p s m args meth c RX0 cX0_goBack 9 none "goBack") : ∀ (f : Nat) {h : Hp} {x0 : Nat} {x2 : Int32} {x3 : Int64} {x5 : Int32} {H : Heap} {locs : List Loc} (k_x0 : hK h x0 = 0), Km h0 h → Wx X h H → va_S (aA (eB X)) s.heap H locs → ∀ (ls : Array Slot), lv_has ls 9 [(0, .ref x0), (2, .int x2), (3, .long x3), (5, .int x5)] → sX0_goBack_44 F f h x0 x2 x3 x5 = some o → W p l e (rm 4 117) s m args below meth c H locs 0 0 (MQ below (QV X h0 o) args s 0 0 (aA (eB X))) (F0 m 44 ls []) := by
  intro f
  induction f with
  | zero =>
    intro h x0 x2 x3 x5 H locs k_x0 hkm hW hZ ls hl hE
    rw [sX0_goBack_44] at hE
    cases hE
  | succ f ih =>
    intro h x0 x2 x3 x5 H locs k_x0 hkm hW hZ ls hl hE
    rw [sX0_goBack_44] at hE
    have hk_44 : ∀ (h : Hp) (x0 : Nat) (x2 : Int32) (x3 : Int64) (x5 : Int32) (H : Heap) (locs : List Loc), hK h x0 = 0 → Km h0 h → Wx X h H → va_S (aA (eB X)) s.heap H locs → ∀ (ls : Array Slot), lv_has ls 9 [(0, .ref x0), (2, .int x2), (3, .long x3), (5, .int x5)] → sX0_goBack_44 F f h x0 x2 x3 x5 = some o → W p l e (rm 4 117) s m args below meth c H locs 0 0 (MQ below (QV X h0 o) args s 0 0 (aA (eB X))) (F0 m 44 ls []) := fun h x0 x2 x3 x5 H locs k_x0 a b c ls hl hE => ih k_x0 a b c ls hl hE
    refine lv_iload C.1 C.2.1 dX0_goBack_44 (lv_at hl 3 rfl) ?_
    refine lv_bipush (v := (64 : Int32)) C.1 C.2.1 dX0_goBack_46 (by decide) ?_
    refine lv_icmp_ge (tgt := 157) C.1 C.2.1 dX0_goBack_48 (by decide) (fun c_1 => ?_) (fun c_1 => ?_)
    · have hE := br_p hE c_1
      exact bX0_goBack_157 C hkm hW hZ _ (lv_sub hl [] rfl) hE
    · have hE := br_n hE c_1
      refine lv_lload_n C.1 C.2.1 dX0_goBack_51 rfl (lv_at hl 2 rfl) ?_
      refine lv_lconst (v := (0 : Int64)) C.1 C.2.1 dX0_goBack_52 (by decide) ?_
      refine W.lcmp C.1 C.2.1 dX0_goBack_53 ?_
      refine lv_if_eq (tgt := 157) C.1 C.2.1 dX0_goBack_54 (by decide) (fun c_2 => ?_) (fun c_2 => ?_)
      · have hE := br_p hE c_2
        exact bX0_goBack_157 C hkm hW hZ _ (lv_sub hl [] rfl) hE
      · have hE := br_n hE c_2
        refine lv_lload_n C.1 C.2.1 dX0_goBack_57 rfl (lv_at hl 2 rfl) ?_
        obtain ⟨o_3, eo_3, hE⟩ := cl_e hE
        refine x_kI (o := o_3) (x_runSN (As := [.long x3]) (rest := []) C (ct_X11_lowest l X eo_3) cn_X0_169 hW hZ rfl hl.1 (Nat.le_of_ble_eq_true rfl) rfl dX0_goBack_58 ⟨Nat.le_of_ble_eq_true rfl, Nat.le_of_ble_eq_true rfl⟩ ⟨Nat.le_refl _, Nat.le_refl _⟩) hZ (fun _ _ hW km hZ => ?_)
        replace hkm := hkm.tr km
        replace k_x0 := km.at k_x0 (by decide)
        refine lv_istore (lv' := [(6, .int o_3.1), (0, .ref x0), (2, .int x2), (3, .long x3), (5, .int x5)]) C.1 C.2.1 dX0_goBack_61 hl (by decide) rfl (fun ls hl => ?_)
        refine lv_lload_n C.1 C.2.1 dX0_goBack_63 rfl (lv_at hl 3 rfl) ?_
        refine lv_lload_n C.1 C.2.1 dX0_goBack_64 rfl (lv_at hl 3 rfl) ?_
        refine lv_lconst (v := (1 : Int64)) C.1 C.2.1 dX0_goBack_65 (by decide) ?_
        refine lv_lsub C.1 C.2.1 dX0_goBack_66 ?_
        refine lv_land C.1 C.2.1 dX0_goBack_67 ?_
        obtain ⟨v_4, ev_4, hE⟩ := nm_e2 hE
        refine x_nmJ ev_4 ?_
        refine lv_lstore_n (lv' := [(3, .long v_4), (6, .int o_3.1), (0, .ref x0), (2, .int x2), (5, .int x5)]) C.1 C.2.1 dX0_goBack_68 rfl hl (by decide) rfl (fun ls hl => ?_)
        refine lv_aload_n C.1 C.2.1 dX0_goBack_69 rfl (lv_at hl 2 rfl) ?_
        obtain ⟨r_5, er_5, hE⟩ := cl_e hE
        refine gf_X0_14 C hW k_x0 er_5 dX0_goBack_70 (fun k_r_5 => ?_)
        obtain ⟨r_6, er_6, hE⟩ := cl_e hE
        refine gf_X0_184 C hW k_r_5 er_6 dX0_goBack_73 (fun k_r_6 => ?_)
        refine lv_iload C.1 C.2.1 dX0_goBack_76 (lv_at hl 1 rfl) ?_
        obtain ⟨g_7, hE⟩ := gd_e hE
        refine y_bald C hW k_r_6 g_7 dX0_goBack_78 ?_
        obtain ⟨v_8, ev_8, hE⟩ := nm_e2 hE
        refine x_nmI ev_8 ?_
        refine lv_istore (lv' := [(7, .int v_8), (3, .long v_4), (6, .int o_3.1), (0, .ref x0), (2, .int x2), (5, .int x5)]) C.1 C.2.1 dX0_goBack_79 hl (by decide) rfl (fun ls hl => ?_)
        refine lv_aload_n C.1 C.2.1 dX0_goBack_81 rfl (lv_at hl 3 rfl) ?_
        refine lv_iload C.1 C.2.1 dX0_goBack_82 (lv_at hl 2 rfl) ?_
        refine lv_iload C.1 C.2.1 dX0_goBack_84 (lv_at hl 0 rfl) ?_
        obtain ⟨o_9, eo_9, hE⟩ := cl_e hE
        refine x_kV (o := o_9) (z_runV (As := [.int o_3.1, .int v_8]) (rest := []) C (ct_X0_takeBack l X F k_x0 eo_9) cw_X0_228 hW hZ k_x0 (by decide) rfl rfl rfl hl.1 (Nat.le_of_ble_eq_true rfl) rfl dX0_goBack_86 ⟨Nat.le_of_ble_eq_true rfl, Nat.le_of_ble_eq_true rfl⟩ ⟨Nat.le_refl _, Nat.le_refl _⟩) hZ (fun _ _ hW km hZ => ?_)
        replace hkm := hkm.tr km
        replace k_x0 := km.at k_x0 (by decide)
        refine lv_iconst (v := (0 : Int32)) C.1 C.2.1 dX0_goBack_89 (by decide) ?_
        refine lv_istore (lv' := [(8, .int (0 : Int32)), (7, .int v_8), (3, .long v_4), (6, .int o_3.1), (0, .ref x0), (2, .int x2), (5, .int x5)]) C.1 C.2.1 dX0_goBack_90 hl (by decide) rfl (fun ls hl => ?_)
        exact bX0_goBack_92 C hk_44 F k_x0 hkm hW hZ _ (lv_sub hl [4, 5, 2, 6, 3, 1, 0] rfl) hE
set_option maxRecDepth 20000 in
theorem bX0_goBack_31 {p : Program} {l : Launch} {e : Env} {s : State} {m : MethodId} {args : Array Value} {below : List Frame} {meth : Method} {c : Code} {X : Ec} {h0 : Hp} {o : Hp} {F : Nat} (C : Cx X p s m args meth c RX0 cX0_goBack 9 none "goBack") {h : Hp} {x0 : Nat} {x2 : Int32} {H : Heap} {locs : List Loc} (k_x0 : hK h x0 = 0) (hkm : Km h0 h) (hW : Wx X h H) (hZ : va_S (aA (eB X)) s.heap H locs) (ls : Array Slot) (hl : lv_has ls 9 [(0, .ref x0), (2, .int x2)]) (hE : sX0_goBack_31 F h x0 x2 = some o) : W p l e (rm 4 117) s m args below meth c H locs 0 0 (MQ below (QV X h0 o) args s 0 0 (aA (eB X))) (F0 m 31 ls []) := by
  refine lv_aload_n C.1 C.2.1 dX0_goBack_31 rfl (lv_at hl 0 rfl) ?_
  obtain ⟨r_1, er_1, hE⟩ := cl_e hE
  refine gf_X0_14 C hW k_x0 er_1 dX0_goBack_32 (fun k_r_1 => ?_)
  obtain ⟨r_2, er_2, hE⟩ := cl_e hE
  refine gf_X0_224 C hW k_r_1 er_2 dX0_goBack_35 (fun k_r_2 => ?_)
  refine lv_iload_n C.1 C.2.1 dX0_goBack_38 rfl (lv_at hl 1 rfl) ?_
  obtain ⟨g_3, hE⟩ := gd_e hE
  refine y_lald C hW k_r_2 g_3 dX0_goBack_39 ?_
  obtain ⟨v_4, ev_4, hE⟩ := nm_e2 hE
  refine x_nmJ ev_4 ?_
  refine lv_lstore_n (lv' := [(3, .long v_4), (0, .ref x0), (2, .int x2)]) C.1 C.2.1 dX0_goBack_40 rfl hl (by decide) rfl (fun ls hl => ?_)
  refine lv_iconst (v := (0 : Int32)) C.1 C.2.1 dX0_goBack_41 (by decide) ?_
  refine lv_istore (lv' := [(5, .int (0 : Int32)), (3, .long v_4), (0, .ref x0), (2, .int x2)]) C.1 C.2.1 dX0_goBack_42 hl (by decide) rfl (fun ls hl => ?_)
  exact bX0_goBack_44 C F k_x0 hkm hW hZ _ (lv_sub hl [2, 3, 1, 0] rfl) hE
set_option maxRecDepth 20000 in
theorem ct_X0_goBack (l : Launch) (X : Ec) (F : Nat) {h : Hp} {x0 : Nat} {x1 : Int32} {o : Hp} (k_x0 : hK h x0 = 0) (hE : sX0_goBack F h x0 x1 = some o) : MetV l yX0_goBack cX0_goBack 9 none 4 117 X [.ref x0, .int x1] h o := by
  refine x_met (by decide) (Nat.le_of_ble_eq_true rfl) ?_
  intro p e s m below meth c ls C hl hW hZ
  have hl : lv_has ls 9 [(0, .ref x0), (1, .int x1)] := hl
  have hkm : Km h h := Km.rf h
  refine lv_iconst (v := (1 : Int32)) C.1 C.2.1 dX0_goBack_0 (by decide) ?_
  refine lv_iload_n C.1 C.2.1 dX0_goBack_1 rfl (lv_at hl 1 rfl) ?_
  refine lv_isub C.1 C.2.1 dX0_goBack_2 ?_
  obtain ⟨v_1, ev_1, hE⟩ := nm_e2 hE
  refine x_nmI ev_1 ?_
  refine lv_istore_n (lv' := [(2, .int v_1), (0, .ref x0), (1, .int x1)]) C.1 C.2.1 dX0_goBack_3 rfl hl (by decide) rfl (fun ls hl => ?_)
  refine lv_aload_n C.1 C.2.1 dX0_goBack_4 rfl (lv_at hl 1 rfl) ?_
  obtain ⟨r_2, er_2, hE⟩ := cl_e hE
  refine gf_X0_40 C hW k_x0 er_2 dX0_goBack_5 (fun k_r_2 => ?_)
  refine lv_iconst (v := (4 : Int32)) C.1 C.2.1 dX0_goBack_8 (by decide) ?_
  obtain ⟨o_3, eo_3, hE⟩ := cl_e hE
  refine x_kI (o := o_3) (z_runV (As := [.int (4 : Int32)]) (rest := []) C (ct_X1_has l X k_r_2 eo_3) cw_X0_220 hW hZ k_r_2 (by decide) rfl rfl rfl hl.1 (Nat.le_of_ble_eq_true rfl) rfl dX0_goBack_9 ⟨Nat.le_of_ble_eq_true rfl, Nat.le_of_ble_eq_true rfl⟩ ⟨Nat.le_refl _, Nat.le_refl _⟩) hZ (fun _ _ hW km hZ => ?_)
  replace hkm := hkm.tr km
  replace k_x0 := km.at k_x0 (by decide)
  refine lv_if_eq (tgt := 31) C.1 C.2.1 dX0_goBack_12 (by decide) (fun c_4 => ?_) (fun c_4 => ?_)
  · have hE := br_p hE c_4
    exact bX0_goBack_31 C k_x0 hkm hW hZ _ (lv_sub hl [1, 0] rfl) hE
  · have hE := br_n hE c_4
    refine lv_aload_n C.1 C.2.1 dX0_goBack_15 rfl (lv_at hl 1 rfl) ?_
    obtain ⟨r_5, er_5, hE⟩ := cl_e hE
    refine gf_X0_48 C hW k_x0 er_5 dX0_goBack_16 (fun k_r_5 => ?_)
    refine lv_aload_n C.1 C.2.1 dX0_goBack_19 rfl (lv_at hl 1 rfl) ?_
    obtain ⟨r_6, er_6, hE⟩ := cl_e hE
    refine gf_X0_14 C hW k_x0 er_6 dX0_goBack_20 (fun k_r_6 => ?_)
    refine lv_iload_n C.1 C.2.1 dX0_goBack_23 rfl (lv_at hl 2 rfl) ?_
    obtain ⟨o_7, eo_7, hE⟩ := cl_e hE
    refine x_kI (o := o_7) (z_runV (As := [.ref r_6, .int x1]) (rest := []) C (ct_X5_isRoyalHit l X F k_r_5 k_r_6 eo_7) cw_X0_195 hW hZ k_r_5 (by decide) rfl rfl rfl hl.1 (Nat.le_of_ble_eq_true rfl) rfl dX0_goBack_24 ⟨Nat.le_of_ble_eq_true rfl, Nat.le_of_ble_eq_true rfl⟩ ⟨Nat.le_refl _, Nat.le_refl _⟩) hZ (fun _ _ hW km hZ => ?_)
    replace hkm := hkm.tr km
    replace k_x0 := km.at k_x0 (by decide)
    refine lv_if_eq (tgt := 31) C.1 C.2.1 dX0_goBack_27 (by decide) (fun c_8 => ?_) (fun c_8 => ?_)
    · have hE := br_p hE c_8
      exact bX0_goBack_31 C k_x0 hkm hW hZ _ (lv_sub hl [1, 0] rfl) hE
    · have hE := br_n hE c_8
      exact x_vret C rfl hW hZ hkm hE dX0_goBack_30

