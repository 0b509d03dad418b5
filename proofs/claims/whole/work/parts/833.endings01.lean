section
variable {p : Program} {l : Launch} {e : Env} {R : Room} {s : State} {m : MethodId} {args : Array Value} {below : List Frame} {meth : Method} {c : Code} {H : Heap} {locs : List Loc} {cells slots : Nat} {Q : State → Prop}
variable {cc : ByteArray} {pc : Nat} {ls : Array Slot} {rest : List Value} {X : Ec} {h h1 : Hp} {nL : Nat} {rt : Option FieldType} {mn : String}
theorem gf_X0_22 {a r : Nat} (C : Cx X p s m args meth c RX0 cc nL rt mn) (hW : Wx X h H) (ha : hK h a = 0) (hr : hR h a 5 = some r) (hdg : decode cc pc = .ok (.getfield 22, 3)) (kk : hK h r = 17 → W p l e R s m args below meth c H locs cells slots Q (F0 m (pc + 3) ls (.ref r :: rest))) : W p l e R s m args below meth c H locs cells slots Q (F0 m pc ls (.ref a :: rest)) :=
  y_getr C hW ha i_X0 (by decide) rfl (by decide) m_462 rfl rfl hr hdg kk
end
theorem dX0_sortSets_0 : decode cX0_sortSets 0 = .ok (.iconst 1, 1) := by decide +kernel
theorem dX0_sortSets_1 : decode cX0_sortSets 1 = .ok (.istore_n 1, 1) := by decide +kernel
theorem dX0_sortSets_2 : decode cX0_sortSets 2 = .ok (.iload_n 1, 1) := by decide +kernel
theorem dX0_sortSets_3 : decode cX0_sortSets 3 = .ok (.aload_n 0, 1) := by decide +kernel
theorem dX0_sortSets_4 : decode cX0_sortSets 4 = .ok (.getfield 129, 3) := by decide +kernel
theorem dX0_sortSets_7 : decode cX0_sortSets 7 = .ok (.if_icmp .ge 61, 3) := by decide +kernel
theorem dX0_sortSets_10 : decode cX0_sortSets 10 = .ok (.aload_n 0, 1) := by decide +kernel
theorem dX0_sortSets_11 : decode cX0_sortSets 11 = .ok (.getfield 18, 3) := by decide +kernel
theorem dX0_sortSets_14 : decode cX0_sortSets 14 = .ok (.iload_n 1, 1) := by decide +kernel
theorem dX0_sortSets_15 : decode cX0_sortSets 15 = .ok (.iaload, 1) := by decide +kernel
theorem dX0_sortSets_16 : decode cX0_sortSets 16 = .ok (.istore_n 2, 1) := by decide +kernel
theorem dX0_sortSets_17 : decode cX0_sortSets 17 = .ok (.iload_n 1, 1) := by decide +kernel
theorem dX0_sortSets_18 : decode cX0_sortSets 18 = .ok (.istore_n 3, 1) := by decide +kernel
theorem dX0_sortSets_19 : decode cX0_sortSets 19 = .ok (.iload_n 3, 1) := by decide +kernel
theorem dX0_sortSets_20 : decode cX0_sortSets 20 = .ok (.ifCond .le 35, 3) := by decide +kernel
theorem dX0_sortSets_23 : decode cX0_sortSets 23 = .ok (.aload_n 0, 1) := by decide +kernel
theorem dX0_sortSets_24 : decode cX0_sortSets 24 = .ok (.getfield 18, 3) := by decide +kernel
theorem dX0_sortSets_27 : decode cX0_sortSets 27 = .ok (.iload_n 3, 1) := by decide +kernel
theorem dX0_sortSets_28 : decode cX0_sortSets 28 = .ok (.iconst 1, 1) := by decide +kernel
theorem dX0_sortSets_29 : decode cX0_sortSets 29 = .ok (.isub, 1) := by decide +kernel
theorem dX0_sortSets_30 : decode cX0_sortSets 30 = .ok (.iaload, 1) := by decide +kernel
theorem dX0_sortSets_31 : decode cX0_sortSets 31 = .ok (.iload_n 2, 1) := by decide +kernel
theorem dX0_sortSets_32 : decode cX0_sortSets 32 = .ok (.if_icmp .le 23, 3) := by decide +kernel
theorem dX0_sortSets_35 : decode cX0_sortSets 35 = .ok (.aload_n 0, 1) := by decide +kernel
theorem dX0_sortSets_36 : decode cX0_sortSets 36 = .ok (.getfield 18, 3) := by decide +kernel
theorem dX0_sortSets_39 : decode cX0_sortSets 39 = .ok (.iload_n 3, 1) := by decide +kernel
theorem dX0_sortSets_40 : decode cX0_sortSets 40 = .ok (.aload_n 0, 1) := by decide +kernel
theorem dX0_sortSets_41 : decode cX0_sortSets 41 = .ok (.getfield 18, 3) := by decide +kernel
theorem dX0_sortSets_44 : decode cX0_sortSets 44 = .ok (.iload_n 3, 1) := by decide +kernel
theorem dX0_sortSets_45 : decode cX0_sortSets 45 = .ok (.iconst 1, 1) := by decide +kernel
theorem dX0_sortSets_46 : decode cX0_sortSets 46 = .ok (.isub, 1) := by decide +kernel
theorem dX0_sortSets_47 : decode cX0_sortSets 47 = .ok (.iaload, 1) := by decide +kernel
theorem dX0_sortSets_48 : decode cX0_sortSets 48 = .ok (.iastore, 1) := by decide +kernel
theorem dX0_sortSets_49 : decode cX0_sortSets 49 = .ok (.iinc 3 (-1), 3) := by decide +kernel
theorem dX0_sortSets_52 : decode cX0_sortSets 52 = .ok (.goto (-33), 3) := by decide +kernel
theorem dX0_sortSets_55 : decode cX0_sortSets 55 = .ok (.aload_n 0, 1) := by decide +kernel
theorem dX0_sortSets_56 : decode cX0_sortSets 56 = .ok (.getfield 18, 3) := by decide +kernel
theorem dX0_sortSets_59 : decode cX0_sortSets 59 = .ok (.iload_n 3, 1) := by decide +kernel
theorem dX0_sortSets_60 : decode cX0_sortSets 60 = .ok (.iload_n 2, 1) := by decide +kernel
theorem dX0_sortSets_61 : decode cX0_sortSets 61 = .ok (.iastore, 1) := by decide +kernel
theorem dX0_sortSets_62 : decode cX0_sortSets 62 = .ok (.iinc 1 1, 3) := by decide +kernel
theorem dX0_sortSets_65 : decode cX0_sortSets 65 = .ok (.goto (-63), 3) := by decide +kernel
theorem dX0_sortSets_68 : decode cX0_sortSets 68 = .ok (.aload_n 0, 1) := by decide +kernel
theorem dX0_sortSets_69 : decode cX0_sortSets 69 = .ok (.getfield 22, 3) := by decide +kernel
theorem dX0_sortSets_72 : decode cX0_sortSets 72 = .ok (.iconst 0, 1) := by decide +kernel
theorem dX0_sortSets_73 : decode cX0_sortSets 73 = .ok (.iconst 0, 1) := by decide +kernel
theorem dX0_sortSets_74 : decode cX0_sortSets 74 = .ok (.iastore, 1) := by decide +kernel
theorem dX0_sortSets_75 : decode cX0_sortSets 75 = .ok (.iconst 0, 1) := by decide +kernel
theorem dX0_sortSets_76 : decode cX0_sortSets 76 = .ok (.istore_n 1, 1) := by decide +kernel
theorem dX0_sortSets_77 : decode cX0_sortSets 77 = .ok (.iload_n 1, 1) := by decide +kernel
theorem dX0_sortSets_78 : decode cX0_sortSets 78 = .ok (.aload_n 0, 1) := by decide +kernel
theorem dX0_sortSets_79 : decode cX0_sortSets 79 = .ok (.getfield 129, 3) := by decide +kernel
theorem dX0_sortSets_82 : decode cX0_sortSets 82 = .ok (.if_icmp .ge 40, 3) := by decide +kernel
theorem dX0_sortSets_85 : decode cX0_sortSets 85 = .ok (.aload_n 0, 1) := by decide +kernel
theorem dX0_sortSets_86 : decode cX0_sortSets 86 = .ok (.getfield 22, 3) := by decide +kernel
theorem dX0_sortSets_89 : decode cX0_sortSets 89 = .ok (.iload_n 1, 1) := by decide +kernel
theorem dX0_sortSets_90 : decode cX0_sortSets 90 = .ok (.iconst 1, 1) := by decide +kernel
theorem dX0_sortSets_91 : decode cX0_sortSets 91 = .ok (.iadd, 1) := by decide +kernel
theorem dX0_sortSets_92 : decode cX0_sortSets 92 = .ok (.aload_n 0, 1) := by decide +kernel
theorem dX0_sortSets_93 : decode cX0_sortSets 93 = .ok (.getfield 22, 3) := by decide +kernel
theorem dX0_sortSets_96 : decode cX0_sortSets 96 = .ok (.iload_n 1, 1) := by decide +kernel
theorem dX0_sortSets_97 : decode cX0_sortSets 97 = .ok (.iaload, 1) := by decide +kernel
theorem dX0_sortSets_98 : decode cX0_sortSets 98 = .ok (.iconst 2, 1) := by decide +kernel
theorem dX0_sortSets_99 : decode cX0_sortSets 99 = .ok (.aload_n 0, 1) := by decide +kernel
theorem dX0_sortSets_100 : decode cX0_sortSets 100 = .ok (.getfield 25, 3) := by decide +kernel
theorem dX0_sortSets_103 : decode cX0_sortSets 103 = .ok (.aload_n 0, 1) := by decide +kernel
theorem dX0_sortSets_104 : decode cX0_sortSets 104 = .ok (.getfield 18, 3) := by decide +kernel
theorem dX0_sortSets_107 : decode cX0_sortSets 107 = .ok (.iload_n 1, 1) := by decide +kernel
theorem dX0_sortSets_108 : decode cX0_sortSets 108 = .ok (.iaload, 1) := by decide +kernel
theorem dX0_sortSets_109 : decode cX0_sortSets 109 = .ok (.invokestatic 143, 3) := by decide +kernel
theorem dX0_sortSets_112 : decode cX0_sortSets 112 = .ok (.iaload, 1) := by decide +kernel
theorem dX0_sortSets_113 : decode cX0_sortSets 113 = .ok (.imul, 1) := by decide +kernel
theorem dX0_sortSets_114 : decode cX0_sortSets 114 = .ok (.iadd, 1) := by decide +kernel
theorem dX0_sortSets_115 : decode cX0_sortSets 115 = .ok (.iastore, 1) := by decide +kernel
theorem dX0_sortSets_116 : decode cX0_sortSets 116 = .ok (.iinc 1 1, 3) := by decide +kernel
theorem dX0_sortSets_119 : decode cX0_sortSets 119 = .ok (.goto (-42), 3) := by decide +kernel
theorem dX0_sortSets_122 : decode cX0_sortSets 122 = .ok (.return_, 1) := by decide +kernel
set_option maxRecDepth 20000 in
theorem moX0_sortSets_77 {o : Hp} {F : Nat} : ∀ (f : Nat) {h : Hp} {x0 : Nat} {x1 : Int32}, sX0_sortSets_77 F f h x0 x1 = some o → Le h o := by
  intro f
  induction f with
  | zero =>
    intro h x0 x1 hE
    rw [sX0_sortSets_77] at hE
    cases hE
  | succ f ih =>
    intro h x0 x1 hE
    rw [sX0_sortSets_77] at hE
    have mk_77 : ∀ (h : Hp) (x0 : Nat) (x1 : Int32), sX0_sortSets_77 F f h x0 x1 = some o → Le h o := fun h x0 x1 hE => ih hE
    rcases br_e hE with ⟨_, hE⟩ | ⟨_, hE⟩
    · exact le_some1 hE
    · obtain ⟨r_2, er_2, hE⟩ := cl_e hE
      obtain ⟨r_3, er_3, hE⟩ := cl_e hE
      obtain ⟨g_4, hE⟩ := gd_e hE
      obtain ⟨r_5, er_5, hE⟩ := cl_e hE
      obtain ⟨r_6, er_6, hE⟩ := cl_e hE
      obtain ⟨g_7, hE⟩ := gd_e hE
      obtain ⟨o_8, eo_8, hE⟩ := cl_e hE
      refine (moX0_sizeOf eo_8).tr ?_
      obtain ⟨g_9, hE⟩ := gd_e hE
      obtain ⟨g_10, hE⟩ := gd_e hE
      obtain ⟨h_11, eh_11, hE⟩ := nm_e2 hE
      refine (le_I eh_11).tr ?_
      obtain ⟨v_12, ev_12, hE⟩ := nm_e2 hE
      exact mk_77 _ _ _ hE
set_option maxRecDepth 20000 in
theorem moX0_sortSets_55 {o : Hp} {k_2 : Hp → Nat → Int32 → Option (Hp)} {F : Nat} (mk_2 : ∀ (h : Hp) (x0 : Nat) (x1 : Int32), k_2 h x0 x1 = some o → Le h o) {h : Hp} {x0 : Nat} {x1 : Int32} {x2 : Int32} {x3 : Int32} (hE : sX0_sortSets_55 F k_2 h x0 x1 x2 x3 = some o) : Le h o := by
  obtain ⟨r_1, er_1, hE⟩ := cl_e hE
  obtain ⟨g_2, hE⟩ := gd_e hE
  obtain ⟨h_3, eh_3, hE⟩ := nm_e2 hE
  refine (le_I eh_3).tr ?_
  obtain ⟨v_4, ev_4, hE⟩ := nm_e2 hE
  exact mk_2 _ _ _ hE
set_option maxRecDepth 20000 in
theorem moX0_sortSets_19 {o : Hp} {k_2 : Hp → Nat → Int32 → Option (Hp)} {F : Nat} (mk_2 : ∀ (h : Hp) (x0 : Nat) (x1 : Int32), k_2 h x0 x1 = some o → Le h o) : ∀ (f : Nat) {h : Hp} {x0 : Nat} {x1 : Int32} {x2 : Int32} {x3 : Int32}, sX0_sortSets_19 F k_2 f h x0 x1 x2 x3 = some o → Le h o := by
  intro f
  induction f with
  | zero =>
    intro h x0 x1 x2 x3 hE
    rw [sX0_sortSets_19] at hE
    cases hE
  | succ f ih =>
    intro h x0 x1 x2 x3 hE
    rw [sX0_sortSets_19] at hE
    have mk_19 : ∀ (h : Hp) (x0 : Nat) (x1 : Int32) (x2 : Int32) (x3 : Int32), sX0_sortSets_19 F k_2 f h x0 x1 x2 x3 = some o → Le h o := fun h x0 x1 x2 x3 hE => ih hE
    rcases br_e hE with ⟨_, hE⟩ | ⟨_, hE⟩
    · exact moX0_sortSets_55 mk_2 hE
    · obtain ⟨r_2, er_2, hE⟩ := cl_e hE
      obtain ⟨g_3, hE⟩ := gd_e hE
      rcases br_e hE with ⟨_, hE⟩ | ⟨_, hE⟩
      · exact moX0_sortSets_55 mk_2 hE
      · obtain ⟨r_5, er_5, hE⟩ := cl_e hE
        obtain ⟨r_6, er_6, hE⟩ := cl_e hE
        obtain ⟨g_7, hE⟩ := gd_e hE
        obtain ⟨g_8, hE⟩ := gd_e hE
        obtain ⟨h_9, eh_9, hE⟩ := nm_e2 hE
        refine (le_I eh_9).tr ?_
        obtain ⟨v_10, ev_10, hE⟩ := nm_e2 hE
        exact mk_19 _ _ _ _ _ hE
set_option maxRecDepth 20000 in
theorem moX0_sortSets_2 {o : Hp} {F : Nat} : ∀ (f : Nat) {h : Hp} {x0 : Nat} {x1 : Int32}, sX0_sortSets_2 F f h x0 x1 = some o → Le h o := by
  intro f
  induction f with
  | zero =>
    intro h x0 x1 hE
    rw [sX0_sortSets_2] at hE
    cases hE
  | succ f ih =>
    intro h x0 x1 hE
    rw [sX0_sortSets_2] at hE
    have mk_2 : ∀ (h : Hp) (x0 : Nat) (x1 : Int32), sX0_sortSets_2 F f h x0 x1 = some o → Le h o := fun h x0 x1 hE => ih hE
    rcases br_e hE with ⟨_, hE⟩ | ⟨_, hE⟩
    · obtain ⟨r_2, er_2, hE⟩ := cl_e hE
      obtain ⟨g_3, hE⟩ := gd_e hE
      obtain ⟨h_4, eh_4, hE⟩ := nm_e2 hE
      refine (le_I eh_4).tr ?_
      exact moX0_sortSets_77 _ hE
    · obtain ⟨r_5, er_5, hE⟩ := cl_e hE
      obtain ⟨g_6, hE⟩ := gd_e hE
      obtain ⟨v_7, ev_7, hE⟩ := nm_e2 hE
      exact moX0_sortSets_19 mk_2 _ hE
set_option maxRecDepth 20000 in
theorem moX0_sortSets {o : Hp} {F : Nat} {h : Hp} {x0 : Nat} (hE : sX0_sortSets F h x0 = some o) : Le h o := by
  exact moX0_sortSets_2 _ hE
set_option maxRecDepth 20000 in
theorem bX0_sortSets_77 {p : Program} {l : Launch} {e : Env} {s : State} {m : MethodId} {args : Array Value} {below : List Frame} {meth : Method} {c : Code} {X : Ec} {h0 : Hp} {o : Hp} {F : Nat} (C : Cx X p s m args meth c RX0 cX0_sortSets 4 none "sortSets") : ∀ (f : Nat) {h : Hp} {x0 : Nat} {x1 : Int32} {H : Heap} {locs : List Loc} (k_x0 : hK h x0 = 0), Km h0 h → Wx X h H → va_S (aA (eB X)) s.heap H locs → ∀ (ls : Array Slot), lv_has ls 4 [(0, .ref x0), (1, .int x1)] → sX0_sortSets_77 F f h x0 x1 = some o → W p l e (rm 2 42) s m args below meth c H locs 0 0 (MQ below (QV X h0 o) args s 0 0 (aA (eB X))) (F0 m 77 ls []) := by
  intro f
  induction f with
  | zero =>
    intro h x0 x1 H locs k_x0 hkm hW hZ ls hl hE
    rw [sX0_sortSets_77] at hE
    cases hE
  | succ f ih =>
    intro h x0 x1 H locs k_x0 hkm hW hZ ls hl hE
    rw [sX0_sortSets_77] at hE
    have hk_77 : ∀ (h : Hp) (x0 : Nat) (x1 : Int32) (H : Heap) (locs : List Loc), hK h x0 = 0 → Km h0 h → Wx X h H → va_S (aA (eB X)) s.heap H locs → ∀ (ls : Array Slot), lv_has ls 4 [(0, .ref x0), (1, .int x1)] → sX0_sortSets_77 F f h x0 x1 = some o → W p l e (rm 2 42) s m args below meth c H locs 0 0 (MQ below (QV X h0 o) args s 0 0 (aA (eB X))) (F0 m 77 ls []) := fun h x0 x1 H locs k_x0 a b c ls hl hE => ih k_x0 a b c ls hl hE
    refine lv_iload_n C.1 C.2.1 dX0_sortSets_77 rfl (lv_at hl 1 rfl) ?_
    refine lv_aload_n C.1 C.2.1 dX0_sortSets_78 rfl (lv_at hl 0 rfl) ?_
    refine gf_X0_129 C hW k_x0 dX0_sortSets_79 ?_
    refine lv_icmp_ge (tgt := 122) C.1 C.2.1 dX0_sortSets_82 (by decide) (fun c_1 => ?_) (fun c_1 => ?_)
    · have hE := br_p hE c_1
      exact x_vret C rfl hW hZ hkm hE dX0_sortSets_122
    · have hE := br_n hE c_1
      refine lv_aload_n C.1 C.2.1 dX0_sortSets_85 rfl (lv_at hl 0 rfl) ?_
      obtain ⟨r_2, er_2, hE⟩ := cl_e hE
      refine gf_X0_22 C hW k_x0 er_2 dX0_sortSets_86 (fun k_r_2 => ?_)
      refine lv_iload_n C.1 C.2.1 dX0_sortSets_89 rfl (lv_at hl 1 rfl) ?_
      refine lv_iconst (v := (1 : Int32)) C.1 C.2.1 dX0_sortSets_90 (by decide) ?_
      refine lv_iadd C.1 C.2.1 dX0_sortSets_91 ?_
      refine lv_aload_n C.1 C.2.1 dX0_sortSets_92 rfl (lv_at hl 0 rfl) ?_
      obtain ⟨r_3, er_3, hE⟩ := cl_e hE
      refine gf_X0_22 C hW k_x0 er_3 dX0_sortSets_93 (fun k_r_3 => ?_)
      refine lv_iload_n C.1 C.2.1 dX0_sortSets_96 rfl (lv_at hl 1 rfl) ?_
      obtain ⟨g_4, hE⟩ := gd_e hE
      refine y_iald C hW k_r_3 g_4 dX0_sortSets_97 ?_
      refine lv_iconst (v := (2 : Int32)) C.1 C.2.1 dX0_sortSets_98 (by decide) ?_
      refine lv_aload_n C.1 C.2.1 dX0_sortSets_99 rfl (lv_at hl 0 rfl) ?_
      obtain ⟨r_5, er_5, hE⟩ := cl_e hE
      refine gf_X0_25 C hW k_x0 er_5 dX0_sortSets_100 (fun k_r_5 => ?_)
      refine lv_aload_n C.1 C.2.1 dX0_sortSets_103 rfl (lv_at hl 0 rfl) ?_
      obtain ⟨r_6, er_6, hE⟩ := cl_e hE
      refine gf_X0_18 C hW k_x0 er_6 dX0_sortSets_104 (fun k_r_6 => ?_)
      refine lv_iload_n C.1 C.2.1 dX0_sortSets_107 rfl (lv_at hl 1 rfl) ?_
      obtain ⟨g_7, hE⟩ := gd_e hE
      refine y_iald C hW k_r_6 g_7 dX0_sortSets_108 ?_
      obtain ⟨o_8, eo_8, hE⟩ := cl_e hE
      refine x_kI (o := o_8) (z_runS (As := [.int (hI h r_6 x1.toNatClampNeg)]) (rest := [.ref r_5, .int (2 : Int32), .int (hI h r_3 x1.toNatClampNeg), .int (x1 + (1 : Int32)), .ref r_2]) C (ct_X0_sizeOf l X F eo_8) cw_X0_143 hW hZ rfl hl.1 (Nat.le_of_ble_eq_true rfl) rfl dX0_sortSets_109 ⟨Nat.le_of_ble_eq_true rfl, Nat.le_of_ble_eq_true rfl⟩ ⟨Nat.le_refl _, Nat.le_refl _⟩) hZ (fun _ _ hW km hZ => ?_)
      replace hkm := hkm.tr km
      replace k_x0 := km.at k_x0 (by decide)
      replace k_r_5 := km.at k_r_5 (by decide)
      replace k_r_2 := km.at k_r_2 (by decide)
      obtain ⟨g_9, hE⟩ := gd_e hE
      refine y_iald C hW k_r_5 g_9 dX0_sortSets_112 ?_
      refine lv_imul C.1 C.2.1 dX0_sortSets_113 ?_
      refine lv_iadd C.1 C.2.1 dX0_sortSets_114 ?_
      obtain ⟨g_10, hE⟩ := gd_e hE
      obtain ⟨h_11, eh_11, hE⟩ := nm_e2 hE
      refine y_iast C hW hZ k_r_2 g_10 eh_11 dX0_sortSets_115 (fun _ _ hW km hZ => ?_)
      replace hkm := hkm.tr km
      replace k_x0 := km.at k_x0 (by decide)
      obtain ⟨v_12, ev_12, hE⟩ := nm_e2 hE
      refine lv_iinc (v := v_12) (lv' := [(1, .int v_12), (0, .ref x0)]) C.1 C.2.1 dX0_sortSets_116 hl (k := 1) rfl (by rw [ev_12]; rfl) (by decide) rfl (fun ls hl => ?_)
      refine lv_goto (tgt := 77) C.1 C.2.1 dX0_sortSets_119 (by decide) ?_
      exact hk_77 _ _ _ _ _ k_x0 hkm hW hZ _ (lv_sub hl [1, 0] rfl) hE
set_option maxRecDepth 20000 in
theorem bX0_sortSets_55 {p : Program} {l : Launch} {e : Env} {s : State} {m : MethodId} {args : Array Value} {below : List Frame} {meth : Method} {c : Code} {X : Ec} {h0 : Hp} {o : Hp} {k_2 : Hp → Nat → Int32 → Option (Hp)} {F : Nat} (C : Cx X p s m args meth c RX0 cX0_sortSets 4 none "sortSets") (hk_2 : ∀ (h : Hp) (x0 : Nat) (x1 : Int32) (H : Heap) (locs : List Loc), hK h x0 = 0 → Km h0 h → Wx X h H → va_S (aA (eB X)) s.heap H locs → ∀ (ls : Array Slot), lv_has ls 4 [(0, .ref x0), (1, .int x1)] → k_2 h x0 x1 = some o → W p l e (rm 2 42) s m args below meth c H locs 0 0 (MQ below (QV X h0 o) args s 0 0 (aA (eB X))) (F0 m 2 ls [])) {h : Hp} {x0 : Nat} {x1 : Int32} {x2 : Int32} {x3 : Int32} {H : Heap} {locs : List Loc} (k_x0 : hK h x0 = 0) (hkm : Km h0 h) (hW : Wx X h H) (hZ : va_S (aA (eB X)) s.heap H locs) (ls : Array Slot) (hl : lv_has ls 4 [(0, .ref x0), (1, .int x1), (2, .int x2), (3, .int x3)]) (hE : sX0_sortSets_55 F k_2 h x0 x1 x2 x3 = some o) : W p l e (rm 2 42) s m args below meth c H locs 0 0 (MQ below (QV X h0 o) args s 0 0 (aA (eB X))) (F0 m 55 ls []) := by
  refine lv_aload_n C.1 C.2.1 dX0_sortSets_55 rfl (lv_at hl 0 rfl) ?_
  obtain ⟨r_1, er_1, hE⟩ := cl_e hE
  refine gf_X0_18 C hW k_x0 er_1 dX0_sortSets_56 (fun k_r_1 => ?_)
  refine lv_iload_n C.1 C.2.1 dX0_sortSets_59 rfl (lv_at hl 3 rfl) ?_
  refine lv_iload_n C.1 C.2.1 dX0_sortSets_60 rfl (lv_at hl 2 rfl) ?_
  obtain ⟨g_2, hE⟩ := gd_e hE
  obtain ⟨h_3, eh_3, hE⟩ := nm_e2 hE
  refine y_iast C hW hZ k_r_1 g_2 eh_3 dX0_sortSets_61 (fun _ _ hW km hZ => ?_)
  replace hkm := hkm.tr km
  replace k_x0 := km.at k_x0 (by decide)
  obtain ⟨v_4, ev_4, hE⟩ := nm_e2 hE
  refine lv_iinc (v := v_4) (lv' := [(1, .int v_4), (0, .ref x0), (2, .int x2), (3, .int x3)]) C.1 C.2.1 dX0_sortSets_62 hl (k := 1) rfl (by rw [ev_4]; rfl) (by decide) rfl (fun ls hl => ?_)
  refine lv_goto (tgt := 2) C.1 C.2.1 dX0_sortSets_65 (by decide) ?_
  exact hk_2 _ _ _ _ _ k_x0 hkm hW hZ _ (lv_sub hl [1, 0] rfl) hE
set_option maxRecDepth 20000 in
theorem bX0_sortSets_19 {p : Program} {l : Launch} {e : Env} {s : State} {m : MethodId} {args : Array Value} {below : List Frame} {meth : Method} {c : Code} {X : Ec} {h0 : Hp} {o : Hp} {k_2 : Hp → Nat → Int32 → Option (Hp)} {F : Nat} (C : Cx X p s m args meth c RX0 cX0_sortSets 4 none "sortSets") (hk_2 : ∀ (h : Hp) (x0 : Nat) (x1 : Int32) (H : Heap) (locs : List Loc), hK h x0 = 0 → Km h0 h → Wx X h H → va_S (aA (eB X)) s.heap H locs → ∀ (ls : Array Slot), lv_has ls 4 [(0, .ref x0), (1, .int x1)] → k_2 h x0 x1 = some o → W p l e (rm 2 42) s m args below meth c H locs 0 0 (MQ below (QV X h0 o) args s 0 0 (aA (eB X))) (F0 m 2 ls [])) : ∀ (f : Nat) {h : Hp} {x0 : Nat} {x1 : Int32} {x2 : Int32} {x3 : Int32} {H : Heap} {locs : List Loc} (k_x0 : hK h x0 = 0), Km h0 h → Wx X h H → va_S (aA (eB X)) s.heap H locs → ∀ (ls : Array Slot), lv_has ls 4 [(0, .ref x0), (1, .int x1), (2, .int x2), (3, .int x3)] → sX0_sortSets_19 F k_2 f h x0 x1 x2 x3 = some o → W p l e (rm 2 42) s m args below meth c H locs 0 0 (MQ below (QV X h0 o) args s 0 0 (aA (eB X))) (F0 m 19 ls []) := by
  intro f
  induction f with
  | zero =>
    intro h x0 x1 x2 x3 H locs k_x0 hkm hW hZ ls hl hE
    rw [sX0_sortSets_19] at hE
    cases hE
  | succ f ih =>
    intro h x0 x1 x2 x3 H locs k_x0 hkm hW hZ ls hl hE
    rw [sX0_sortSets_19] at hE
    have hk_19 : ∀ (h : Hp) (x0 : Nat) (x1 : Int32) (x2 : Int32) (x3 : Int32) (H : Heap) (locs : List Loc), hK h x0 = 0 → Km h0 h → Wx X h H → va_S (aA (eB X)) s.heap H locs → ∀ (ls : Array Slot), lv_has ls 4 [(0, .ref x0), (1, .int x1), (2, .int x2), (3, .int x3)] → sX0_sortSets_19 F k_2 f h x0 x1 x2 x3 = some o → W p l e (rm 2 42) s m args below meth c H locs 0 0 (MQ below (QV X h0 o) args s 0 0 (aA (eB X))) (F0 m 19 ls []) := fun h x0 x1 x2 x3 H locs k_x0 a b c ls hl hE => ih k_x0 a b c ls hl hE
    refine lv_iload_n C.1 C.2.1 dX0_sortSets_19 rfl (lv_at hl 3 rfl) ?_
    refine lv_if_le (tgt := 55) C.1 C.2.1 dX0_sortSets_20 (by decide) (fun c_1 => ?_) (fun c_1 => ?_)
    · have hE := br_p hE c_1
      exact bX0_sortSets_55 C hk_2 k_x0 hkm hW hZ _ (lv_sub hl [0, 1, 2, 3] rfl) hE
    · have hE := br_n hE c_1
      refine lv_aload_n C.1 C.2.1 dX0_sortSets_23 rfl (lv_at hl 0 rfl) ?_
      obtain ⟨r_2, er_2, hE⟩ := cl_e hE
      refine gf_X0_18 C hW k_x0 er_2 dX0_sortSets_24 (fun k_r_2 => ?_)
      refine lv_iload_n C.1 C.2.1 dX0_sortSets_27 rfl (lv_at hl 3 rfl) ?_
      refine lv_iconst (v := (1 : Int32)) C.1 C.2.1 dX0_sortSets_28 (by decide) ?_
      refine lv_isub C.1 C.2.1 dX0_sortSets_29 ?_
      obtain ⟨g_3, hE⟩ := gd_e hE
      refine y_iald C hW k_r_2 g_3 dX0_sortSets_30 ?_
      refine lv_iload_n C.1 C.2.1 dX0_sortSets_31 rfl (lv_at hl 2 rfl) ?_
      refine lv_icmp_le (tgt := 55) C.1 C.2.1 dX0_sortSets_32 (by decide) (fun c_4 => ?_) (fun c_4 => ?_)
      · have hE := br_p hE c_4
        exact bX0_sortSets_55 C hk_2 k_x0 hkm hW hZ _ (lv_sub hl [0, 1, 2, 3] rfl) hE
      · have hE := br_n hE c_4
        refine lv_aload_n C.1 C.2.1 dX0_sortSets_35 rfl (lv_at hl 0 rfl) ?_
        obtain ⟨r_5, er_5, hE⟩ := cl_e hE
        refine gf_X0_18 C hW k_x0 er_5 dX0_sortSets_36 (fun k_r_5 => ?_)
        refine lv_iload_n C.1 C.2.1 dX0_sortSets_39 rfl (lv_at hl 3 rfl) ?_
        refine lv_aload_n C.1 C.2.1 dX0_sortSets_40 rfl (lv_at hl 0 rfl) ?_
        obtain ⟨r_6, er_6, hE⟩ := cl_e hE
        refine gf_X0_18 C hW k_x0 er_6 dX0_sortSets_41 (fun k_r_6 => ?_)
        refine lv_iload_n C.1 C.2.1 dX0_sortSets_44 rfl (lv_at hl 3 rfl) ?_
        refine lv_iconst (v := (1 : Int32)) C.1 C.2.1 dX0_sortSets_45 (by decide) ?_
        refine lv_isub C.1 C.2.1 dX0_sortSets_46 ?_
        obtain ⟨g_7, hE⟩ := gd_e hE
        refine y_iald C hW k_r_6 g_7 dX0_sortSets_47 ?_
        obtain ⟨g_8, hE⟩ := gd_e hE
        obtain ⟨h_9, eh_9, hE⟩ := nm_e2 hE
        refine y_iast C hW hZ k_r_5 g_8 eh_9 dX0_sortSets_48 (fun _ _ hW km hZ => ?_)
        replace hkm := hkm.tr km
        replace k_x0 := km.at k_x0 (by decide)
        obtain ⟨v_10, ev_10, hE⟩ := nm_e2 hE
        refine lv_iinc (v := v_10) (lv' := [(3, .int v_10), (0, .ref x0), (1, .int x1), (2, .int x2)]) C.1 C.2.1 dX0_sortSets_49 hl (k := 3) rfl (by rw [ev_10]; rfl) (by decide) rfl (fun ls hl => ?_)
        refine lv_goto (tgt := 19) C.1 C.2.1 dX0_sortSets_52 (by decide) ?_
        exact hk_19 _ _ _ _ _ _ _ k_x0 hkm hW hZ _ (lv_sub hl [1, 2, 3, 0] rfl) hE
set_option maxRecDepth 20000 in
theorem bX0_sortSets_2 {p : Program} {l : Launch} {e : Env} {s : State} {m : MethodId} {args : Array Value} {below : List Frame} {meth : Method} {c : Code} {X : Ec} {h0 : Hp} {o : Hp} {F : Nat} (C : Cx X p s m args meth c RX0 cX0_sortSets 4 none "sortSets") : ∀ (f : Nat) {h : Hp} {x0 : Nat} {x1 : Int32} {H : Heap} {locs : List Loc} (k_x0 : hK h x0 = 0), Km h0 h → Wx X h H → va_S (aA (eB X)) s.heap H locs → ∀ (ls : Array Slot), lv_has ls 4 [(0, .ref x0), (1, .int x1)] → sX0_sortSets_2 F f h x0 x1 = some o → W p l e (rm 2 42) s m args below meth c H locs 0 0 (MQ below (QV X h0 o) args s 0 0 (aA (eB X))) (F0 m 2 ls []) := by
  intro f
  induction f with
  | zero =>
    intro h x0 x1 H locs k_x0 hkm hW hZ ls hl hE
    rw [sX0_sortSets_2] at hE
    cases hE
  | succ f ih =>
    intro h x0 x1 H locs k_x0 hkm hW hZ ls hl hE
    rw [sX0_sortSets_2] at hE
    have hk_2 : ∀ (h : Hp) (x0 : Nat) (x1 : Int32) (H : Heap) (locs : List Loc), hK h x0 = 0 → Km h0 h → Wx X h H → va_S (aA (eB X)) s.heap H locs → ∀ (ls : Array Slot), lv_has ls 4 [(0, .ref x0), (1, .int x1)] → sX0_sortSets_2 F f h x0 x1 = some o → W p l e (rm 2 42) s m args below meth c H locs 0 0 (MQ below (QV X h0 o) args s 0 0 (aA (eB X))) (F0 m 2 ls []) := fun h x0 x1 H locs k_x0 a b c ls hl hE => ih k_x0 a b c ls hl hE
    refine lv_iload_n C.1 C.2.1 dX0_sortSets_2 rfl (lv_at hl 1 rfl) ?_
    refine lv_aload_n C.1 C.2.1 dX0_sortSets_3 rfl (lv_at hl 0 rfl) ?_
    refine gf_X0_129 C hW k_x0 dX0_sortSets_4 ?_
    refine lv_icmp_ge (tgt := 68) C.1 C.2.1 dX0_sortSets_7 (by decide) (fun c_1 => ?_) (fun c_1 => ?_)
    · have hE := br_p hE c_1
      refine lv_aload_n C.1 C.2.1 dX0_sortSets_68 rfl (lv_at hl 0 rfl) ?_
      obtain ⟨r_2, er_2, hE⟩ := cl_e hE
      refine gf_X0_22 C hW k_x0 er_2 dX0_sortSets_69 (fun k_r_2 => ?_)
      refine lv_iconst (v := (0 : Int32)) C.1 C.2.1 dX0_sortSets_72 (by decide) ?_
      refine lv_iconst (v := (0 : Int32)) C.1 C.2.1 dX0_sortSets_73 (by decide) ?_
      obtain ⟨g_3, hE⟩ := gd_e hE
      obtain ⟨h_4, eh_4, hE⟩ := nm_e2 hE
      refine y_iast C hW hZ k_r_2 g_3 eh_4 dX0_sortSets_74 (fun _ _ hW km hZ => ?_)
      replace hkm := hkm.tr km
      replace k_x0 := km.at k_x0 (by decide)
      refine lv_iconst (v := (0 : Int32)) C.1 C.2.1 dX0_sortSets_75 (by decide) ?_
      refine lv_istore_n (lv' := [(1, .int (0 : Int32)), (0, .ref x0)]) C.1 C.2.1 dX0_sortSets_76 rfl hl (by decide) rfl (fun ls hl => ?_)
      exact bX0_sortSets_77 C F k_x0 hkm hW hZ _ (lv_sub hl [1, 0] rfl) hE
    · have hE := br_n hE c_1
      refine lv_aload_n C.1 C.2.1 dX0_sortSets_10 rfl (lv_at hl 0 rfl) ?_
      obtain ⟨r_5, er_5, hE⟩ := cl_e hE
      refine gf_X0_18 C hW k_x0 er_5 dX0_sortSets_11 (fun k_r_5 => ?_)
      refine lv_iload_n C.1 C.2.1 dX0_sortSets_14 rfl (lv_at hl 1 rfl) ?_
      obtain ⟨g_6, hE⟩ := gd_e hE
      refine y_iald C hW k_r_5 g_6 dX0_sortSets_15 ?_
      obtain ⟨v_7, ev_7, hE⟩ := nm_e2 hE
      refine x_nmI ev_7 ?_
      refine lv_istore_n (lv' := [(2, .int v_7), (0, .ref x0), (1, .int x1)]) C.1 C.2.1 dX0_sortSets_16 rfl hl (by decide) rfl (fun ls hl => ?_)
      refine lv_iload_n C.1 C.2.1 dX0_sortSets_17 rfl (lv_at hl 2 rfl) ?_
      refine lv_istore_n (lv' := [(3, .int x1), (2, .int v_7), (0, .ref x0), (1, .int x1)]) C.1 C.2.1 dX0_sortSets_18 rfl hl (by decide) rfl (fun ls hl => ?_)
      exact bX0_sortSets_19 C hk_2 F k_x0 hkm hW hZ _ (lv_sub hl [2, 3, 1, 0] rfl) hE
set_option maxRecDepth 20000 in
theorem ct_X0_sortSets (l : Launch) (X : Ec) (F : Nat) {h : Hp} {x0 : Nat} {o : Hp} (k_x0 : hK h x0 = 0) (hE : sX0_sortSets F h x0 = some o) : MetV l yX0_sortSets cX0_sortSets 4 none 2 42 X [.ref x0] h o := by
  refine x_met (by decide) (Nat.le_of_ble_eq_true rfl) ?_
  intro p e s m below meth c ls C hl hW hZ
  have hl : lv_has ls 4 [(0, .ref x0)] := hl
  have hkm : Km h h := Km.rf h
  refine lv_iconst (v := (1 : Int32)) C.1 C.2.1 dX0_sortSets_0 (by decide) ?_
  refine lv_istore_n (lv' := [(1, .int (1 : Int32)), (0, .ref x0)]) C.1 C.2.1 dX0_sortSets_1 rfl hl (by decide) rfl (fun ls hl => ?_)
  exact bX0_sortSets_2 C F k_x0 hkm hW hZ _ (lv_sub hl [1, 0] rfl) hE
set_option maxRecDepth 100000 in
theorem ms_92 : Cond.selects RX0 yX0_sortSets yX0_sortSets ∈ W0 := w0_in (List.mem_append_left _ (List.mem_of_getElem? (i := 92) rfl)) rfl
set_option maxRecDepth 100000 in
theorem ms_91 : Cond.selects RX0 yX0_addSetsOf yX0_addSetsOf ∈ W0 := w0_in (List.mem_append_left _ (List.mem_of_getElem? (i := 91) rfl)) rfl
set_option maxRecDepth 100000 in
theorem m_74 : Cond.fieldLink RX0 126 (TX1 2).1 (TX1 2).2.1 (TX1 2).2.2.1 ∈ W0 := w0_in (List.mem_append_right _ (List.mem_of_getElem? (i := 74) rfl)) rfl
set_option maxRecDepth 100000 in
theorem m_1628 : Cond.methodLink RX0 137 yX0_addSetsOf ∈ W0 := w0_in (List.mem_append_right _ (List.mem_of_getElem? (i := 1628) rfl)) rfl
set_option maxRecDepth 100000 in
theorem m_1630 : Cond.instanceMethod yX0_addSetsOf ∈ W0 := w0_in (List.mem_append_right _ (List.mem_of_getElem? (i := 1630) rfl)) rfl
set_option maxRecDepth 100000 in
theorem m_1631 : Cond.code yX0_addSetsOf cX0_addSetsOf 7 none ∈ W0 := w0_in (List.mem_append_right _ (List.mem_of_getElem? (i := 1631) rfl)) rfl
set_option maxRecDepth 100000 in
theorem m_1635 : Cond.methodLink RX0 140 yX0_sortSets ∈ W0 := w0_in (List.mem_append_right _ (List.mem_of_getElem? (i := 1635) rfl)) rfl
set_option maxRecDepth 100000 in
theorem m_1637 : Cond.instanceMethod yX0_sortSets ∈ W0 := w0_in (List.mem_append_right _ (List.mem_of_getElem? (i := 1637) rfl)) rfl
set_option maxRecDepth 100000 in
theorem m_1638 : Cond.code yX0_sortSets cX0_sortSets 4 none ∈ W0 := w0_in (List.mem_append_right _ (List.mem_of_getElem? (i := 1638) rfl)) rfl
section
variable {p : Program} {l : Launch} {e : Env} {R : Room} {s : State} {m : MethodId} {args : Array Value} {below : List Frame} {meth : Method} {c : Code} {H : Heap} {locs : List Loc} {cells slots : Nat} {Q : State → Prop}
variable {cc : ByteArray} {pc : Nat} {ls : Array Slot} {rest : List Value} {X : Ec} {h h1 : Hp} {nL : Nat} {rt : Option FieldType} {mn : String}
theorem gf_X0_74 {a : Nat} (C : Cx X p s m args meth c RX0 cc nL rt mn) (hW : Wx X h H) (ha : hK h a = 0) (hdg : decode cc pc = .ok (.getfield 74, 3)) (kk : W p l e R s m args below meth c H locs cells slots Q (F0 m (pc + 3) ls (.int (hI h a 14) :: rest))) : W p l e R s m args below meth c H locs cells slots Q (F0 m pc ls (.ref a :: rest)) :=
  y_geti C hW ha i_X0 (by decide) rfl (by decide) m_474 rfl hdg kk
theorem gf_X0_126 {a : Nat} (C : Cx X p s m args meth c RX0 cc nL rt mn) (hW : Wx X h H) (ha : hK h a = 1) (hdg : decode cc pc = .ok (.getfield 126, 3)) (kk : W p l e R s m args below meth c H locs cells slots Q (F0 m (pc + 3) ls (.int (hI h a 2) :: rest))) : W p l e R s m args below meth c H locs cells slots Q (F0 m pc ls (.ref a :: rest)) :=
  y_geti C hW ha i_X1 (by decide) rfl (by decide) m_74 rfl hdg kk
end
theorem cw_X0_140 : cwd RX0 140 yX0_sortSets cX0_sortSets 4 none false 0 := ⟨m_1638, m_1635, m_13, ⟨m_1637, ms_92⟩, by decide, by decide, by decide +kernel⟩
theorem cw_X0_137 : cwd RX0 137 yX0_addSetsOf cX0_addSetsOf 7 none false 1 := ⟨m_1631, m_1628, m_13, ⟨m_1630, ms_91⟩, by decide, by decide, by decide +kernel⟩
theorem dX0_gatherSets_0 : decode cX0_gatherSets 0 = .ok (.aload_n 0, 1) := by decide +kernel
theorem dX0_gatherSets_1 : decode cX0_gatherSets 1 = .ok (.getfield 25, 3) := by decide +kernel
theorem dX0_gatherSets_4 : decode cX0_gatherSets 4 = .ok (.iconst 0, 1) := by decide +kernel
theorem dX0_gatherSets_5 : decode cX0_gatherSets 5 = .ok (.iconst 1, 1) := by decide +kernel
theorem dX0_gatherSets_6 : decode cX0_gatherSets 6 = .ok (.iastore, 1) := by decide +kernel
theorem dX0_gatherSets_7 : decode cX0_gatherSets 7 = .ok (.iconst 1, 1) := by decide +kernel
theorem dX0_gatherSets_8 : decode cX0_gatherSets 8 = .ok (.istore_n 1, 1) := by decide +kernel
theorem dX0_gatherSets_9 : decode cX0_gatherSets 9 = .ok (.iload_n 1, 1) := by decide +kernel
theorem dX0_gatherSets_10 : decode cX0_gatherSets 10 = .ok (.iconst 5, 1) := by decide +kernel
theorem dX0_gatherSets_11 : decode cX0_gatherSets 11 = .ok (.if_icmp .gt 31, 3) := by decide +kernel
theorem dX0_gatherSets_14 : decode cX0_gatherSets 14 = .ok (.aload_n 0, 1) := by decide +kernel
theorem dX0_gatherSets_15 : decode cX0_gatherSets 15 = .ok (.getfield 25, 3) := by decide +kernel
theorem dX0_gatherSets_18 : decode cX0_gatherSets 18 = .ok (.iload_n 1, 1) := by decide +kernel
theorem dX0_gatherSets_19 : decode cX0_gatherSets 19 = .ok (.aload_n 0, 1) := by decide +kernel
theorem dX0_gatherSets_20 : decode cX0_gatherSets 20 = .ok (.getfield 25, 3) := by decide +kernel
theorem dX0_gatherSets_23 : decode cX0_gatherSets 23 = .ok (.iload_n 1, 1) := by decide +kernel
theorem dX0_gatherSets_24 : decode cX0_gatherSets 24 = .ok (.iconst 1, 1) := by decide +kernel
theorem dX0_gatherSets_25 : decode cX0_gatherSets 25 = .ok (.isub, 1) := by decide +kernel
theorem dX0_gatherSets_26 : decode cX0_gatherSets 26 = .ok (.iaload, 1) := by decide +kernel
theorem dX0_gatherSets_27 : decode cX0_gatherSets 27 = .ok (.aload_n 0, 1) := by decide +kernel
theorem dX0_gatherSets_28 : decode cX0_gatherSets 28 = .ok (.getfield 40, 3) := by decide +kernel
theorem dX0_gatherSets_31 : decode cX0_gatherSets 31 = .ok (.getfield 126, 3) := by decide +kernel
theorem dX0_gatherSets_34 : decode cX0_gatherSets 34 = .ok (.imul, 1) := by decide +kernel
theorem dX0_gatherSets_35 : decode cX0_gatherSets 35 = .ok (.iastore, 1) := by decide +kernel
theorem dX0_gatherSets_36 : decode cX0_gatherSets 36 = .ok (.iinc 1 1, 3) := by decide +kernel
theorem dX0_gatherSets_39 : decode cX0_gatherSets 39 = .ok (.goto (-30), 3) := by decide +kernel
theorem dX0_gatherSets_42 : decode cX0_gatherSets 42 = .ok (.aload_n 0, 1) := by decide +kernel
theorem dX0_gatherSets_43 : decode cX0_gatherSets 43 = .ok (.iconst 0, 1) := by decide +kernel
theorem dX0_gatherSets_44 : decode cX0_gatherSets 44 = .ok (.putfield 129, 3) := by decide +kernel
theorem dX0_gatherSets_47 : decode cX0_gatherSets 47 = .ok (.aload_n 0, 1) := by decide +kernel
theorem dX0_gatherSets_48 : decode cX0_gatherSets 48 = .ok (.lconst 0, 1) := by decide +kernel
theorem dX0_gatherSets_49 : decode cX0_gatherSets 49 = .ok (.putfield 119, 3) := by decide +kernel
theorem dX0_gatherSets_52 : decode cX0_gatherSets 52 = .ok (.aload_n 0, 1) := by decide +kernel
theorem dX0_gatherSets_53 : decode cX0_gatherSets 53 = .ok (.aload_n 0, 1) := by decide +kernel
theorem dX0_gatherSets_54 : decode cX0_gatherSets 54 = .ok (.getfield 74, 3) := by decide +kernel
theorem dX0_gatherSets_57 : decode cX0_gatherSets 57 = .ok (.invokevirtual 132, 3) := by decide +kernel
theorem dX0_gatherSets_60 : decode cX0_gatherSets 60 = .ok (.iconst 0, 1) := by decide +kernel
theorem dX0_gatherSets_61 : decode cX0_gatherSets 61 = .ok (.istore_n 1, 1) := by decide +kernel
theorem dX0_gatherSets_62 : decode cX0_gatherSets 62 = .ok (.iload_n 1, 1) := by decide +kernel
theorem dX0_gatherSets_63 : decode cX0_gatherSets 63 = .ok (.aload_n 0, 1) := by decide +kernel
theorem dX0_gatherSets_64 : decode cX0_gatherSets 64 = .ok (.getfield 129, 3) := by decide +kernel
theorem dX0_gatherSets_67 : decode cX0_gatherSets 67 = .ok (.if_icmp .ge 37, 3) := by decide +kernel
theorem dX0_gatherSets_70 : decode cX0_gatherSets 70 = .ok (.iload_n 1, 1) := by decide +kernel
theorem dX0_gatherSets_71 : decode cX0_gatherSets 71 = .ok (.sipush 1024, 3) := by decide +kernel
theorem dX0_gatherSets_74 : decode cX0_gatherSets 74 = .ok (.if_icmp .ge 30, 3) := by decide +kernel
theorem dX0_gatherSets_77 : decode cX0_gatherSets 77 = .ok (.aload_n 0, 1) := by decide +kernel
theorem dX0_gatherSets_78 : decode cX0_gatherSets 78 = .ok (.getfield 119, 3) := by decide +kernel
theorem dX0_gatherSets_81 : decode cX0_gatherSets 81 = .ok (.ldc2_w 135, 3) := by decide +kernel
theorem dX0_gatherSets_84 : decode cX0_gatherSets 84 = .ok (.lcmp, 1) := by decide +kernel
theorem dX0_gatherSets_85 : decode cX0_gatherSets 85 = .ok (.ifCond .gt 19, 3) := by decide +kernel
theorem dX0_gatherSets_88 : decode cX0_gatherSets 88 = .ok (.aload_n 0, 1) := by decide +kernel
theorem dX0_gatherSets_89 : decode cX0_gatherSets 89 = .ok (.aload_n 0, 1) := by decide +kernel
theorem dX0_gatherSets_90 : decode cX0_gatherSets 90 = .ok (.getfield 18, 3) := by decide +kernel
theorem dX0_gatherSets_93 : decode cX0_gatherSets 93 = .ok (.iload_n 1, 1) := by decide +kernel
theorem dX0_gatherSets_94 : decode cX0_gatherSets 94 = .ok (.iaload, 1) := by decide +kernel
theorem dX0_gatherSets_95 : decode cX0_gatherSets 95 = .ok (.invokevirtual 137, 3) := by decide +kernel
theorem dX0_gatherSets_98 : decode cX0_gatherSets 98 = .ok (.iinc 1 1, 3) := by decide +kernel
theorem dX0_gatherSets_101 : decode cX0_gatherSets 101 = .ok (.goto (-39), 3) := by decide +kernel
theorem dX0_gatherSets_104 : decode cX0_gatherSets 104 = .ok (.aload_n 0, 1) := by decide +kernel
theorem dX0_gatherSets_105 : decode cX0_gatherSets 105 = .ok (.getfield 119, 3) := by decide +kernel
theorem dX0_gatherSets_108 : decode cX0_gatherSets 108 = .ok (.ldc2_w 135, 3) := by decide +kernel
theorem dX0_gatherSets_111 : decode cX0_gatherSets 111 = .ok (.lcmp, 1) := by decide +kernel
theorem dX0_gatherSets_112 : decode cX0_gatherSets 112 = .ok (.ifCond .le 5, 3) := by decide +kernel
theorem dX0_gatherSets_115 : decode cX0_gatherSets 115 = .ok (.iconst 0, 1) := by decide +kernel
theorem dX0_gatherSets_116 : decode cX0_gatherSets 116 = .ok (.ireturn, 1) := by decide +kernel
theorem dX0_gatherSets_117 : decode cX0_gatherSets 117 = .ok (.aload_n 0, 1) := by decide +kernel
theorem dX0_gatherSets_118 : decode cX0_gatherSets 118 = .ok (.invokevirtual 140, 3) := by decide +kernel
theorem dX0_gatherSets_121 : decode cX0_gatherSets 121 = .ok (.iconst 1, 1) := by decide +kernel
theorem dX0_gatherSets_122 : decode cX0_gatherSets 122 = .ok (.ireturn, 1) := by decide +kernel
set_option maxRecDepth 20000 in
theorem moX0_gatherSets_104 {o : Int32 × Hp} {F : Nat} {h : Hp} {x0 : Nat} (hE : sX0_gatherSets_104 F h x0 = some o) : Le h o.2 := by
  rcases br_e hE with ⟨_, hE⟩ | ⟨_, hE⟩
  · obtain ⟨o_2, eo_2, hE⟩ := cl_e hE
    refine (moX0_sortSets eo_2).tr ?_
    exact le_some2 hE
  · exact le_some2 hE
set_option maxRecDepth 20000 in
theorem moX0_gatherSets_62 {o : Int32 × Hp} {F : Nat} : ∀ (f : Nat) {h : Hp} {x0 : Nat} {x1 : Int32}, sX0_gatherSets_62 F f h x0 x1 = some o → Le h o.2 := by
  intro f
  induction f with
  | zero =>
    intro h x0 x1 hE
    rw [sX0_gatherSets_62] at hE
    cases hE
  | succ f ih =>
    intro h x0 x1 hE
    rw [sX0_gatherSets_62] at hE
    have mk_62 : ∀ (h : Hp) (x0 : Nat) (x1 : Int32), sX0_gatherSets_62 F f h x0 x1 = some o → Le h o.2 := fun h x0 x1 hE => ih hE
    rcases br_e hE with ⟨_, hE⟩ | ⟨_, hE⟩
    · exact moX0_gatherSets_104 hE
    · rcases br_e hE with ⟨_, hE⟩ | ⟨_, hE⟩
      · exact moX0_gatherSets_104 hE
      · rcases br_e hE with ⟨_, hE⟩ | ⟨_, hE⟩
        · exact moX0_gatherSets_104 hE
        · obtain ⟨r_4, er_4, hE⟩ := cl_e hE
          obtain ⟨g_5, hE⟩ := gd_e hE
          obtain ⟨o_6, eo_6, hE⟩ := cl_e hE
          refine (moX0_addSetsOf eo_6).tr ?_
          obtain ⟨v_7, ev_7, hE⟩ := nm_e2 hE
          exact mk_62 _ _ _ hE
set_option maxRecDepth 20000 in
theorem moX0_gatherSets_9 {o : Int32 × Hp} {F : Nat} : ∀ (f : Nat) {h : Hp} {x0 : Nat} {x1 : Int32}, sX0_gatherSets_9 F f h x0 x1 = some o → Le h o.2 := by
  intro f
  induction f with
  | zero =>
    intro h x0 x1 hE
    rw [sX0_gatherSets_9] at hE
    cases hE
  | succ f ih =>
    intro h x0 x1 hE
    rw [sX0_gatherSets_9] at hE
    have mk_9 : ∀ (h : Hp) (x0 : Nat) (x1 : Int32), sX0_gatherSets_9 F f h x0 x1 = some o → Le h o.2 := fun h x0 x1 hE => ih hE
    rcases br_e hE with ⟨_, hE⟩ | ⟨_, hE⟩
    · obtain ⟨h_2, eh_2, hE⟩ := nm_e2 hE
      refine (le_I eh_2).tr ?_
      obtain ⟨h_3, eh_3, hE⟩ := nm_e2 hE
      refine (le_J eh_3).tr ?_
      obtain ⟨o_4, eo_4, hE⟩ := cl_e hE
      refine (moX0_addSet eo_4).tr ?_
      exact moX0_gatherSets_62 _ hE
    · obtain ⟨r_5, er_5, hE⟩ := cl_e hE
      obtain ⟨r_6, er_6, hE⟩ := cl_e hE
      obtain ⟨g_7, hE⟩ := gd_e hE
      obtain ⟨r_8, er_8, hE⟩ := cl_e hE
      obtain ⟨g_9, hE⟩ := gd_e hE
      obtain ⟨h_10, eh_10, hE⟩ := nm_e2 hE
      refine (le_I eh_10).tr ?_
      obtain ⟨v_11, ev_11, hE⟩ := nm_e2 hE
      exact mk_9 _ _ _ hE
set_option maxRecDepth 20000 in
theorem moX0_gatherSets {o : Int32 × Hp} {F : Nat} {h : Hp} {x0 : Nat} (hE : sX0_gatherSets F h x0 = some o) : Le h o.2 := by
  obtain ⟨r_1, er_1, hE⟩ := cl_e hE
  obtain ⟨g_2, hE⟩ := gd_e hE
  obtain ⟨h_3, eh_3, hE⟩ := nm_e2 hE
  refine (le_I eh_3).tr ?_
  exact moX0_gatherSets_9 _ hE
set_option maxRecDepth 20000 in
theorem bX0_gatherSets_104 {p : Program} {l : Launch} {e : Env} {s : State} {m : MethodId} {args : Array Value} {below : List Frame} {meth : Method} {c : Code} {X : Ec} {h0 : Hp} {o : Int32 × Hp} {F : Nat} (C : Cx X p s m args meth c RX0 cX0_gatherSets 2 (some .boolean) "gatherSets") {h : Hp} {x0 : Nat} {H : Heap} {locs : List Loc} (k_x0 : hK h x0 = 0) (hkm : Km h0 h) (hW : Wx X h H) (hZ : va_S (aA (eB X)) s.heap H locs) (ls : Array Slot) (hl : lv_has ls 2 [(0, .ref x0)]) (hE : sX0_gatherSets_104 F h x0 = some o) : W p l e (rm 4 90) s m args below meth c H locs 0 0 (MQ below (QI X h0 o.1 o.2) args s 0 0 (aA (eB X))) (F0 m 104 ls []) := by
  refine lv_aload_n C.1 C.2.1 dX0_gatherSets_104 rfl (lv_at hl 0 rfl) ?_
  refine gf_X0_119 C hW k_x0 dX0_gatherSets_105 ?_
  refine lv_ldc2 (v := (600000 : Int64)) C.1 C.2.1 C.2.2.2.1 (C.2.2.2.2.1 _ m_1627) dX0_gatherSets_108 ?_
  refine W.lcmp C.1 C.2.1 dX0_gatherSets_111 ?_
  refine lv_if_le (tgt := 117) C.1 C.2.1 dX0_gatherSets_112 (by decide) (fun c_1 => ?_) (fun c_1 => ?_)
  · have hE := br_p hE c_1
    refine lv_aload_n C.1 C.2.1 dX0_gatherSets_117 rfl (lv_at hl 0 rfl) ?_
    obtain ⟨o_2, eo_2, hE⟩ := cl_e hE
    refine x_kV (o := o_2) (z_runV (As := []) (rest := []) C (ct_X0_sortSets l X F k_x0 eo_2) cw_X0_140 hW hZ k_x0 (by decide) rfl rfl rfl hl.1 (Nat.le_of_ble_eq_true rfl) rfl dX0_gatherSets_118 ⟨Nat.le_of_ble_eq_true rfl, Nat.le_of_ble_eq_true rfl⟩ ⟨Nat.le_refl _, Nat.le_refl _⟩) hZ (fun _ _ hW km hZ => ?_)
    replace hkm := hkm.tr km
    replace k_x0 := km.at k_x0 (by decide)
    refine lv_iconst (v := (1 : Int32)) C.1 C.2.1 dX0_gatherSets_121 (by decide) ?_
    exact x_iret C rfl (by decide) hW hZ hkm hE dX0_gatherSets_122
  · have hE := br_n hE c_1
    refine lv_iconst (v := (0 : Int32)) C.1 C.2.1 dX0_gatherSets_115 (by decide) ?_
    exact x_iret C rfl (by decide) hW hZ hkm hE dX0_gatherSets_116
set_option maxRecDepth 20000 in
theorem bX0_gatherSets_62 {p : Program} {l : Launch} {e : Env} {s : State} {m : MethodId} {args : Array Value} {below : List Frame} {meth : Method} {c : Code} {X : Ec} {h0 : Hp} {o : Int32 × Hp} {F : Nat} (C : Cx X p s m args meth c RX0 cX0_gatherSets 2 (some .boolean) "gatherSets") : ∀ (f : Nat) {h : Hp} {x0 : Nat} {x1 : Int32} {H : Heap} {locs : List Loc} (k_x0 : hK h x0 = 0), Km h0 h → Wx X h H → va_S (aA (eB X)) s.heap H locs → ∀ (ls : Array Slot), lv_has ls 2 [(0, .ref x0), (1, .int x1)] → sX0_gatherSets_62 F f h x0 x1 = some o → W p l e (rm 4 90) s m args below meth c H locs 0 0 (MQ below (QI X h0 o.1 o.2) args s 0 0 (aA (eB X))) (F0 m 62 ls []) := by
  intro f
  induction f with
  | zero =>
    intro h x0 x1 H locs k_x0 hkm hW hZ ls hl hE
    rw [sX0_gatherSets_62] at hE
    cases hE
  | succ f ih =>
    intro h x0 x1 H locs k_x0 hkm hW hZ ls hl hE
    rw [sX0_gatherSets_62] at hE
    have hk_62 : ∀ (h : Hp) (x0 : Nat) (x1 : Int32) (H : Heap) (locs : List Loc), hK h x0 = 0 → Km h0 h → Wx X h H → va_S (aA (eB X)) s.heap H locs → ∀ (ls : Array Slot), lv_has ls 2 [(0, .ref x0), (1, .int x1)] → sX0_gatherSets_62 F f h x0 x1 = some o → W p l e (rm 4 90) s m args below meth c H locs 0 0 (MQ below (QI X h0 o.1 o.2) args s 0 0 (aA (eB X))) (F0 m 62 ls []) := fun h x0 x1 H locs k_x0 a b c ls hl hE => ih k_x0 a b c ls hl hE
    refine lv_iload_n C.1 C.2.1 dX0_gatherSets_62 rfl (lv_at hl 1 rfl) ?_
    refine lv_aload_n C.1 C.2.1 dX0_gatherSets_63 rfl (lv_at hl 0 rfl) ?_
    refine gf_X0_129 C hW k_x0 dX0_gatherSets_64 ?_
    refine lv_icmp_ge (tgt := 104) C.1 C.2.1 dX0_gatherSets_67 (by decide) (fun c_1 => ?_) (fun c_1 => ?_)
    · have hE := br_p hE c_1
      exact bX0_gatherSets_104 C k_x0 hkm hW hZ _ (lv_sub hl [0] rfl) hE
    · have hE := br_n hE c_1
      refine lv_iload_n C.1 C.2.1 dX0_gatherSets_70 rfl (lv_at hl 1 rfl) ?_
      refine lv_sipush (v := (1024 : Int32)) C.1 C.2.1 dX0_gatherSets_71 (by decide) ?_
      refine lv_icmp_ge (tgt := 104) C.1 C.2.1 dX0_gatherSets_74 (by decide) (fun c_2 => ?_) (fun c_2 => ?_)
      · have hE := br_p hE c_2
        exact bX0_gatherSets_104 C k_x0 hkm hW hZ _ (lv_sub hl [0] rfl) hE
      · have hE := br_n hE c_2
        refine lv_aload_n C.1 C.2.1 dX0_gatherSets_77 rfl (lv_at hl 0 rfl) ?_
        refine gf_X0_119 C hW k_x0 dX0_gatherSets_78 ?_
        refine lv_ldc2 (v := (600000 : Int64)) C.1 C.2.1 C.2.2.2.1 (C.2.2.2.2.1 _ m_1627) dX0_gatherSets_81 ?_
        refine W.lcmp C.1 C.2.1 dX0_gatherSets_84 ?_
        refine lv_if_gt (tgt := 104) C.1 C.2.1 dX0_gatherSets_85 (by decide) (fun c_3 => ?_) (fun c_3 => ?_)
        · have hE := br_p hE c_3
          exact bX0_gatherSets_104 C k_x0 hkm hW hZ _ (lv_sub hl [0] rfl) hE
        · have hE := br_n hE c_3
          refine lv_aload_n C.1 C.2.1 dX0_gatherSets_88 rfl (lv_at hl 0 rfl) ?_
          refine lv_aload_n C.1 C.2.1 dX0_gatherSets_89 rfl (lv_at hl 0 rfl) ?_
          obtain ⟨r_4, er_4, hE⟩ := cl_e hE
          refine gf_X0_18 C hW k_x0 er_4 dX0_gatherSets_90 (fun k_r_4 => ?_)
          refine lv_iload_n C.1 C.2.1 dX0_gatherSets_93 rfl (lv_at hl 1 rfl) ?_
          obtain ⟨g_5, hE⟩ := gd_e hE
          refine y_iald C hW k_r_4 g_5 dX0_gatherSets_94 ?_
          obtain ⟨o_6, eo_6, hE⟩ := cl_e hE
          refine x_kV (o := o_6) (z_runV (As := [.int (hI h r_4 x1.toNatClampNeg)]) (rest := []) C (ct_X0_addSetsOf l X F k_x0 eo_6) cw_X0_137 hW hZ k_x0 (by decide) rfl rfl rfl hl.1 (Nat.le_of_ble_eq_true rfl) rfl dX0_gatherSets_95 ⟨Nat.le_of_ble_eq_true rfl, Nat.le_of_ble_eq_true rfl⟩ ⟨Nat.le_refl _, Nat.le_refl _⟩) hZ (fun _ _ hW km hZ => ?_)
          replace hkm := hkm.tr km
          replace k_x0 := km.at k_x0 (by decide)
          obtain ⟨v_7, ev_7, hE⟩ := nm_e2 hE
          refine lv_iinc (v := v_7) (lv' := [(1, .int v_7), (0, .ref x0)]) C.1 C.2.1 dX0_gatherSets_98 hl (k := 1) rfl (by rw [ev_7]; rfl) (by decide) rfl (fun ls hl => ?_)
          refine lv_goto (tgt := 62) C.1 C.2.1 dX0_gatherSets_101 (by decide) ?_
          exact hk_62 _ _ _ _ _ k_x0 hkm hW hZ _ (lv_sub hl [1, 0] rfl) hE
set_option maxRecDepth 20000 in
theorem bX0_gatherSets_9 {p : Program} {l : Launch} {e : Env} {s : State} {m : MethodId} {args : Array Value} {below : List Frame} {meth : Method} {c : Code} {X : Ec} {h0 : Hp} {o : Int32 × Hp} {F : Nat} (C : Cx X p s m args meth c RX0 cX0_gatherSets 2 (some .boolean) "gatherSets") : ∀ (f : Nat) {h : Hp} {x0 : Nat} {x1 : Int32} {H : Heap} {locs : List Loc} (k_x0 : hK h x0 = 0), Km h0 h → Wx X h H → va_S (aA (eB X)) s.heap H locs → ∀ (ls : Array Slot), lv_has ls 2 [(0, .ref x0), (1, .int x1)] → sX0_gatherSets_9 F f h x0 x1 = some o → W p l e (rm 4 90) s m args below meth c H locs 0 0 (MQ below (QI X h0 o.1 o.2) args s 0 0 (aA (eB X))) (F0 m 9 ls []) := by
  intro f
  induction f with
  | zero =>
    intro h x0 x1 H locs k_x0 hkm hW hZ ls hl hE
    rw [sX0_gatherSets_9] at hE
    cases hE
  | succ f ih =>
    intro h x0 x1 H locs k_x0 hkm hW hZ ls hl hE
    rw [sX0_gatherSets_9] at hE
    have hk_9 : ∀ (h : Hp) (x0 : Nat) (x1 : Int32) (H : Heap) (locs : List Loc), hK h x0 = 0 → Km h0 h → Wx X h H → va_S (aA (eB X)) s.heap H locs → ∀ (ls : Array Slot), lv_has ls 2 [(0, .ref x0), (1, .int x1)] → sX0_gatherSets_9 F f h x0 x1 = some o → W p l e (rm 4 90) s m args below meth c H locs 0 0 (MQ below (QI X h0 o.1 o.2) args s 0 0 (aA (eB X))) (F0 m 9 ls []) := fun h x0 x1 H locs k_x0 a b c ls hl hE => ih k_x0 a b c ls hl hE
    refine lv_iload_n C.1 C.2.1 dX0_gatherSets_9 rfl (lv_at hl 1 rfl) ?_
    refine lv_iconst (v := (5 : Int32)) C.1 C.2.1 dX0_gatherSets_10 (by decide) ?_
    refine lv_icmp_gt (tgt := 42) C.1 C.2.1 dX0_gatherSets_11 (by decide) (fun c_1 => ?_) (fun c_1 => ?_)
    · have hE := br_p hE c_1
      refine lv_aload_n C.1 C.2.1 dX0_gatherSets_42 rfl (lv_at hl 0 rfl) ?_
      refine lv_iconst (v := (0 : Int32)) C.1 C.2.1 dX0_gatherSets_43 (by decide) ?_
      obtain ⟨h_2, eh_2, hE⟩ := nm_e2 hE
      refine pf_X0_129 C hW hZ k_x0 eh_2 dX0_gatherSets_44 (fun _ _ hW km hZ => ?_)
      replace hkm := hkm.tr km
      replace k_x0 := km.at k_x0 (by decide)
      refine lv_aload_n C.1 C.2.1 dX0_gatherSets_47 rfl (lv_at hl 0 rfl) ?_
      refine lv_lconst (v := (0 : Int64)) C.1 C.2.1 dX0_gatherSets_48 (by decide) ?_
      obtain ⟨h_3, eh_3, hE⟩ := nm_e2 hE
      refine pf_X0_119 C hW hZ k_x0 eh_3 dX0_gatherSets_49 (fun _ _ hW km hZ => ?_)
      replace hkm := hkm.tr km
      replace k_x0 := km.at k_x0 (by decide)
      refine lv_aload_n C.1 C.2.1 dX0_gatherSets_52 rfl (lv_at hl 0 rfl) ?_
      refine lv_aload_n C.1 C.2.1 dX0_gatherSets_53 rfl (lv_at hl 0 rfl) ?_
      refine gf_X0_74 C hW k_x0 dX0_gatherSets_54 ?_
      obtain ⟨o_4, eo_4, hE⟩ := cl_e hE
      refine x_kV (o := o_4) (z_runV (As := [.int (hI h_3 x0 14)]) (rest := []) C (ct_X0_addSet l X F k_x0 eo_4) cw_X0_132 hW hZ k_x0 (by decide) rfl rfl rfl hl.1 (Nat.le_of_ble_eq_true rfl) rfl dX0_gatherSets_57 ⟨Nat.le_of_ble_eq_true rfl, Nat.le_of_ble_eq_true rfl⟩ ⟨Nat.le_refl _, Nat.le_refl _⟩) hZ (fun _ _ hW km hZ => ?_)
      replace hkm := hkm.tr km
      replace k_x0 := km.at k_x0 (by decide)
      refine lv_iconst (v := (0 : Int32)) C.1 C.2.1 dX0_gatherSets_60 (by decide) ?_
      refine lv_istore_n (lv' := [(1, .int (0 : Int32)), (0, .ref x0)]) C.1 C.2.1 dX0_gatherSets_61 rfl hl (by decide) rfl (fun ls hl => ?_)
      exact bX0_gatherSets_62 C F k_x0 hkm hW hZ _ (lv_sub hl [1, 0] rfl) hE
    · have hE := br_n hE c_1
      refine lv_aload_n C.1 C.2.1 dX0_gatherSets_14 rfl (lv_at hl 0 rfl) ?_
      obtain ⟨r_5, er_5, hE⟩ := cl_e hE
      refine gf_X0_25 C hW k_x0 er_5 dX0_gatherSets_15 (fun k_r_5 => ?_)
      refine lv_iload_n C.1 C.2.1 dX0_gatherSets_18 rfl (lv_at hl 1 rfl) ?_
      refine lv_aload_n C.1 C.2.1 dX0_gatherSets_19 rfl (lv_at hl 0 rfl) ?_
      obtain ⟨r_6, er_6, hE⟩ := cl_e hE
      refine gf_X0_25 C hW k_x0 er_6 dX0_gatherSets_20 (fun k_r_6 => ?_)
      refine lv_iload_n C.1 C.2.1 dX0_gatherSets_23 rfl (lv_at hl 1 rfl) ?_
      refine lv_iconst (v := (1 : Int32)) C.1 C.2.1 dX0_gatherSets_24 (by decide) ?_
      refine lv_isub C.1 C.2.1 dX0_gatherSets_25 ?_
      obtain ⟨g_7, hE⟩ := gd_e hE
      refine y_iald C hW k_r_6 g_7 dX0_gatherSets_26 ?_
      refine lv_aload_n C.1 C.2.1 dX0_gatherSets_27 rfl (lv_at hl 0 rfl) ?_
      obtain ⟨r_8, er_8, hE⟩ := cl_e hE
      refine gf_X0_40 C hW k_x0 er_8 dX0_gatherSets_28 (fun k_r_8 => ?_)
      refine gf_X0_126 C hW k_r_8 dX0_gatherSets_31 ?_
      refine lv_imul C.1 C.2.1 dX0_gatherSets_34 ?_
      obtain ⟨g_9, hE⟩ := gd_e hE
      obtain ⟨h_10, eh_10, hE⟩ := nm_e2 hE
      refine y_iast C hW hZ k_r_5 g_9 eh_10 dX0_gatherSets_35 (fun _ _ hW km hZ => ?_)
      replace hkm := hkm.tr km
      replace k_x0 := km.at k_x0 (by decide)
      obtain ⟨v_11, ev_11, hE⟩ := nm_e2 hE
      refine lv_iinc (v := v_11) (lv' := [(1, .int v_11), (0, .ref x0)]) C.1 C.2.1 dX0_gatherSets_36 hl (k := 1) rfl (by rw [ev_11]; rfl) (by decide) rfl (fun ls hl => ?_)
      refine lv_goto (tgt := 9) C.1 C.2.1 dX0_gatherSets_39 (by decide) ?_
      exact hk_9 _ _ _ _ _ k_x0 hkm hW hZ _ (lv_sub hl [1, 0] rfl) hE
set_option maxRecDepth 20000 in
theorem ct_X0_gatherSets (l : Launch) (X : Ec) (F : Nat) {h : Hp} {x0 : Nat} {o : Int32 × Hp} (k_x0 : hK h x0 = 0) (hE : sX0_gatherSets F h x0 = some o) : MetI l yX0_gatherSets cX0_gatherSets 2 (some .boolean) 4 90 X [.ref x0] h o := by
  refine x_met (by decide) (Nat.le_of_ble_eq_true rfl) ?_
  intro p e s m below meth c ls C hl hW hZ
  have hl : lv_has ls 2 [(0, .ref x0)] := hl
  have hkm : Km h h := Km.rf h
  refine lv_aload_n C.1 C.2.1 dX0_gatherSets_0 rfl (lv_at hl 0 rfl) ?_
  obtain ⟨r_1, er_1, hE⟩ := cl_e hE
  refine gf_X0_25 C hW k_x0 er_1 dX0_gatherSets_1 (fun k_r_1 => ?_)
  refine lv_iconst (v := (0 : Int32)) C.1 C.2.1 dX0_gatherSets_4 (by decide) ?_
  refine lv_iconst (v := (1 : Int32)) C.1 C.2.1 dX0_gatherSets_5 (by decide) ?_
  obtain ⟨g_2, hE⟩ := gd_e hE
  obtain ⟨h_3, eh_3, hE⟩ := nm_e2 hE
  refine y_iast C hW hZ k_r_1 g_2 eh_3 dX0_gatherSets_6 (fun _ _ hW km hZ => ?_)
  replace hkm := hkm.tr km
  replace k_x0 := km.at k_x0 (by decide)
  refine lv_iconst (v := (1 : Int32)) C.1 C.2.1 dX0_gatherSets_7 (by decide) ?_
  refine lv_istore_n (lv' := [(1, .int (1 : Int32)), (0, .ref x0)]) C.1 C.2.1 dX0_gatherSets_8 rfl hl (by decide) rfl (fun ls hl => ?_)
  exact bX0_gatherSets_9 C F k_x0 hkm hW hZ _ (lv_sub hl [1, 0] rfl) hE
set_option maxRecDepth 100000 in
theorem m_1643 : Cond.constant RX0 107 (600000 : Int32) ∈ W0 := w0_in (List.mem_append_right _ (List.mem_of_getElem? (i := 1643) rfl)) rfl
section
variable {p : Program} {l : Launch} {e : Env} {R : Room} {s : State} {m : MethodId} {args : Array Value} {below : List Frame} {meth : Method} {c : Code} {H : Heap} {locs : List Loc} {cells slots : Nat} {Q : State → Prop}
variable {cc : ByteArray} {pc : Nat} {ls : Array Slot} {rest : List Value} {X : Ec} {h h1 : Hp} {nL : Nat} {rt : Option FieldType} {mn : String}
theorem gf_X0_31 {a r : Nat} (C : Cx X p s m args meth c RX0 cc nL rt mn) (hW : Wx X h H) (ha : hK h a = 0) (hr : hR h a 11 = some r) (hdg : decode cc pc = .ok (.getfield 31, 3)) (kk : hK h r = 17 → W p l e R s m args below meth c H locs cells slots Q (F0 m (pc + 3) ls (.ref r :: rest))) : W p l e R s m args below meth c H locs cells slots Q (F0 m pc ls (.ref a :: rest)) :=
  y_getr C hW ha i_X0 (by decide) rfl (by decide) m_470 rfl rfl hr hdg kk
end
theorem dX0_makeRoom_0 : decode cX0_makeRoom 0 = .ok (.aload_n 0, 1) := by decide +kernel
theorem dX0_makeRoom_1 : decode cX0_makeRoom 1 = .ok (.getfield 31, 3) := by decide +kernel
theorem dX0_makeRoom_4 : decode cX0_makeRoom 4 = .ok (.arraylength, 1) := by decide +kernel
theorem dX0_makeRoom_5 : decode cX0_makeRoom 5 = .ok (.ldc 107, 2) := by decide +kernel
theorem dX0_makeRoom_7 : decode cX0_makeRoom 7 = .ok (.if_icmp .ge 27, 3) := by decide +kernel
theorem dX0_makeRoom_10 : decode cX0_makeRoom 10 = .ok (.aload_n 0, 1) := by decide +kernel
theorem dX0_makeRoom_11 : decode cX0_makeRoom 11 = .ok (.ldc 107, 2) := by decide +kernel
theorem dX0_makeRoom_13 : decode cX0_makeRoom 13 = .ok (.newarray .int, 2) := by decide +kernel
theorem dX0_makeRoom_15 : decode cX0_makeRoom 15 = .ok (.putfield 31, 3) := by decide +kernel
theorem dX0_makeRoom_18 : decode cX0_makeRoom 18 = .ok (.aload_n 0, 1) := by decide +kernel
theorem dX0_makeRoom_19 : decode cX0_makeRoom 19 = .ok (.ldc 107, 2) := by decide +kernel
theorem dX0_makeRoom_21 : decode cX0_makeRoom 21 = .ok (.newarray .int, 2) := by decide +kernel
theorem dX0_makeRoom_23 : decode cX0_makeRoom 23 = .ok (.putfield 34, 3) := by decide +kernel
theorem dX0_makeRoom_26 : decode cX0_makeRoom 26 = .ok (.aload_n 0, 1) := by decide +kernel
theorem dX0_makeRoom_27 : decode cX0_makeRoom 27 = .ok (.ldc 107, 2) := by decide +kernel
theorem dX0_makeRoom_29 : decode cX0_makeRoom 29 = .ok (.newarray .int, 2) := by decide +kernel
theorem dX0_makeRoom_31 : decode cX0_makeRoom 31 = .ok (.putfield 37, 3) := by decide +kernel
theorem dX0_makeRoom_34 : decode cX0_makeRoom 34 = .ok (.return_, 1) := by decide +kernel
set_option maxRecDepth 20000 in
theorem moX0_makeRoom_34 {o : Hp} {h : Hp} (hE : sX0_makeRoom_34 h  = some o) : Le h o := by
  exact le_some1 hE
set_option maxRecDepth 20000 in
theorem moX0_makeRoom_31 {o : Hp} {h : Hp} {t0 : Nat} {t1 : Nat} (hE : sX0_makeRoom_31 h  t0 t1 = some o) : Le h o := by
  obtain ⟨h_1, eh_1, hE⟩ := nm_e2 hE
  refine (le_R eh_1).tr ?_
  exact moX0_makeRoom_34 hE
set_option maxRecDepth 20000 in
theorem moX0_makeRoom_23 {o : Hp} {h : Hp} {x0 : Nat} {t0 : Nat} {t1 : Nat} (hE : sX0_makeRoom_23 h x0 t0 t1 = some o) : Le h o := by
  obtain ⟨h_1, eh_1, hE⟩ := nm_e2 hE
  refine (le_R eh_1).tr ?_
  obtain ⟨a_2, ea_2, hE⟩ := nm_e2 hE
  obtain ⟨h_3, eh_3, hE⟩ := nm_e2 hE
  refine (le_C eh_3).tr ?_
  exact moX0_makeRoom_31 hE
set_option maxRecDepth 20000 in
theorem moX0_makeRoom_15 {o : Hp} {h : Hp} {x0 : Nat} {t0 : Nat} {t1 : Nat} (hE : sX0_makeRoom_15 h x0 t0 t1 = some o) : Le h o := by
  obtain ⟨h_1, eh_1, hE⟩ := nm_e2 hE
  refine (le_R eh_1).tr ?_
  obtain ⟨a_2, ea_2, hE⟩ := nm_e2 hE
  obtain ⟨h_3, eh_3, hE⟩ := nm_e2 hE
  refine (le_C eh_3).tr ?_
  exact moX0_makeRoom_23 hE
set_option maxRecDepth 20000 in
theorem moX0_makeRoom {o : Hp} {h : Hp} {x0 : Nat} (hE : sX0_makeRoom h x0 = some o) : Le h o := by
  obtain ⟨r_1, er_1, hE⟩ := cl_e hE
  rcases br_e hE with ⟨_, hE⟩ | ⟨_, hE⟩
  · exact moX0_makeRoom_34 hE
  · obtain ⟨a_3, ea_3, hE⟩ := nm_e2 hE
    obtain ⟨h_4, eh_4, hE⟩ := nm_e2 hE
    refine (le_C eh_4).tr ?_
    exact moX0_makeRoom_15 hE
set_option maxRecDepth 20000 in
theorem bX0_makeRoom_34 {p : Program} {l : Launch} {e : Env} {s : State} {m : MethodId} {args : Array Value} {below : List Frame} {meth : Method} {c : Code} {X : Ec} {h0 : Hp} {o : Hp} (C : Cx X p s m args meth c RX0 cX0_makeRoom 1 none "makeRoom") {h : Hp} {H : Heap} {locs : List Loc} (hkl : Kl h0 h) (hW : Wx X h H) (hZ : va_S (aA (eB X)) s.heap H locs) (ls : Array Slot) (hl : lv_has ls 1 []) (hE : sX0_makeRoom_34 h  = some o) : W p l e (rmA 0 0 h0 o) s m args below meth c H locs (hS h - hS h0) (hL h - hL h0) (MQ below (QVA X h0 o) args s (hS o - hS h0) (hL o - hL h0) (aA (eB X))) (F0 m 34 ls []) := by
  exact x_vretA C rfl hW hZ hkl hE dX0_makeRoom_34
set_option maxRecDepth 20000 in
theorem bX0_makeRoom_31 {p : Program} {l : Launch} {e : Env} {s : State} {m : MethodId} {args : Array Value} {below : List Frame} {meth : Method} {c : Code} {X : Ec} {h0 : Hp} {o : Hp} (C : Cx X p s m args meth c RX0 cX0_makeRoom 1 none "makeRoom") {h : Hp} {t0 : Nat} {t1 : Nat} {H : Heap} {locs : List Loc} (k_t0 : hK h t0 = 17) (k_t1 : hK h t1 = 0) (hkl : Kl h0 h) (hW : Wx X h H) (hZ : va_S (aA (eB X)) s.heap H locs) (ls : Array Slot) (hl : lv_has ls 1 []) (hE : sX0_makeRoom_31 h  t0 t1 = some o) : W p l e (rmA 0 0 h0 o) s m args below meth c H locs (hS h - hS h0) (hL h - hL h0) (MQ below (QVA X h0 o) args s (hS o - hS h0) (hL o - hL h0) (aA (eB X))) (F0 m 31 ls [.ref t0, .ref t1]) := by
  obtain ⟨h_1, eh_1, hE⟩ := nm_e2 hE
  refine pf_X0_37 C hW hZ k_t1 k_t0 eh_1 dX0_makeRoom_31 (fun _ _ hW km hZ => ?_)
  replace hkl := hkl.tr km.l
  refine x_wc km ?_
  exact bX0_makeRoom_34 C hkl hW hZ _ (lv_sub hl [] rfl) hE
set_option maxRecDepth 20000 in
theorem bX0_makeRoom_23 {p : Program} {l : Launch} {e : Env} {s : State} {m : MethodId} {args : Array Value} {below : List Frame} {meth : Method} {c : Code} {X : Ec} {h0 : Hp} {o : Hp} (C : Cx X p s m args meth c RX0 cX0_makeRoom 1 none "makeRoom") {h : Hp} {x0 : Nat} {t0 : Nat} {t1 : Nat} {H : Heap} {locs : List Loc} (k_x0 : hK h x0 = 0) (k_t0 : hK h t0 = 17) (k_t1 : hK h t1 = 0) (hkl : Kl h0 h) (hW : Wx X h H) (hZ : va_S (aA (eB X)) s.heap H locs) (ls : Array Slot) (hl : lv_has ls 1 [(0, .ref x0)]) (hE : sX0_makeRoom_23 h x0 t0 t1 = some o) : W p l e (rmA 0 0 h0 o) s m args below meth c H locs (hS h - hS h0) (hL h - hL h0) (MQ below (QVA X h0 o) args s (hS o - hS h0) (hL o - hL h0) (aA (eB X))) (F0 m 23 ls [.ref t0, .ref t1]) := by
  obtain ⟨h_1, eh_1, hE⟩ := nm_e2 hE
  refine pf_X0_34 C hW hZ k_t1 k_t0 eh_1 dX0_makeRoom_23 (fun _ _ hW km hZ => ?_)
  replace hkl := hkl.tr km.l
  refine x_wc km ?_
  replace k_x0 := km.at k_x0 (by decide)
  refine lv_aload_n C.1 C.2.1 dX0_makeRoom_26 rfl (lv_at hl 0 rfl) ?_
  refine lv_ldc (v := (600000 : Int32)) C.1 C.2.1 C.2.2.2.1 (C.2.2.2.2.1 _ m_1643) dX0_makeRoom_27 ?_
  obtain ⟨a_2, ea_2, hE⟩ := nm_e2 hE
  obtain ⟨h_3, eh_3, hE⟩ := nm_e2 hE
  refine y_newa (k := 17) (ty := .int) (t0 := 1) C hW hZ hkl (moX0_makeRoom_31 hE) ⟨rfl, rfl⟩ (by decide) (by decide) rfl rfl (by intro C hC; cases hC) hdef_17 m_54 (by decide) (by decide) eh_3 dX0_makeRoom_29 (fun _ hW km k_a_2 hZ => ?_)
  replace hkl := hkl.tr km
  refine x_nmA ea_2 ?_
  rw [← ea_2] at k_a_2
  replace k_x0 := km.at k_x0 (by decide)
  exact bX0_makeRoom_31 C k_a_2 k_x0 hkl hW hZ _ (lv_sub hl [] rfl) hE
set_option maxRecDepth 20000 in
theorem bX0_makeRoom_15 {p : Program} {l : Launch} {e : Env} {s : State} {m : MethodId} {args : Array Value} {below : List Frame} {meth : Method} {c : Code} {X : Ec} {h0 : Hp} {o : Hp} (C : Cx X p s m args meth c RX0 cX0_makeRoom 1 none "makeRoom") {h : Hp} {x0 : Nat} {t0 : Nat} {t1 : Nat} {H : Heap} {locs : List Loc} (k_x0 : hK h x0 = 0) (k_t0 : hK h t0 = 17) (k_t1 : hK h t1 = 0) (hkl : Kl h0 h) (hW : Wx X h H) (hZ : va_S (aA (eB X)) s.heap H locs) (ls : Array Slot) (hl : lv_has ls 1 [(0, .ref x0)]) (hE : sX0_makeRoom_15 h x0 t0 t1 = some o) : W p l e (rmA 0 0 h0 o) s m args below meth c H locs (hS h - hS h0) (hL h - hL h0) (MQ below (QVA X h0 o) args s (hS o - hS h0) (hL o - hL h0) (aA (eB X))) (F0 m 15 ls [.ref t0, .ref t1]) := by
  obtain ⟨h_1, eh_1, hE⟩ := nm_e2 hE
  refine pf_X0_31 C hW hZ k_t1 k_t0 eh_1 dX0_makeRoom_15 (fun _ _ hW km hZ => ?_)
  replace hkl := hkl.tr km.l
  refine x_wc km ?_
  replace k_x0 := km.at k_x0 (by decide)
  refine lv_aload_n C.1 C.2.1 dX0_makeRoom_18 rfl (lv_at hl 0 rfl) ?_
  refine lv_ldc (v := (600000 : Int32)) C.1 C.2.1 C.2.2.2.1 (C.2.2.2.2.1 _ m_1643) dX0_makeRoom_19 ?_
  obtain ⟨a_2, ea_2, hE⟩ := nm_e2 hE
  obtain ⟨h_3, eh_3, hE⟩ := nm_e2 hE
  refine y_newa (k := 17) (ty := .int) (t0 := 1) C hW hZ hkl (moX0_makeRoom_23 hE) ⟨rfl, rfl⟩ (by decide) (by decide) rfl rfl (by intro C hC; cases hC) hdef_17 m_54 (by decide) (by decide) eh_3 dX0_makeRoom_21 (fun _ hW km k_a_2 hZ => ?_)
  replace hkl := hkl.tr km
  refine x_nmA ea_2 ?_
  rw [← ea_2] at k_a_2
  replace k_x0 := km.at k_x0 (by decide)
  exact bX0_makeRoom_23 C k_x0 k_a_2 k_x0 hkl hW hZ _ (lv_sub hl [0] rfl) hE
set_option maxRecDepth 20000 in
theorem ct_X0_makeRoom (l : Launch) (X : Ec) {h : Hp} {x0 : Nat} {o : Hp} (k_x0 : hK h x0 = 0) (hE : sX0_makeRoom h x0 = some o) : MetVA l yX0_makeRoom cX0_makeRoom 1 none 0 0 X [.ref x0] h o := by
  refine x_metA (oh := o) (by decide) (Nat.le_of_ble_eq_true rfl) ?_
  intro p e s m below meth c ls C hl hW hZ
  have hl : lv_has ls 1 [(0, .ref x0)] := hl
  have hkl : Kl h h := Kl.rf h
  refine lv_aload_n C.1 C.2.1 dX0_makeRoom_0 rfl (lv_at hl 0 rfl) ?_
  obtain ⟨r_1, er_1, hE⟩ := cl_e hE
  refine gf_X0_31 C hW k_x0 er_1 dX0_makeRoom_1 (fun k_r_1 => ?_)
  refine y_alen C hW k_r_1 (by decide) dX0_makeRoom_4 ?_
  refine lv_ldc (v := (600000 : Int32)) C.1 C.2.1 C.2.2.2.1 (C.2.2.2.2.1 _ m_1643) dX0_makeRoom_5 ?_
  refine lv_icmp_ge (tgt := 34) C.1 C.2.1 dX0_makeRoom_7 (by decide) (fun c_2 => ?_) (fun c_2 => ?_)
  · have hE := br_p hE c_2
    exact bX0_makeRoom_34 C hkl hW hZ _ (lv_sub hl [] rfl) hE
  · have hE := br_n hE c_2
    refine lv_aload_n C.1 C.2.1 dX0_makeRoom_10 rfl (lv_at hl 0 rfl) ?_
    refine lv_ldc (v := (600000 : Int32)) C.1 C.2.1 C.2.2.2.1 (C.2.2.2.2.1 _ m_1643) dX0_makeRoom_11 ?_
    obtain ⟨a_3, ea_3, hE⟩ := nm_e2 hE
    obtain ⟨h_4, eh_4, hE⟩ := nm_e2 hE
    refine y_newa (k := 17) (ty := .int) (t0 := 1) C hW hZ hkl (moX0_makeRoom_15 hE) ⟨rfl, rfl⟩ (by decide) (by decide) rfl rfl (by intro C hC; cases hC) hdef_17 m_54 (by decide) (by decide) eh_4 dX0_makeRoom_13 (fun _ hW km k_a_3 hZ => ?_)
    replace hkl := hkl.tr km
    refine x_nmA ea_3 ?_
    rw [← ea_3] at k_a_3
    replace k_x0 := km.at k_x0 (by decide)
    exact bX0_makeRoom_15 C k_x0 k_a_3 k_x0 hkl hW hZ _ (lv_sub hl [0] rfl) hE
set_option maxRecDepth 100000 in
theorem m_282 : Cond.fieldLink RX0 176 (TX3 0).1 (TX3 0).2.1 (TX3 0).2.2.1 ∈ W0 := w0_in (List.mem_append_right _ (List.mem_of_getElem? (i := 282) rfl)) rfl
set_option maxRecDepth 100000 in
theorem m_1652 : Cond.methodLink RX0 157 yX3_occupied ∈ W0 := w0_in (List.mem_append_right _ (List.mem_of_getElem? (i := 1652) rfl)) rfl
set_option maxRecDepth 100000 in
theorem n_1653 : Cond.methodLinkNest RX0 161 yX11_lowest "GameRules" ∈ tables_1 := List.mem_of_getElem? (i := 1653) rfl
set_option maxRecDepth 100000 in
theorem m_1654 : Cond.methodLink RX0 165 yX3_put ∈ W0 := w0_in (List.mem_append_right _ (List.mem_of_getElem? (i := 1654) rfl)) rfl
set_option maxRecDepth 100000 in
theorem m_1655 : Cond.methodLink RX0 169 yX1_becomesOthers ∈ W0 := w0_in (List.mem_append_right _ (List.mem_of_getElem? (i := 1655) rfl)) rfl
set_option maxRecDepth 100000 in
theorem m_1656 : Cond.methodLink RX0 173 yX1_isLast ∈ W0 := w0_in (List.mem_append_right _ (List.mem_of_getElem? (i := 1656) rfl)) rfl
section
variable {p : Program} {l : Launch} {e : Env} {R : Room} {s : State} {m : MethodId} {args : Array Value} {below : List Frame} {meth : Method} {c : Code} {H : Heap} {locs : List Loc} {cells slots : Nat} {Q : State → Prop}
variable {cc : ByteArray} {pc : Nat} {ls : Array Slot} {rest : List Value} {X : Ec} {h h1 : Hp} {nL : Nat} {rt : Option FieldType} {mn : String}
theorem gf_X0_14 {a r : Nat} (C : Cx X p s m args meth c RX0 cc nL rt mn) (hW : Wx X h H) (ha : hK h a = 0) (hr : hR h a 3 = some r) (hdg : decode cc pc = .ok (.getfield 14, 3)) (kk : hK h r = 3 → W p l e R s m args below meth c H locs cells slots Q (F0 m (pc + 3) ls (.ref r :: rest))) : W p l e R s m args below meth c H locs cells slots Q (F0 m pc ls (.ref a :: rest)) :=
  y_getr C hW ha i_X0 (by decide) rfl (by decide) m_460 rfl rfl hr hdg kk
theorem gf_X0_176 {a r : Nat} (C : Cx X p s m args meth c RX0 cc nL rt mn) (hW : Wx X h H) (ha : hK h a = 3) (hr : hR h a 0 = some r) (hdg : decode cc pc = .ok (.getfield 176, 3)) (kk : hK h r = 16 → W p l e R s m args below meth c H locs cells slots Q (F0 m (pc + 3) ls (.ref r :: rest))) : W p l e R s m args below meth c H locs cells slots Q (F0 m pc ls (.ref a :: rest)) :=
  y_getr C hW ha i_X3 (by decide) rfl (by decide) m_282 rfl rfl hr hdg kk
end
theorem cw_X0_165 : cwd RX0 165 yX3_put cX3_put 7 none false 3 := ⟨m_964, m_1654, m_8, ⟨m_962, m_963⟩, by decide, by decide, by decide +kernel⟩
theorem cw_X0_169 : cwd RX0 169 yX1_becomesOthers cX1_becomesOthers 2 (some .boolean) false 1 := ⟨m_742, m_1655, m_4, ⟨m_740, m_741⟩, by decide, by decide, by decide +kernel⟩
theorem cw_X0_173 : cwd RX0 173 yX1_isLast cX1_isLast 3 (some .boolean) false 2 := ⟨m_1039, m_1656, m_4, ⟨m_1037, m_1038⟩, by decide, by decide, by decide +kernel⟩
theorem cn_X0_161 : cwn RX0 161 "GameRules" yX11_lowest cX11_lowest 2 (some .int) true 1 := ⟨m_1022, n_1653, m_1, m_1021, by decide, by decide, by decide +kernel⟩
theorem cw_X0_157 : cwd RX0 157 yX3_occupied cX3_occupied 1 (some .long) false 0 := ⟨m_1061, m_1652, m_8, ⟨m_1059, m_1060⟩, by decide, by decide, by decide +kernel⟩
theorem dX0_layOut_0 : decode cX0_layOut 0 = .ok (.aload_n 0, 1) := by decide +kernel
theorem dX0_layOut_1 : decode cX0_layOut 1 = .ok (.getfield 14, 3) := by decide +kernel
theorem dX0_layOut_4 : decode cX0_layOut 4 = .ok (.invokevirtual 157, 3) := by decide +kernel
theorem dX0_layOut_7 : decode cX0_layOut 7 = .ok (.lstore_n 3, 1) := by decide +kernel
theorem dX0_layOut_8 : decode cX0_layOut 8 = .ok (.iconst 0, 1) := by decide +kernel
theorem dX0_layOut_9 : decode cX0_layOut 9 = .ok (.istore 5, 2) := by decide +kernel
theorem dX0_layOut_11 : decode cX0_layOut 11 = .ok (.iload 5, 2) := by decide +kernel
theorem dX0_layOut_13 : decode cX0_layOut 13 = .ok (.bipush 64, 2) := by decide +kernel
theorem dX0_layOut_15 : decode cX0_layOut 15 = .ok (.if_icmp .ge 40, 3) := by decide +kernel
theorem dX0_layOut_18 : decode cX0_layOut 18 = .ok (.lload_n 3, 1) := by decide +kernel
theorem dX0_layOut_19 : decode cX0_layOut 19 = .ok (.lconst 0, 1) := by decide +kernel
theorem dX0_layOut_20 : decode cX0_layOut 20 = .ok (.lcmp, 1) := by decide +kernel
theorem dX0_layOut_21 : decode cX0_layOut 21 = .ok (.ifCond .eq 34, 3) := by decide +kernel
theorem dX0_layOut_24 : decode cX0_layOut 24 = .ok (.aload_n 0, 1) := by decide +kernel
theorem dX0_layOut_25 : decode cX0_layOut 25 = .ok (.getfield 14, 3) := by decide +kernel
theorem dX0_layOut_28 : decode cX0_layOut 28 = .ok (.lload_n 3, 1) := by decide +kernel
theorem dX0_layOut_29 : decode cX0_layOut 29 = .ok (.invokestatic 161, 3) := by decide +kernel
theorem dX0_layOut_32 : decode cX0_layOut 32 = .ok (.iconst (-1), 1) := by decide +kernel
theorem dX0_layOut_33 : decode cX0_layOut 33 = .ok (.aload_n 0, 1) := by decide +kernel
theorem dX0_layOut_34 : decode cX0_layOut 34 = .ok (.getfield 40, 3) := by decide +kernel
theorem dX0_layOut_37 : decode cX0_layOut 37 = .ok (.getfield 67, 3) := by decide +kernel
theorem dX0_layOut_40 : decode cX0_layOut 40 = .ok (.invokevirtual 165, 3) := by decide +kernel
theorem dX0_layOut_43 : decode cX0_layOut 43 = .ok (.lload_n 3, 1) := by decide +kernel
theorem dX0_layOut_44 : decode cX0_layOut 44 = .ok (.lload_n 3, 1) := by decide +kernel
theorem dX0_layOut_45 : decode cX0_layOut 45 = .ok (.lconst 1, 1) := by decide +kernel
theorem dX0_layOut_46 : decode cX0_layOut 46 = .ok (.lsub, 1) := by decide +kernel
theorem dX0_layOut_47 : decode cX0_layOut 47 = .ok (.land, 1) := by decide +kernel
theorem dX0_layOut_48 : decode cX0_layOut 48 = .ok (.lstore_n 3, 1) := by decide +kernel
theorem dX0_layOut_49 : decode cX0_layOut 49 = .ok (.iinc 5 1, 3) := by decide +kernel
theorem dX0_layOut_52 : decode cX0_layOut 52 = .ok (.goto (-41), 3) := by decide +kernel
theorem dX0_layOut_55 : decode cX0_layOut 55 = .ok (.iload_n 1, 1) := by decide +kernel
theorem dX0_layOut_56 : decode cX0_layOut 56 = .ok (.invokestatic 143, 3) := by decide +kernel
theorem dX0_layOut_59 : decode cX0_layOut 59 = .ok (.istore 5, 2) := by decide +kernel
theorem dX0_layOut_61 : decode cX0_layOut 61 = .ok (.aload_n 0, 1) := by decide +kernel
theorem dX0_layOut_62 : decode cX0_layOut 62 = .ok (.getfield 40, 3) := by decide +kernel
theorem dX0_layOut_65 : decode cX0_layOut 65 = .ok (.getfield 126, 3) := by decide +kernel
theorem dX0_layOut_68 : decode cX0_layOut 68 = .ok (.istore 6, 2) := by decide +kernel
theorem dX0_layOut_70 : decode cX0_layOut 70 = .ok (.iload_n 2, 1) := by decide +kernel
theorem dX0_layOut_71 : decode cX0_layOut 71 = .ok (.istore 7, 2) := by decide +kernel
theorem dX0_layOut_73 : decode cX0_layOut 73 = .ok (.iconst (-1), 1) := by decide +kernel
theorem dX0_layOut_74 : decode cX0_layOut 74 = .ok (.istore 8, 2) := by decide +kernel
theorem dX0_layOut_76 : decode cX0_layOut 76 = .ok (.iconst 0, 1) := by decide +kernel
theorem dX0_layOut_77 : decode cX0_layOut 77 = .ok (.istore 9, 2) := by decide +kernel
theorem dX0_layOut_79 : decode cX0_layOut 79 = .ok (.iload 9, 2) := by decide +kernel
theorem dX0_layOut_81 : decode cX0_layOut 81 = .ok (.iload 5, 2) := by decide +kernel
theorem dX0_layOut_83 : decode cX0_layOut 83 = .ok (.if_icmp .ge 157, 3) := by decide +kernel
theorem dX0_layOut_86 : decode cX0_layOut 86 = .ok (.iload 6, 2) := by decide +kernel
theorem dX0_layOut_88 : decode cX0_layOut 88 = .ok (.ifCond .le 152, 3) := by decide +kernel
theorem dX0_layOut_91 : decode cX0_layOut 91 = .ok (.iload 7, 2) := by decide +kernel
theorem dX0_layOut_93 : decode cX0_layOut 93 = .ok (.iload 6, 2) := by decide +kernel
theorem dX0_layOut_95 : decode cX0_layOut 95 = .ok (.irem, 1) := by decide +kernel
theorem dX0_layOut_96 : decode cX0_layOut 96 = .ok (.istore 10, 2) := by decide +kernel
theorem dX0_layOut_98 : decode cX0_layOut 98 = .ok (.iload 7, 2) := by decide +kernel
theorem dX0_layOut_100 : decode cX0_layOut 100 = .ok (.iload 6, 2) := by decide +kernel
theorem dX0_layOut_102 : decode cX0_layOut 102 = .ok (.idiv, 1) := by decide +kernel
theorem dX0_layOut_103 : decode cX0_layOut 103 = .ok (.istore 7, 2) := by decide +kernel
theorem dX0_layOut_105 : decode cX0_layOut 105 = .ok (.iload_n 1, 1) := by decide +kernel
theorem dX0_layOut_106 : decode cX0_layOut 106 = .ok (.iload 9, 2) := by decide +kernel
theorem dX0_layOut_108 : decode cX0_layOut 108 = .ok (.invokestatic 123, 3) := by decide +kernel
theorem dX0_layOut_111 : decode cX0_layOut 111 = .ok (.istore 11, 2) := by decide +kernel
theorem dX0_layOut_113 : decode cX0_layOut 113 = .ok (.iload 8, 2) := by decide +kernel
theorem dX0_layOut_115 : decode cX0_layOut 115 = .ok (.bipush 6, 2) := by decide +kernel
theorem dX0_layOut_117 : decode cX0_layOut 117 = .ok (.ishr, 1) := by decide +kernel
theorem dX0_layOut_118 : decode cX0_layOut 118 = .ok (.iload 11, 2) := by decide +kernel
theorem dX0_layOut_120 : decode cX0_layOut 120 = .ok (.if_icmp .ne 20, 3) := by decide +kernel
theorem dX0_layOut_123 : decode cX0_layOut 123 = .ok (.iload 8, 2) := by decide +kernel
theorem dX0_layOut_125 : decode cX0_layOut 125 = .ok (.iload 11, 2) := by decide +kernel
theorem dX0_layOut_127 : decode cX0_layOut 127 = .ok (.bipush 6, 2) := by decide +kernel
theorem dX0_layOut_129 : decode cX0_layOut 129 = .ok (.ishl, 1) := by decide +kernel
theorem dX0_layOut_130 : decode cX0_layOut 130 = .ok (.iload 10, 2) := by decide +kernel
theorem dX0_layOut_132 : decode cX0_layOut 132 = .ok (.ior, 1) := by decide +kernel
theorem dX0_layOut_133 : decode cX0_layOut 133 = .ok (.if_icmp .le 7, 3) := by decide +kernel
theorem dX0_layOut_136 : decode cX0_layOut 136 = .ok (.iconst 1, 1) := by decide +kernel
theorem dX0_layOut_137 : decode cX0_layOut 137 = .ok (.goto 4, 3) := by decide +kernel
theorem dX0_layOut_140 : decode cX0_layOut 140 = .ok (.iconst 0, 1) := by decide +kernel
theorem dX0_layOut_141 : decode cX0_layOut 141 = .ok (.istore 12, 2) := by decide +kernel
theorem dX0_layOut_143 : decode cX0_layOut 143 = .ok (.aload_n 0, 1) := by decide +kernel
theorem dX0_layOut_144 : decode cX0_layOut 144 = .ok (.getfield 40, 3) := by decide +kernel
theorem dX0_layOut_147 : decode cX0_layOut 147 = .ok (.iload 11, 2) := by decide +kernel
theorem dX0_layOut_149 : decode cX0_layOut 149 = .ok (.iconst 1, 1) := by decide +kernel
theorem dX0_layOut_150 : decode cX0_layOut 150 = .ok (.ishr, 1) := by decide +kernel
theorem dX0_layOut_151 : decode cX0_layOut 151 = .ok (.invokevirtual 169, 3) := by decide +kernel
theorem dX0_layOut_154 : decode cX0_layOut 154 = .ok (.ifCond .eq 23, 3) := by decide +kernel
theorem dX0_layOut_157 : decode cX0_layOut 157 = .ok (.aload_n 0, 1) := by decide +kernel
theorem dX0_layOut_158 : decode cX0_layOut 158 = .ok (.getfield 40, 3) := by decide +kernel
theorem dX0_layOut_161 : decode cX0_layOut 161 = .ok (.iload 10, 2) := by decide +kernel
theorem dX0_layOut_163 : decode cX0_layOut 163 = .ok (.iload 11, 2) := by decide +kernel
theorem dX0_layOut_165 : decode cX0_layOut 165 = .ok (.iconst 1, 1) := by decide +kernel
theorem dX0_layOut_166 : decode cX0_layOut 166 = .ok (.iand, 1) := by decide +kernel
theorem dX0_layOut_167 : decode cX0_layOut 167 = .ok (.invokevirtual 173, 3) := by decide +kernel
theorem dX0_layOut_170 : decode cX0_layOut 170 = .ok (.ifCond .eq 7, 3) := by decide +kernel
theorem dX0_layOut_173 : decode cX0_layOut 173 = .ok (.iconst 1, 1) := by decide +kernel
theorem dX0_layOut_174 : decode cX0_layOut 174 = .ok (.goto 4, 3) := by decide +kernel
theorem dX0_layOut_177 : decode cX0_layOut 177 = .ok (.iconst 0, 1) := by decide +kernel
theorem dX0_layOut_178 : decode cX0_layOut 178 = .ok (.istore 13, 2) := by decide +kernel
theorem dX0_layOut_180 : decode cX0_layOut 180 = .ok (.iload 12, 2) := by decide +kernel
theorem dX0_layOut_182 : decode cX0_layOut 182 = .ok (.ifCond .ne 22, 3) := by decide +kernel
theorem dX0_layOut_185 : decode cX0_layOut 185 = .ok (.iload 13, 2) := by decide +kernel
theorem dX0_layOut_187 : decode cX0_layOut 187 = .ok (.ifCond .ne 17, 3) := by decide +kernel
theorem dX0_layOut_190 : decode cX0_layOut 190 = .ok (.aload_n 0, 1) := by decide +kernel
theorem dX0_layOut_191 : decode cX0_layOut 191 = .ok (.getfield 14, 3) := by decide +kernel
theorem dX0_layOut_194 : decode cX0_layOut 194 = .ok (.getfield 176, 3) := by decide +kernel
theorem dX0_layOut_197 : decode cX0_layOut 197 = .ok (.iload 10, 2) := by decide +kernel
theorem dX0_layOut_199 : decode cX0_layOut 199 = .ok (.baload, 1) := by decide +kernel
theorem dX0_layOut_200 : decode cX0_layOut 200 = .ok (.iconst (-1), 1) := by decide +kernel
theorem dX0_layOut_201 : decode cX0_layOut 201 = .ok (.if_icmp .eq 5, 3) := by decide +kernel
theorem dX0_layOut_204 : decode cX0_layOut 204 = .ok (.iconst 0, 1) := by decide +kernel
theorem dX0_layOut_205 : decode cX0_layOut 205 = .ok (.ireturn, 1) := by decide +kernel
theorem dX0_layOut_206 : decode cX0_layOut 206 = .ok (.iload 11, 2) := by decide +kernel
theorem dX0_layOut_208 : decode cX0_layOut 208 = .ok (.bipush 6, 2) := by decide +kernel
theorem dX0_layOut_210 : decode cX0_layOut 210 = .ok (.ishl, 1) := by decide +kernel
theorem dX0_layOut_211 : decode cX0_layOut 211 = .ok (.iload 10, 2) := by decide +kernel
theorem dX0_layOut_213 : decode cX0_layOut 213 = .ok (.ior, 1) := by decide +kernel
theorem dX0_layOut_214 : decode cX0_layOut 214 = .ok (.istore 8, 2) := by decide +kernel
theorem dX0_layOut_216 : decode cX0_layOut 216 = .ok (.aload_n 0, 1) := by decide +kernel
theorem dX0_layOut_217 : decode cX0_layOut 217 = .ok (.getfield 14, 3) := by decide +kernel
theorem dX0_layOut_220 : decode cX0_layOut 220 = .ok (.iload 10, 2) := by decide +kernel
theorem dX0_layOut_222 : decode cX0_layOut 222 = .ok (.iload 11, 2) := by decide +kernel
theorem dX0_layOut_224 : decode cX0_layOut 224 = .ok (.aload_n 0, 1) := by decide +kernel
theorem dX0_layOut_225 : decode cX0_layOut 225 = .ok (.getfield 40, 3) := by decide +kernel
theorem dX0_layOut_228 : decode cX0_layOut 228 = .ok (.getfield 67, 3) := by decide +kernel
theorem dX0_layOut_231 : decode cX0_layOut 231 = .ok (.invokevirtual 165, 3) := by decide +kernel
theorem dX0_layOut_234 : decode cX0_layOut 234 = .ok (.iinc 9 1, 3) := by decide +kernel
theorem dX0_layOut_237 : decode cX0_layOut 237 = .ok (.goto (-158), 3) := by decide +kernel
theorem dX0_layOut_240 : decode cX0_layOut 240 = .ok (.iconst 1, 1) := by decide +kernel
theorem dX0_layOut_241 : decode cX0_layOut 241 = .ok (.ireturn, 1) := by decide +kernel
set_option maxRecDepth 20000 in
theorem moX0_layOut_240 {o : Int32 × Hp} {F : Nat} {h : Hp} (hE : sX0_layOut_240 F h  = some o) : Le h o.2 := by
  exact le_some2 hE
set_option maxRecDepth 20000 in
theorem moX0_layOut_204 {o : Int32 × Hp} {F : Nat} {h : Hp} (hE : sX0_layOut_204 F h  = some o) : Le h o.2 := by
  exact le_some2 hE
set_option maxRecDepth 20000 in
theorem moX0_layOut_178 {o : Int32 × Hp} {k_79 : Hp → Nat → Int32 → Int32 → Int32 → Int32 → Int32 → Int32 → Option (Int32 × Hp)} {F : Nat} (mk_79 : ∀ (h : Hp) (x0 : Nat) (x1 : Int32) (x5 : Int32) (x6 : Int32) (x7 : Int32) (x8 : Int32) (x9 : Int32), k_79 h x0 x1 x5 x6 x7 x8 x9 = some o → Le h o.2) {h : Hp} {x0 : Nat} {x1 : Int32} {x5 : Int32} {x6 : Int32} {x7 : Int32} {x9 : Int32} {x10 : Int32} {x11 : Int32} {x12 : Int32} {t0 : Int32} (hE : sX0_layOut_178 F k_79 h x0 x1 x5 x6 x7 x9 x10 x11 x12 t0 = some o) : Le h o.2 := by
  rcases br_e hE with ⟨_, hE⟩ | ⟨_, hE⟩
  · rcases br_e hE with ⟨_, hE⟩ | ⟨_, hE⟩
    · obtain ⟨r_3, er_3, hE⟩ := cl_e hE
      obtain ⟨r_4, er_4, hE⟩ := cl_e hE
      obtain ⟨g_5, hE⟩ := gd_e hE
      rcases br_e hE with ⟨_, hE⟩ | ⟨_, hE⟩
      · obtain ⟨v_7, ev_7, hE⟩ := nm_e2 hE
        obtain ⟨r_8, er_8, hE⟩ := cl_e hE
        obtain ⟨r_9, er_9, hE⟩ := cl_e hE
        obtain ⟨o_10, eo_10, hE⟩ := cl_e hE
        refine (moX3_put eo_10).tr ?_
        obtain ⟨v_11, ev_11, hE⟩ := nm_e2 hE
        exact mk_79 _ _ _ _ _ _ _ _ hE
      · exact moX0_layOut_204 hE
    · exact moX0_layOut_204 hE
  · exact moX0_layOut_204 hE
set_option maxRecDepth 20000 in
theorem moX0_layOut_177 {o : Int32 × Hp} {k_79 : Hp → Nat → Int32 → Int32 → Int32 → Int32 → Int32 → Int32 → Option (Int32 × Hp)} {F : Nat} (mk_79 : ∀ (h : Hp) (x0 : Nat) (x1 : Int32) (x5 : Int32) (x6 : Int32) (x7 : Int32) (x8 : Int32) (x9 : Int32), k_79 h x0 x1 x5 x6 x7 x8 x9 = some o → Le h o.2) {h : Hp} {x0 : Nat} {x1 : Int32} {x5 : Int32} {x6 : Int32} {x7 : Int32} {x9 : Int32} {x10 : Int32} {x11 : Int32} {x12 : Int32} (hE : sX0_layOut_177 F k_79 h x0 x1 x5 x6 x7 x9 x10 x11 x12 = some o) : Le h o.2 := by
  exact moX0_layOut_178 mk_79 hE
set_option maxRecDepth 20000 in
theorem moX0_layOut_141 {o : Int32 × Hp} {k_79 : Hp → Nat → Int32 → Int32 → Int32 → Int32 → Int32 → Int32 → Option (Int32 × Hp)} {F : Nat} (mk_79 : ∀ (h : Hp) (x0 : Nat) (x1 : Int32) (x5 : Int32) (x6 : Int32) (x7 : Int32) (x8 : Int32) (x9 : Int32), k_79 h x0 x1 x5 x6 x7 x8 x9 = some o → Le h o.2) {h : Hp} {x0 : Nat} {x1 : Int32} {x5 : Int32} {x6 : Int32} {x7 : Int32} {x9 : Int32} {x10 : Int32} {x11 : Int32} {t0 : Int32} (hE : sX0_layOut_141 F k_79 h x0 x1 x5 x6 x7 x9 x10 x11 t0 = some o) : Le h o.2 := by
  obtain ⟨r_1, er_1, hE⟩ := cl_e hE
  obtain ⟨o_2, eo_2, hE⟩ := cl_e hE
  refine (moX1_becomesOthers eo_2).tr ?_
  rcases br_e hE with ⟨_, hE⟩ | ⟨_, hE⟩
  · exact moX0_layOut_177 mk_79 hE
  · obtain ⟨r_4, er_4, hE⟩ := cl_e hE
    obtain ⟨o_5, eo_5, hE⟩ := cl_e hE
    refine (moX1_isLast eo_5).tr ?_
    rcases br_e hE with ⟨_, hE⟩ | ⟨_, hE⟩
    · exact moX0_layOut_177 mk_79 hE
    · exact moX0_layOut_178 mk_79 hE
set_option maxRecDepth 20000 in
theorem moX0_layOut_140 {o : Int32 × Hp} {k_79 : Hp → Nat → Int32 → Int32 → Int32 → Int32 → Int32 → Int32 → Option (Int32 × Hp)} {F : Nat} (mk_79 : ∀ (h : Hp) (x0 : Nat) (x1 : Int32) (x5 : Int32) (x6 : Int32) (x7 : Int32) (x8 : Int32) (x9 : Int32), k_79 h x0 x1 x5 x6 x7 x8 x9 = some o → Le h o.2) {h : Hp} {x0 : Nat} {x1 : Int32} {x5 : Int32} {x6 : Int32} {x7 : Int32} {x9 : Int32} {x10 : Int32} {x11 : Int32} (hE : sX0_layOut_140 F k_79 h x0 x1 x5 x6 x7 x9 x10 x11 = some o) : Le h o.2 := by
  exact moX0_layOut_141 mk_79 hE
set_option maxRecDepth 20000 in
theorem moX0_layOut_79 {o : Int32 × Hp} {F : Nat} : ∀ (f : Nat) {h : Hp} {x0 : Nat} {x1 : Int32} {x5 : Int32} {x6 : Int32} {x7 : Int32} {x8 : Int32} {x9 : Int32}, sX0_layOut_79 F f h x0 x1 x5 x6 x7 x8 x9 = some o → Le h o.2 := by
  intro f
  induction f with
  | zero =>
    intro h x0 x1 x5 x6 x7 x8 x9 hE
    rw [sX0_layOut_79] at hE
    cases hE
  | succ f ih =>
    intro h x0 x1 x5 x6 x7 x8 x9 hE
    rw [sX0_layOut_79] at hE
    have mk_79 : ∀ (h : Hp) (x0 : Nat) (x1 : Int32) (x5 : Int32) (x6 : Int32) (x7 : Int32) (x8 : Int32) (x9 : Int32), sX0_layOut_79 F f h x0 x1 x5 x6 x7 x8 x9 = some o → Le h o.2 := fun h x0 x1 x5 x6 x7 x8 x9 hE => ih hE
    rcases br_e hE with ⟨_, hE⟩ | ⟨_, hE⟩
    · exact moX0_layOut_240 hE
    · rcases br_e hE with ⟨_, hE⟩ | ⟨_, hE⟩
      · exact moX0_layOut_240 hE
      · obtain ⟨g_3, hE⟩ := gd_e hE
        obtain ⟨v_4, ev_4, hE⟩ := nm_e2 hE
        obtain ⟨g_5, hE⟩ := gd_e hE
        obtain ⟨v_6, ev_6, hE⟩ := nm_e2 hE
        obtain ⟨o_7, eo_7, hE⟩ := cl_e hE
        refine (moX0_codeIn eo_7).tr ?_
        rcases br_e hE with ⟨_, hE⟩ | ⟨_, hE⟩
        · rcases br_e hE with ⟨_, hE⟩ | ⟨_, hE⟩
          · exact moX0_layOut_140 mk_79 hE
          · exact moX0_layOut_141 mk_79 hE
        · exact moX0_layOut_140 mk_79 hE
set_option maxRecDepth 20000 in
theorem moX0_layOut_55 {o : Int32 × Hp} {F : Nat} {h : Hp} {x0 : Nat} {x1 : Int32} {x2 : Int32} (hE : sX0_layOut_55 F h x0 x1 x2 = some o) : Le h o.2 := by
  obtain ⟨o_1, eo_1, hE⟩ := cl_e hE
  refine (moX0_sizeOf eo_1).tr ?_
  obtain ⟨r_2, er_2, hE⟩ := cl_e hE
  obtain ⟨v_3, ev_3, hE⟩ := nm_e2 hE
  exact moX0_layOut_79 _ hE
set_option maxRecDepth 20000 in
theorem moX0_layOut_11 {o : Int32 × Hp} {F : Nat} : ∀ (f : Nat) {h : Hp} {x0 : Nat} {x1 : Int32} {x2 : Int32} {x3 : Int64} {x5 : Int32}, sX0_layOut_11 F f h x0 x1 x2 x3 x5 = some o → Le h o.2 := by
  intro f
  induction f with
  | zero =>
    intro h x0 x1 x2 x3 x5 hE
    rw [sX0_layOut_11] at hE
    cases hE
  | succ f ih =>
    intro h x0 x1 x2 x3 x5 hE
    rw [sX0_layOut_11] at hE
    have mk_11 : ∀ (h : Hp) (x0 : Nat) (x1 : Int32) (x2 : Int32) (x3 : Int64) (x5 : Int32), sX0_layOut_11 F f h x0 x1 x2 x3 x5 = some o → Le h o.2 := fun h x0 x1 x2 x3 x5 hE => ih hE
    rcases br_e hE with ⟨_, hE⟩ | ⟨_, hE⟩
    · exact moX0_layOut_55 hE
    · rcases br_e hE with ⟨_, hE⟩ | ⟨_, hE⟩
      · exact moX0_layOut_55 hE
      · obtain ⟨r_3, er_3, hE⟩ := cl_e hE
        obtain ⟨o_4, eo_4, hE⟩ := cl_e hE
        refine (moX11_lowest eo_4).tr ?_
        obtain ⟨r_5, er_5, hE⟩ := cl_e hE
        obtain ⟨o_6, eo_6, hE⟩ := cl_e hE
        refine (moX3_put eo_6).tr ?_
        obtain ⟨v_7, ev_7, hE⟩ := nm_e2 hE
        obtain ⟨v_8, ev_8, hE⟩ := nm_e2 hE
        exact mk_11 _ _ _ _ _ _ hE
set_option maxRecDepth 20000 in
theorem moX0_layOut {o : Int32 × Hp} {F : Nat} {h : Hp} {x0 : Nat} {x1 : Int32} {x2 : Int32} (hE : sX0_layOut F h x0 x1 x2 = some o) : Le h o.2 := by
  obtain ⟨r_1, er_1, hE⟩ := cl_e hE
  obtain ⟨o_2, eo_2, hE⟩ := cl_e hE
  refine (moX3_occupied eo_2).tr ?_
  exact moX0_layOut_11 _ hE
set_option maxRecDepth 20000 in
theorem bX0_layOut_240 {p : Program} {l : Launch} {e : Env} {s : State} {m : MethodId} {args : Array Value} {below : List Frame} {meth : Method} {c : Code} {X : Ec} {h0 : Hp} {o : Int32 × Hp} {F : Nat} (C : Cx X p s m args meth c RX0 cX0_layOut 14 (some .boolean) "layOut") {h : Hp} {H : Heap} {locs : List Loc} (hkm : Km h0 h) (hW : Wx X h H) (hZ : va_S (aA (eB X)) s.heap H locs) (ls : Array Slot) (hl : lv_has ls 14 []) (hE : sX0_layOut_240 F h  = some o) : W p l e (rm 2 42) s m args below meth c H locs 0 0 (MQ below (QI X h0 o.1 o.2) args s 0 0 (aA (eB X))) (F0 m 240 ls []) := by
  refine lv_iconst (v := (1 : Int32)) C.1 C.2.1 dX0_layOut_240 (by decide) ?_
  exact x_iret C rfl (by decide) hW hZ hkm hE dX0_layOut_241
set_option maxRecDepth 20000 in
theorem bX0_layOut_204 {p : Program} {l : Launch} {e : Env} {s : State} {m : MethodId} {args : Array Value} {below : List Frame} {meth : Method} {c : Code} {X : Ec} {h0 : Hp} {o : Int32 × Hp} {F : Nat} (C : Cx X p s m args meth c RX0 cX0_layOut 14 (some .boolean) "layOut") {h : Hp} {H : Heap} {locs : List Loc} (hkm : Km h0 h) (hW : Wx X h H) (hZ : va_S (aA (eB X)) s.heap H locs) (ls : Array Slot) (hl : lv_has ls 14 []) (hE : sX0_layOut_204 F h  = some o) : W p l e (rm 2 42) s m args below meth c H locs 0 0 (MQ below (QI X h0 o.1 o.2) args s 0 0 (aA (eB X))) (F0 m 204 ls []) := by
  refine lv_iconst (v := (0 : Int32)) C.1 C.2.1 dX0_layOut_204 (by decide) ?_
  exact x_iret C rfl (by decide) hW hZ hkm hE dX0_layOut_205
set_option maxRecDepth 20000 in
theorem bX0_layOut_178 {p : Program} {l : Launch} {e : Env} {s : State} {m : MethodId} {args : Array Value} {below : List Frame} {meth : Method} {c : Code} {X : Ec} {h0 : Hp} {o : Int32 × Hp} {k_79 : Hp → Nat → Int32 → Int32 → Int32 → Int32 → Int32 → Int32 → Option (Int32 × Hp)} {F : Nat} (C : Cx X p s m args meth c RX0 cX0_layOut 14 (some .boolean) "layOut") (hk_79 : ∀ (h : Hp) (x0 : Nat) (x1 : Int32) (x5 : Int32) (x6 : Int32) (x7 : Int32) (x8 : Int32) (x9 : Int32) (H : Heap) (locs : List Loc), hK h x0 = 0 → Km h0 h → Wx X h H → va_S (aA (eB X)) s.heap H locs → ∀ (ls : Array Slot), lv_has ls 14 [(0, .ref x0), (1, .int x1), (5, .int x5), (6, .int x6), (7, .int x7), (8, .int x8), (9, .int x9)] → k_79 h x0 x1 x5 x6 x7 x8 x9 = some o → W p l e (rm 2 42) s m args below meth c H locs 0 0 (MQ below (QI X h0 o.1 o.2) args s 0 0 (aA (eB X))) (F0 m 79 ls [])) {h : Hp} {x0 : Nat} {x1 : Int32} {x5 : Int32} {x6 : Int32} {x7 : Int32} {x9 : Int32} {x10 : Int32} {x11 : Int32} {x12 : Int32} {t0 : Int32} {H : Heap} {locs : List Loc} (k_x0 : hK h x0 = 0) (hkm : Km h0 h) (hW : Wx X h H) (hZ : va_S (aA (eB X)) s.heap H locs) (ls : Array Slot) (hl : lv_has ls 14 [(0, .ref x0), (1, .int x1), (5, .int x5), (6, .int x6), (7, .int x7), (9, .int x9), (10, .int x10), (11, .int x11), (12, .int x12)]) (hE : sX0_layOut_178 F k_79 h x0 x1 x5 x6 x7 x9 x10 x11 x12 t0 = some o) : W p l e (rm 2 42) s m args below meth c H locs 0 0 (MQ below (QI X h0 o.1 o.2) args s 0 0 (aA (eB X))) (F0 m 178 ls [.int t0]) := by
  refine lv_istore (lv' := [(13, .int t0), (0, .ref x0), (1, .int x1), (5, .int x5), (6, .int x6), (7, .int x7), (9, .int x9), (10, .int x10), (11, .int x11), (12, .int x12)]) C.1 C.2.1 dX0_layOut_178 hl (by decide) rfl (fun ls hl => ?_)
  refine lv_iload C.1 C.2.1 dX0_layOut_180 (lv_at hl 9 rfl) ?_
  refine lv_if_ne (tgt := 204) C.1 C.2.1 dX0_layOut_182 (by decide) (fun c_1 => ?_) (fun c_1 => ?_)
  · have hE := br_n hE c_1
    exact bX0_layOut_204 C hkm hW hZ _ (lv_sub hl [] rfl) hE
  · have hE := br_p hE c_1
    refine lv_iload C.1 C.2.1 dX0_layOut_185 (lv_at hl 0 rfl) ?_
    refine lv_if_ne (tgt := 204) C.1 C.2.1 dX0_layOut_187 (by decide) (fun c_2 => ?_) (fun c_2 => ?_)
    · have hE := br_n hE c_2
      exact bX0_layOut_204 C hkm hW hZ _ (lv_sub hl [] rfl) hE
    · have hE := br_p hE c_2
      refine lv_aload_n C.1 C.2.1 dX0_layOut_190 rfl (lv_at hl 1 rfl) ?_
      obtain ⟨r_3, er_3, hE⟩ := cl_e hE
      refine gf_X0_14 C hW k_x0 er_3 dX0_layOut_191 (fun k_r_3 => ?_)
      obtain ⟨r_4, er_4, hE⟩ := cl_e hE
      refine gf_X0_176 C hW k_r_3 er_4 dX0_layOut_194 (fun k_r_4 => ?_)
      refine lv_iload C.1 C.2.1 dX0_layOut_197 (lv_at hl 7 rfl) ?_
      obtain ⟨g_5, hE⟩ := gd_e hE
      refine y_bald C hW k_r_4 g_5 dX0_layOut_199 ?_
      refine lv_iconst (v := (-1 : Int32)) C.1 C.2.1 dX0_layOut_200 (by decide) ?_
      refine lv_icmp_eq (tgt := 206) C.1 C.2.1 dX0_layOut_201 (by decide) (fun c_6 => ?_) (fun c_6 => ?_)
      · have hE := br_p hE c_6
        refine lv_iload C.1 C.2.1 dX0_layOut_206 (lv_at hl 8 rfl) ?_
        refine lv_bipush (v := (6 : Int32)) C.1 C.2.1 dX0_layOut_208 (by decide) ?_
        refine lv_ishl C.1 C.2.1 dX0_layOut_210 ?_
        refine lv_iload C.1 C.2.1 dX0_layOut_211 (lv_at hl 7 rfl) ?_
        refine lv_ior C.1 C.2.1 dX0_layOut_213 ?_
        obtain ⟨v_7, ev_7, hE⟩ := nm_e2 hE
        refine x_nmI ev_7 ?_
        refine lv_istore (lv' := [(8, .int v_7), (13, .int t0), (0, .ref x0), (1, .int x1), (5, .int x5), (6, .int x6), (7, .int x7), (9, .int x9), (10, .int x10), (11, .int x11), (12, .int x12)]) C.1 C.2.1 dX0_layOut_214 hl (by decide) rfl (fun ls hl => ?_)
        refine lv_aload_n C.1 C.2.1 dX0_layOut_216 rfl (lv_at hl 2 rfl) ?_
        obtain ⟨r_8, er_8, hE⟩ := cl_e hE
        refine gf_X0_14 C hW k_x0 er_8 dX0_layOut_217 (fun k_r_8 => ?_)
        refine lv_iload C.1 C.2.1 dX0_layOut_220 (lv_at hl 8 rfl) ?_
        refine lv_iload C.1 C.2.1 dX0_layOut_222 (lv_at hl 9 rfl) ?_
        refine lv_aload_n C.1 C.2.1 dX0_layOut_224 rfl (lv_at hl 2 rfl) ?_
        obtain ⟨r_9, er_9, hE⟩ := cl_e hE
        refine gf_X0_40 C hW k_x0 er_9 dX0_layOut_225 (fun k_r_9 => ?_)
        refine gf_X0_67 C hW k_r_9 dX0_layOut_228 ?_
        obtain ⟨o_10, eo_10, hE⟩ := cl_e hE
        refine x_kV (o := o_10) (z_runV (As := [.int x10, .int x11, .int (hI h r_9 4)]) (rest := []) C (ct_X3_put l X k_r_8 eo_10) cw_X0_165 hW hZ k_r_8 (by decide) rfl rfl rfl hl.1 (Nat.le_of_ble_eq_true rfl) rfl dX0_layOut_231 ⟨Nat.le_of_ble_eq_true rfl, Nat.le_of_ble_eq_true rfl⟩ ⟨Nat.le_refl _, Nat.le_refl _⟩) hZ (fun _ _ hW km hZ => ?_)
        replace hkm := hkm.tr km
        replace k_x0 := km.at k_x0 (by decide)
        obtain ⟨v_11, ev_11, hE⟩ := nm_e2 hE
        refine lv_iinc (v := v_11) (lv' := [(9, .int v_11), (8, .int v_7), (13, .int t0), (0, .ref x0), (1, .int x1), (5, .int x5), (6, .int x6), (7, .int x7), (10, .int x10), (11, .int x11), (12, .int x12)]) C.1 C.2.1 dX0_layOut_234 hl (k := 7) rfl (by rw [ev_11]; rfl) (by decide) rfl (fun ls hl => ?_)
        refine lv_goto (tgt := 79) C.1 C.2.1 dX0_layOut_237 (by decide) ?_
        exact hk_79 _ _ _ _ _ _ _ _ _ _ k_x0 hkm hW hZ _ (lv_sub hl [3, 4, 5, 6, 7, 1, 0] rfl) hE
      · have hE := br_n hE c_6
        exact bX0_layOut_204 C hkm hW hZ _ (lv_sub hl [] rfl) hE
set_option maxRecDepth 20000 in
theorem bX0_layOut_177 {p : Program} {l : Launch} {e : Env} {s : State} {m : MethodId} {args : Array Value} {below : List Frame} {meth : Method} {c : Code} {X : Ec} {h0 : Hp} {o : Int32 × Hp} {k_79 : Hp → Nat → Int32 → Int32 → Int32 → Int32 → Int32 → Int32 → Option (Int32 × Hp)} {F : Nat} (C : Cx X p s m args meth c RX0 cX0_layOut 14 (some .boolean) "layOut") (hk_79 : ∀ (h : Hp) (x0 : Nat) (x1 : Int32) (x5 : Int32) (x6 : Int32) (x7 : Int32) (x8 : Int32) (x9 : Int32) (H : Heap) (locs : List Loc), hK h x0 = 0 → Km h0 h → Wx X h H → va_S (aA (eB X)) s.heap H locs → ∀ (ls : Array Slot), lv_has ls 14 [(0, .ref x0), (1, .int x1), (5, .int x5), (6, .int x6), (7, .int x7), (8, .int x8), (9, .int x9)] → k_79 h x0 x1 x5 x6 x7 x8 x9 = some o → W p l e (rm 2 42) s m args below meth c H locs 0 0 (MQ below (QI X h0 o.1 o.2) args s 0 0 (aA (eB X))) (F0 m 79 ls [])) {h : Hp} {x0 : Nat} {x1 : Int32} {x5 : Int32} {x6 : Int32} {x7 : Int32} {x9 : Int32} {x10 : Int32} {x11 : Int32} {x12 : Int32} {H : Heap} {locs : List Loc} (k_x0 : hK h x0 = 0) (hkm : Km h0 h) (hW : Wx X h H) (hZ : va_S (aA (eB X)) s.heap H locs) (ls : Array Slot) (hl : lv_has ls 14 [(0, .ref x0), (1, .int x1), (5, .int x5), (6, .int x6), (7, .int x7), (9, .int x9), (10, .int x10), (11, .int x11), (12, .int x12)]) (hE : sX0_layOut_177 F k_79 h x0 x1 x5 x6 x7 x9 x10 x11 x12 = some o) : W p l e (rm 2 42) s m args below meth c H locs 0 0 (MQ below (QI X h0 o.1 o.2) args s 0 0 (aA (eB X))) (F0 m 177 ls []) := by
  refine lv_iconst (v := (0 : Int32)) C.1 C.2.1 dX0_layOut_177 (by decide) ?_
  exact bX0_layOut_178 C hk_79 k_x0 hkm hW hZ _ (lv_sub hl [0, 1, 2, 3, 4, 5, 6, 7, 8] rfl) hE
set_option maxRecDepth 20000 in
theorem bX0_layOut_141 {p : Program} {l : Launch} {e : Env} {s : State} {m : MethodId} {args : Array Value} {below : List Frame} {meth : Method} {c : Code} {X : Ec} {h0 : Hp} {o : Int32 × Hp} {k_79 : Hp → Nat → Int32 → Int32 → Int32 → Int32 → Int32 → Int32 → Option (Int32 × Hp)} {F : Nat} (C : Cx X p s m args meth c RX0 cX0_layOut 14 (some .boolean) "layOut") (hk_79 : ∀ (h : Hp) (x0 : Nat) (x1 : Int32) (x5 : Int32) (x6 : Int32) (x7 : Int32) (x8 : Int32) (x9 : Int32) (H : Heap) (locs : List Loc), hK h x0 = 0 → Km h0 h → Wx X h H → va_S (aA (eB X)) s.heap H locs → ∀ (ls : Array Slot), lv_has ls 14 [(0, .ref x0), (1, .int x1), (5, .int x5), (6, .int x6), (7, .int x7), (8, .int x8), (9, .int x9)] → k_79 h x0 x1 x5 x6 x7 x8 x9 = some o → W p l e (rm 2 42) s m args below meth c H locs 0 0 (MQ below (QI X h0 o.1 o.2) args s 0 0 (aA (eB X))) (F0 m 79 ls [])) {h : Hp} {x0 : Nat} {x1 : Int32} {x5 : Int32} {x6 : Int32} {x7 : Int32} {x9 : Int32} {x10 : Int32} {x11 : Int32} {t0 : Int32} {H : Heap} {locs : List Loc} (k_x0 : hK h x0 = 0) (hkm : Km h0 h) (hW : Wx X h H) (hZ : va_S (aA (eB X)) s.heap H locs) (ls : Array Slot) (hl : lv_has ls 14 [(0, .ref x0), (1, .int x1), (5, .int x5), (6, .int x6), (7, .int x7), (9, .int x9), (10, .int x10), (11, .int x11)]) (hE : sX0_layOut_141 F k_79 h x0 x1 x5 x6 x7 x9 x10 x11 t0 = some o) : W p l e (rm 2 42) s m args below meth c H locs 0 0 (MQ below (QI X h0 o.1 o.2) args s 0 0 (aA (eB X))) (F0 m 141 ls [.int t0]) := by
  refine lv_istore (lv' := [(12, .int t0), (0, .ref x0), (1, .int x1), (5, .int x5), (6, .int x6), (7, .int x7), (9, .int x9), (10, .int x10), (11, .int x11)]) C.1 C.2.1 dX0_layOut_141 hl (by decide) rfl (fun ls hl => ?_)
  refine lv_aload_n C.1 C.2.1 dX0_layOut_143 rfl (lv_at hl 1 rfl) ?_
  obtain ⟨r_1, er_1, hE⟩ := cl_e hE
  refine gf_X0_40 C hW k_x0 er_1 dX0_layOut_144 (fun k_r_1 => ?_)
  refine lv_iload C.1 C.2.1 dX0_layOut_147 (lv_at hl 8 rfl) ?_
  refine lv_iconst (v := (1 : Int32)) C.1 C.2.1 dX0_layOut_149 (by decide) ?_
  refine lv_ishr C.1 C.2.1 dX0_layOut_150 ?_
  obtain ⟨o_2, eo_2, hE⟩ := cl_e hE
  refine x_kI (o := o_2) (z_runV (As := [.int (x11 >>> ((1 : Int32) &&& 31))]) (rest := []) C (ct_X1_becomesOthers l X k_r_1 eo_2) cw_X0_169 hW hZ k_r_1 (by decide) rfl rfl rfl hl.1 (Nat.le_of_ble_eq_true rfl) rfl dX0_layOut_151 ⟨Nat.le_of_ble_eq_true rfl, Nat.le_of_ble_eq_true rfl⟩ ⟨Nat.le_refl _, Nat.le_refl _⟩) hZ (fun _ _ hW km hZ => ?_)
  replace hkm := hkm.tr km
  replace k_x0 := km.at k_x0 (by decide)
  refine lv_if_eq (tgt := 177) C.1 C.2.1 dX0_layOut_154 (by decide) (fun c_3 => ?_) (fun c_3 => ?_)
  · have hE := br_p hE c_3
    exact bX0_layOut_177 C hk_79 k_x0 hkm hW hZ _ (lv_sub hl [1, 2, 3, 4, 5, 6, 7, 8, 0] rfl) hE
  · have hE := br_n hE c_3
    refine lv_aload_n C.1 C.2.1 dX0_layOut_157 rfl (lv_at hl 1 rfl) ?_
    obtain ⟨r_4, er_4, hE⟩ := cl_e hE
    refine gf_X0_40 C hW k_x0 er_4 dX0_layOut_158 (fun k_r_4 => ?_)
    refine lv_iload C.1 C.2.1 dX0_layOut_161 (lv_at hl 7 rfl) ?_
    refine lv_iload C.1 C.2.1 dX0_layOut_163 (lv_at hl 8 rfl) ?_
    refine lv_iconst (v := (1 : Int32)) C.1 C.2.1 dX0_layOut_165 (by decide) ?_
    refine lv_iand C.1 C.2.1 dX0_layOut_166 ?_
    obtain ⟨o_5, eo_5, hE⟩ := cl_e hE
    refine x_kI (o := o_5) (z_runV (As := [.int x10, .int (x11 &&& (1 : Int32))]) (rest := []) C (ct_X1_isLast l X k_r_4 eo_5) cw_X0_173 hW hZ k_r_4 (by decide) rfl rfl rfl hl.1 (Nat.le_of_ble_eq_true rfl) rfl dX0_layOut_167 ⟨Nat.le_of_ble_eq_true rfl, Nat.le_of_ble_eq_true rfl⟩ ⟨Nat.le_refl _, Nat.le_refl _⟩) hZ (fun _ _ hW km hZ => ?_)
    replace hkm := hkm.tr km
    replace k_x0 := km.at k_x0 (by decide)
    refine lv_if_eq (tgt := 177) C.1 C.2.1 dX0_layOut_170 (by decide) (fun c_6 => ?_) (fun c_6 => ?_)
    · have hE := br_p hE c_6
      exact bX0_layOut_177 C hk_79 k_x0 hkm hW hZ _ (lv_sub hl [1, 2, 3, 4, 5, 6, 7, 8, 0] rfl) hE
    · have hE := br_n hE c_6
      refine lv_iconst (v := (1 : Int32)) C.1 C.2.1 dX0_layOut_173 (by decide) ?_
      refine lv_goto (tgt := 178) C.1 C.2.1 dX0_layOut_174 (by decide) ?_
      exact bX0_layOut_178 C hk_79 k_x0 hkm hW hZ _ (lv_sub hl [1, 2, 3, 4, 5, 6, 7, 8, 0] rfl) hE
set_option maxRecDepth 20000 in
theorem bX0_layOut_140 {p : Program} {l : Launch} {e : Env} {s : State} {m : MethodId} {args : Array Value} {below : List Frame} {meth : Method} {c : Code} {X : Ec} {h0 : Hp} {o : Int32 × Hp} {k_79 : Hp → Nat → Int32 → Int32 → Int32 → Int32 → Int32 → Int32 → Option (Int32 × Hp)} {F : Nat} (C : Cx X p s m args meth c RX0 cX0_layOut 14 (some .boolean) "layOut") (hk_79 : ∀ (h : Hp) (x0 : Nat) (x1 : Int32) (x5 : Int32) (x6 : Int32) (x7 : Int32) (x8 : Int32) (x9 : Int32) (H : Heap) (locs : List Loc), hK h x0 = 0 → Km h0 h → Wx X h H → va_S (aA (eB X)) s.heap H locs → ∀ (ls : Array Slot), lv_has ls 14 [(0, .ref x0), (1, .int x1), (5, .int x5), (6, .int x6), (7, .int x7), (8, .int x8), (9, .int x9)] → k_79 h x0 x1 x5 x6 x7 x8 x9 = some o → W p l e (rm 2 42) s m args below meth c H locs 0 0 (MQ below (QI X h0 o.1 o.2) args s 0 0 (aA (eB X))) (F0 m 79 ls [])) {h : Hp} {x0 : Nat} {x1 : Int32} {x5 : Int32} {x6 : Int32} {x7 : Int32} {x9 : Int32} {x10 : Int32} {x11 : Int32} {H : Heap} {locs : List Loc} (k_x0 : hK h x0 = 0) (hkm : Km h0 h) (hW : Wx X h H) (hZ : va_S (aA (eB X)) s.heap H locs) (ls : Array Slot) (hl : lv_has ls 14 [(0, .ref x0), (1, .int x1), (5, .int x5), (6, .int x6), (7, .int x7), (9, .int x9), (10, .int x10), (11, .int x11)]) (hE : sX0_layOut_140 F k_79 h x0 x1 x5 x6 x7 x9 x10 x11 = some o) : W p l e (rm 2 42) s m args below meth c H locs 0 0 (MQ below (QI X h0 o.1 o.2) args s 0 0 (aA (eB X))) (F0 m 140 ls []) := by
  refine lv_iconst (v := (0 : Int32)) C.1 C.2.1 dX0_layOut_140 (by decide) ?_
  exact bX0_layOut_141 C hk_79 k_x0 hkm hW hZ _ (lv_sub hl [0, 1, 2, 3, 4, 5, 6, 7] rfl) hE
set_option maxRecDepth 20000 in
theorem bX0_layOut_79 {p : Program} {l : Launch} {e : Env} {s : State} {m : MethodId} {args : Array Value} {below : List Frame} {meth : Method} {c : Code} {X : Ec} {h0 : Hp} {o : Int32 × Hp} {F : Nat} (C : Cx X p s m args meth c RX0 cX0_layOut 14 (some .boolean) "layOut") : ∀ (f : Nat) {h : Hp} {x0 : Nat} {x1 : Int32} {x5 : Int32} {x6 : Int32} {x7 : Int32} {x8 : Int32} {x9 : Int32} {H : Heap} {locs : List Loc} (k_x0 : hK h x0 = 0), Km h0 h → Wx X h H → va_S (aA (eB X)) s.heap H locs → ∀ (ls : Array Slot), lv_has ls 14 [(0, .ref x0), (1, .int x1), (5, .int x5), (6, .int x6), (7, .int x7), (8, .int x8), (9, .int x9)] → sX0_layOut_79 F f h x0 x1 x5 x6 x7 x8 x9 = some o → W p l e (rm 2 42) s m args below meth c H locs 0 0 (MQ below (QI X h0 o.1 o.2) args s 0 0 (aA (eB X))) (F0 m 79 ls []) := by
  intro f
  induction f with
  | zero =>
    intro h x0 x1 x5 x6 x7 x8 x9 H locs k_x0 hkm hW hZ ls hl hE
    rw [sX0_layOut_79] at hE
    cases hE
  | succ f ih =>
    intro h x0 x1 x5 x6 x7 x8 x9 H locs k_x0 hkm hW hZ ls hl hE
    rw [sX0_layOut_79] at hE
    have hk_79 : ∀ (h : Hp) (x0 : Nat) (x1 : Int32) (x5 : Int32) (x6 : Int32) (x7 : Int32) (x8 : Int32) (x9 : Int32) (H : Heap) (locs : List Loc), hK h x0 = 0 → Km h0 h → Wx X h H → va_S (aA (eB X)) s.heap H locs → ∀ (ls : Array Slot), lv_has ls 14 [(0, .ref x0), (1, .int x1), (5, .int x5), (6, .int x6), (7, .int x7), (8, .int x8), (9, .int x9)] → sX0_layOut_79 F f h x0 x1 x5 x6 x7 x8 x9 = some o → W p l e (rm 2 42) s m args below meth c H locs 0 0 (MQ below (QI X h0 o.1 o.2) args s 0 0 (aA (eB X))) (F0 m 79 ls []) := fun h x0 x1 x5 x6 x7 x8 x9 H locs k_x0 a b c ls hl hE => ih k_x0 a b c ls hl hE
    refine lv_iload C.1 C.2.1 dX0_layOut_79 (lv_at hl 6 rfl) ?_
    refine lv_iload C.1 C.2.1 dX0_layOut_81 (lv_at hl 2 rfl) ?_
    refine lv_icmp_ge (tgt := 240) C.1 C.2.1 dX0_layOut_83 (by decide) (fun c_1 => ?_) (fun c_1 => ?_)
    · have hE := br_p hE c_1
      exact bX0_layOut_240 C hkm hW hZ _ (lv_sub hl [] rfl) hE
    · have hE := br_n hE c_1
      refine lv_iload C.1 C.2.1 dX0_layOut_86 (lv_at hl 3 rfl) ?_
      refine lv_if_le (tgt := 240) C.1 C.2.1 dX0_layOut_88 (by decide) (fun c_2 => ?_) (fun c_2 => ?_)
      · have hE := br_p hE c_2
        exact bX0_layOut_240 C hkm hW hZ _ (lv_sub hl [] rfl) hE
      · have hE := br_n hE c_2
        refine lv_iload C.1 C.2.1 dX0_layOut_91 (lv_at hl 4 rfl) ?_
        refine lv_iload C.1 C.2.1 dX0_layOut_93 (lv_at hl 3 rfl) ?_
        obtain ⟨g_3, hE⟩ := gd_e hE
        refine lv_irem C.1 C.2.1 dX0_layOut_95 g_3 ?_
        obtain ⟨v_4, ev_4, hE⟩ := nm_e2 hE
        refine x_nmI ev_4 ?_
        refine lv_istore (lv' := [(10, .int v_4), (0, .ref x0), (1, .int x1), (5, .int x5), (6, .int x6), (7, .int x7), (8, .int x8), (9, .int x9)]) C.1 C.2.1 dX0_layOut_96 hl (by decide) rfl (fun ls hl => ?_)
        refine lv_iload C.1 C.2.1 dX0_layOut_98 (lv_at hl 5 rfl) ?_
        refine lv_iload C.1 C.2.1 dX0_layOut_100 (lv_at hl 4 rfl) ?_
        obtain ⟨g_5, hE⟩ := gd_e hE
        refine lv_idiv C.1 C.2.1 dX0_layOut_102 g_5 ?_
        obtain ⟨v_6, ev_6, hE⟩ := nm_e2 hE
        refine x_nmI ev_6 ?_
        refine lv_istore (lv' := [(7, .int v_6), (10, .int v_4), (0, .ref x0), (1, .int x1), (5, .int x5), (6, .int x6), (8, .int x8), (9, .int x9)]) C.1 C.2.1 dX0_layOut_103 hl (by decide) rfl (fun ls hl => ?_)
        refine lv_iload_n C.1 C.2.1 dX0_layOut_105 rfl (lv_at hl 3 rfl) ?_
        refine lv_iload C.1 C.2.1 dX0_layOut_106 (lv_at hl 7 rfl) ?_
        obtain ⟨o_7, eo_7, hE⟩ := cl_e hE
        refine x_kI (o := o_7) (z_runS (As := [.int x1, .int x9]) (rest := []) C (ct_X0_codeIn l X eo_7) cw_X0_123 hW hZ rfl hl.1 (Nat.le_of_ble_eq_true rfl) rfl dX0_layOut_108 ⟨Nat.le_of_ble_eq_true rfl, Nat.le_of_ble_eq_true rfl⟩ ⟨Nat.le_refl _, Nat.le_refl _⟩) hZ (fun _ _ hW km hZ => ?_)
        replace hkm := hkm.tr km
        replace k_x0 := km.at k_x0 (by decide)
        refine lv_istore (lv' := [(11, .int o_7.1), (7, .int v_6), (10, .int v_4), (0, .ref x0), (1, .int x1), (5, .int x5), (6, .int x6), (8, .int x8), (9, .int x9)]) C.1 C.2.1 dX0_layOut_111 hl (by decide) rfl (fun ls hl => ?_)
        refine lv_iload C.1 C.2.1 dX0_layOut_113 (lv_at hl 7 rfl) ?_
        refine lv_bipush (v := (6 : Int32)) C.1 C.2.1 dX0_layOut_115 (by decide) ?_
        refine lv_ishr C.1 C.2.1 dX0_layOut_117 ?_
        refine lv_iload C.1 C.2.1 dX0_layOut_118 (lv_at hl 0 rfl) ?_
        refine lv_icmp_ne (tgt := 140) C.1 C.2.1 dX0_layOut_120 (by decide) (fun c_8 => ?_) (fun c_8 => ?_)
        · have hE := br_n hE c_8
          exact bX0_layOut_140 C hk_79 k_x0 hkm hW hZ _ (lv_sub hl [3, 4, 5, 6, 1, 8, 2, 0] rfl) hE
        · have hE := br_p hE c_8
          refine lv_iload C.1 C.2.1 dX0_layOut_123 (lv_at hl 7 rfl) ?_
          refine lv_iload C.1 C.2.1 dX0_layOut_125 (lv_at hl 0 rfl) ?_
          refine lv_bipush (v := (6 : Int32)) C.1 C.2.1 dX0_layOut_127 (by decide) ?_
          refine lv_ishl C.1 C.2.1 dX0_layOut_129 ?_
          refine lv_iload C.1 C.2.1 dX0_layOut_130 (lv_at hl 2 rfl) ?_
          refine lv_ior C.1 C.2.1 dX0_layOut_132 ?_
          refine lv_icmp_le (tgt := 140) C.1 C.2.1 dX0_layOut_133 (by decide) (fun c_9 => ?_) (fun c_9 => ?_)
          · have hE := br_p hE c_9
            exact bX0_layOut_140 C hk_79 k_x0 hkm hW hZ _ (lv_sub hl [3, 4, 5, 6, 1, 8, 2, 0] rfl) hE
          · have hE := br_n hE c_9
            refine lv_iconst (v := (1 : Int32)) C.1 C.2.1 dX0_layOut_136 (by decide) ?_
            refine lv_goto (tgt := 141) C.1 C.2.1 dX0_layOut_137 (by decide) ?_
            exact bX0_layOut_141 C hk_79 k_x0 hkm hW hZ _ (lv_sub hl [3, 4, 5, 6, 1, 8, 2, 0] rfl) hE
set_option maxRecDepth 20000 in
theorem bX0_layOut_55 {p : Program} {l : Launch} {e : Env} {s : State} {m : MethodId} {args : Array Value} {below : List Frame} {meth : Method} {c : Code} {X : Ec} {h0 : Hp} {o : Int32 × Hp} {F : Nat} (C : Cx X p s m args meth c RX0 cX0_layOut 14 (some .boolean) "layOut") {h : Hp} {x0 : Nat} {x1 : Int32} {x2 : Int32} {H : Heap} {locs : List Loc} (k_x0 : hK h x0 = 0) (hkm : Km h0 h) (hW : Wx X h H) (hZ : va_S (aA (eB X)) s.heap H locs) (ls : Array Slot) (hl : lv_has ls 14 [(0, .ref x0), (1, .int x1), (2, .int x2)]) (hE : sX0_layOut_55 F h x0 x1 x2 = some o) : W p l e (rm 2 42) s m args below meth c H locs 0 0 (MQ below (QI X h0 o.1 o.2) args s 0 0 (aA (eB X))) (F0 m 55 ls []) := by
  refine lv_iload_n C.1 C.2.1 dX0_layOut_55 rfl (lv_at hl 1 rfl) ?_
  obtain ⟨o_1, eo_1, hE⟩ := cl_e hE
  refine x_kI (o := o_1) (z_runS (As := [.int x1]) (rest := []) C (ct_X0_sizeOf l X F eo_1) cw_X0_143 hW hZ rfl hl.1 (Nat.le_of_ble_eq_true rfl) rfl dX0_layOut_56 ⟨Nat.le_of_ble_eq_true rfl, Nat.le_of_ble_eq_true rfl⟩ ⟨Nat.le_refl _, Nat.le_refl _⟩) hZ (fun _ _ hW km hZ => ?_)
  replace hkm := hkm.tr km
  replace k_x0 := km.at k_x0 (by decide)
  refine lv_istore (lv' := [(5, .int o_1.1), (0, .ref x0), (1, .int x1), (2, .int x2)]) C.1 C.2.1 dX0_layOut_59 hl (by decide) rfl (fun ls hl => ?_)
  refine lv_aload_n C.1 C.2.1 dX0_layOut_61 rfl (lv_at hl 1 rfl) ?_
  obtain ⟨r_2, er_2, hE⟩ := cl_e hE
  refine gf_X0_40 C hW k_x0 er_2 dX0_layOut_62 (fun k_r_2 => ?_)
  refine gf_X0_126 C hW k_r_2 dX0_layOut_65 ?_
  obtain ⟨v_3, ev_3, hE⟩ := nm_e2 hE
  refine x_nmI ev_3 ?_
  refine lv_istore (lv' := [(6, .int v_3), (5, .int o_1.1), (0, .ref x0), (1, .int x1), (2, .int x2)]) C.1 C.2.1 dX0_layOut_68 hl (by decide) rfl (fun ls hl => ?_)
  refine lv_iload_n C.1 C.2.1 dX0_layOut_70 rfl (lv_at hl 4 rfl) ?_
  refine lv_istore (lv' := [(7, .int x2), (6, .int v_3), (5, .int o_1.1), (0, .ref x0), (1, .int x1), (2, .int x2)]) C.1 C.2.1 dX0_layOut_71 hl (by decide) rfl (fun ls hl => ?_)
  refine lv_iconst (v := (-1 : Int32)) C.1 C.2.1 dX0_layOut_73 (by decide) ?_
  refine lv_istore (lv' := [(8, .int (-1 : Int32)), (7, .int x2), (6, .int v_3), (5, .int o_1.1), (0, .ref x0), (1, .int x1), (2, .int x2)]) C.1 C.2.1 dX0_layOut_74 hl (by decide) rfl (fun ls hl => ?_)
  refine lv_iconst (v := (0 : Int32)) C.1 C.2.1 dX0_layOut_76 (by decide) ?_
  refine lv_istore (lv' := [(9, .int (0 : Int32)), (8, .int (-1 : Int32)), (7, .int x2), (6, .int v_3), (5, .int o_1.1), (0, .ref x0), (1, .int x1), (2, .int x2)]) C.1 C.2.1 dX0_layOut_77 hl (by decide) rfl (fun ls hl => ?_)
  exact bX0_layOut_79 C F k_x0 hkm hW hZ _ (lv_sub hl [5, 6, 4, 3, 2, 1, 0] rfl) hE
set_option maxRecDepth 20000 in
theorem bX0_layOut_11 {p : Program} {l : Launch} {e : Env} {s : State} {m : MethodId} {args : Array Value} {below : List Frame} {meth : Method} {c : Code} {X : Ec} {h0 : Hp} {o : Int32 × Hp} {F : Nat} (C : Cx X p s m args meth c RX0 cX0_layOut 14 (some .boolean) "layOut") : ∀ (f : Nat) {h : Hp} {x0 : Nat} {x1 : Int32} {x2 : Int32} {x3 : Int64} {x5 : Int32} {H : Heap} {locs : List Loc} (k_x0 : hK h x0 = 0), Km h0 h → Wx X h H → va_S (aA (eB X)) s.heap H locs → ∀ (ls : Array Slot), lv_has ls 14 [(0, .ref x0), (1, .int x1), (2, .int x2), (3, .long x3), (5, .int x5)] → sX0_layOut_11 F f h x0 x1 x2 x3 x5 = some o → W p l e (rm 2 42) s m args below meth c H locs 0 0 (MQ below (QI X h0 o.1 o.2) args s 0 0 (aA (eB X))) (F0 m 11 ls []) := by
  intro f
  induction f with
  | zero =>
    intro h x0 x1 x2 x3 x5 H locs k_x0 hkm hW hZ ls hl hE
    rw [sX0_layOut_11] at hE
    cases hE
  | succ f ih =>
    intro h x0 x1 x2 x3 x5 H locs k_x0 hkm hW hZ ls hl hE
    rw [sX0_layOut_11] at hE
    have hk_11 : ∀ (h : Hp) (x0 : Nat) (x1 : Int32) (x2 : Int32) (x3 : Int64) (x5 : Int32) (H : Heap) (locs : List Loc), hK h x0 = 0 → Km h0 h → Wx X h H → va_S (aA (eB X)) s.heap H locs → ∀ (ls : Array Slot), lv_has ls 14 [(0, .ref x0), (1, .int x1), (2, .int x2), (3, .long x3), (5, .int x5)] → sX0_layOut_11 F f h x0 x1 x2 x3 x5 = some o → W p l e (rm 2 42) s m args below meth c H locs 0 0 (MQ below (QI X h0 o.1 o.2) args s 0 0 (aA (eB X))) (F0 m 11 ls []) := fun h x0 x1 x2 x3 x5 H locs k_x0 a b c ls hl hE => ih k_x0 a b c ls hl hE
    refine lv_iload C.1 C.2.1 dX0_layOut_11 (lv_at hl 4 rfl) ?_
    refine lv_bipush (v := (64 : Int32)) C.1 C.2.1 dX0_layOut_13 (by decide) ?_
    refine lv_icmp_ge (tgt := 55) C.1 C.2.1 dX0_layOut_15 (by decide) (fun c_1 => ?_) (fun c_1 => ?_)
    · have hE := br_p hE c_1
      exact bX0_layOut_55 C k_x0 hkm hW hZ _ (lv_sub hl [0, 1, 2] rfl) hE
    · have hE := br_n hE c_1
      refine lv_lload_n C.1 C.2.1 dX0_layOut_18 rfl (lv_at hl 3 rfl) ?_
      refine lv_lconst (v := (0 : Int64)) C.1 C.2.1 dX0_layOut_19 (by decide) ?_
      refine W.lcmp C.1 C.2.1 dX0_layOut_20 ?_
      refine lv_if_eq (tgt := 55) C.1 C.2.1 dX0_layOut_21 (by decide) (fun c_2 => ?_) (fun c_2 => ?_)
      · have hE := br_p hE c_2
        exact bX0_layOut_55 C k_x0 hkm hW hZ _ (lv_sub hl [0, 1, 2] rfl) hE
      · have hE := br_n hE c_2
        refine lv_aload_n C.1 C.2.1 dX0_layOut_24 rfl (lv_at hl 0 rfl) ?_
        obtain ⟨r_3, er_3, hE⟩ := cl_e hE
        refine gf_X0_14 C hW k_x0 er_3 dX0_layOut_25 (fun k_r_3 => ?_)
        refine lv_lload_n C.1 C.2.1 dX0_layOut_28 rfl (lv_at hl 3 rfl) ?_
        obtain ⟨o_4, eo_4, hE⟩ := cl_e hE
        refine x_kI (o := o_4) (x_runSN (As := [.long x3]) (rest := [.ref r_3]) C (ct_X11_lowest l X eo_4) cn_X0_161 hW hZ rfl hl.1 (Nat.le_of_ble_eq_true rfl) rfl dX0_layOut_29 ⟨Nat.le_of_ble_eq_true rfl, Nat.le_of_ble_eq_true rfl⟩ ⟨Nat.le_refl _, Nat.le_refl _⟩) hZ (fun _ _ hW km hZ => ?_)
        replace hkm := hkm.tr km
        replace k_x0 := km.at k_x0 (by decide)
        replace k_r_3 := km.at k_r_3 (by decide)
        refine lv_iconst (v := (-1 : Int32)) C.1 C.2.1 dX0_layOut_32 (by decide) ?_
        refine lv_aload_n C.1 C.2.1 dX0_layOut_33 rfl (lv_at hl 0 rfl) ?_
        obtain ⟨r_5, er_5, hE⟩ := cl_e hE
        refine gf_X0_40 C hW k_x0 er_5 dX0_layOut_34 (fun k_r_5 => ?_)
        refine gf_X0_67 C hW k_r_5 dX0_layOut_37 ?_
        obtain ⟨o_6, eo_6, hE⟩ := cl_e hE
        refine x_kV (o := o_6) (z_runV (As := [.int o_4.1, .int (-1 : Int32), .int (hI o_4.2 r_5 4)]) (rest := []) C (ct_X3_put l X k_r_3 eo_6) cw_X0_165 hW hZ k_r_3 (by decide) rfl rfl rfl hl.1 (Nat.le_of_ble_eq_true rfl) rfl dX0_layOut_40 ⟨Nat.le_of_ble_eq_true rfl, Nat.le_of_ble_eq_true rfl⟩ ⟨Nat.le_refl _, Nat.le_refl _⟩) hZ (fun _ _ hW km hZ => ?_)
        replace hkm := hkm.tr km
        replace k_x0 := km.at k_x0 (by decide)
        refine lv_lload_n C.1 C.2.1 dX0_layOut_43 rfl (lv_at hl 3 rfl) ?_
        refine lv_lload_n C.1 C.2.1 dX0_layOut_44 rfl (lv_at hl 3 rfl) ?_
        refine lv_lconst (v := (1 : Int64)) C.1 C.2.1 dX0_layOut_45 (by decide) ?_
        refine lv_lsub C.1 C.2.1 dX0_layOut_46 ?_
        refine lv_land C.1 C.2.1 dX0_layOut_47 ?_
        obtain ⟨v_7, ev_7, hE⟩ := nm_e2 hE
        refine x_nmJ ev_7 ?_
        refine lv_lstore_n (lv' := [(3, .long v_7), (0, .ref x0), (1, .int x1), (2, .int x2), (5, .int x5)]) C.1 C.2.1 dX0_layOut_48 rfl hl (by decide) rfl (fun ls hl => ?_)
        obtain ⟨v_8, ev_8, hE⟩ := nm_e2 hE
        refine lv_iinc (v := v_8) (lv' := [(5, .int v_8), (3, .long v_7), (0, .ref x0), (1, .int x1), (2, .int x2)]) C.1 C.2.1 dX0_layOut_49 hl (k := 4) rfl (by rw [ev_8]; rfl) (by decide) rfl (fun ls hl => ?_)
        refine lv_goto (tgt := 11) C.1 C.2.1 dX0_layOut_52 (by decide) ?_
        exact hk_11 _ _ _ _ _ _ _ _ k_x0 hkm hW hZ _ (lv_sub hl [2, 3, 4, 1, 0] rfl) hE
set_option maxRecDepth 20000 in
theorem ct_X0_layOut (l : Launch) (X : Ec) (F : Nat) {h : Hp} {x0 : Nat} {x1 : Int32} {x2 : Int32} {o : Int32 × Hp} (k_x0 : hK h x0 = 0) (hE : sX0_layOut F h x0 x1 x2 = some o) : MetI l yX0_layOut cX0_layOut 14 (some .boolean) 2 42 X [.ref x0, .int x1, .int x2] h o := by
  refine x_met (by decide) (Nat.le_of_ble_eq_true rfl) ?_
  intro p e s m below meth c ls C hl hW hZ
  have hl : lv_has ls 14 [(0, .ref x0), (1, .int x1), (2, .int x2)] := hl
  have hkm : Km h h := Km.rf h
  refine lv_aload_n C.1 C.2.1 dX0_layOut_0 rfl (lv_at hl 0 rfl) ?_
  obtain ⟨r_1, er_1, hE⟩ := cl_e hE
  refine gf_X0_14 C hW k_x0 er_1 dX0_layOut_1 (fun k_r_1 => ?_)
  obtain ⟨o_2, eo_2, hE⟩ := cl_e hE
  refine x_kJ (o := o_2) (z_runV (As := []) (rest := []) C (ct_X3_occupied l X k_r_1 eo_2) cw_X0_157 hW hZ k_r_1 (by decide) rfl rfl rfl hl.1 (Nat.le_of_ble_eq_true rfl) rfl dX0_layOut_4 ⟨Nat.le_of_ble_eq_true rfl, Nat.le_of_ble_eq_true rfl⟩ ⟨Nat.le_refl _, Nat.le_refl _⟩) hZ (fun _ _ hW km hZ => ?_)
  replace hkm := hkm.tr km
  replace k_x0 := km.at k_x0 (by decide)
  refine lv_lstore_n (lv' := [(3, .long o_2.1), (0, .ref x0), (1, .int x1), (2, .int x2)]) C.1 C.2.1 dX0_layOut_7 rfl hl (by decide) rfl (fun ls hl => ?_)
  refine lv_iconst (v := (0 : Int32)) C.1 C.2.1 dX0_layOut_8 (by decide) ?_
  refine lv_istore (lv' := [(5, .int (0 : Int32)), (3, .long o_2.1), (0, .ref x0), (1, .int x1), (2, .int x2)]) C.1 C.2.1 dX0_layOut_9 hl (by decide) rfl (fun ls hl => ?_)
  exact bX0_layOut_11 C F k_x0 hkm hW hZ _ (lv_sub hl [2, 3, 4, 1, 0] rfl) hE
