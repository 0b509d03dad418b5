theorem dX11_back_0 : decode cX11_back 0 = .ok (.iload_n 1, 1) := by decide +kernel
theorem dX11_back_1 : decode cX11_back 1 = .ok (.invokestatic 318, 3) := by decide +kernel
theorem dX11_back_4 : decode cX11_back 4 = .ok (.ifCond .ne 6, 3) := by decide +kernel
theorem dX11_back_7 : decode cX11_back 7 = .ok (.bipush (-101), 2) := by decide +kernel
theorem dX11_back_9 : decode cX11_back 9 = .ok (.ireturn, 1) := by decide +kernel
theorem dX11_back_10 : decode cX11_back 10 = .ok (.aload_n 0, 1) := by decide +kernel
theorem dX11_back_11 : decode cX11_back 11 = .ok (.getfield 117, 3) := by decide +kernel
theorem dX11_back_14 : decode cX11_back 14 = .ok (.iload_n 1, 1) := by decide +kernel
theorem dX11_back_15 : decode cX11_back 15 = .ok (.iaload, 1) := by decide +kernel
theorem dX11_back_16 : decode cX11_back 16 = .ok (.iconst (-1), 1) := by decide +kernel
theorem dX11_back_17 : decode cX11_back 17 = .ok (.if_icmp .ne 6, 3) := by decide +kernel
theorem dX11_back_20 : decode cX11_back 20 = .ok (.bipush (-102), 2) := by decide +kernel
theorem dX11_back_22 : decode cX11_back 22 = .ok (.ireturn, 1) := by decide +kernel
theorem dX11_back_23 : decode cX11_back 23 = .ok (.aload_n 0, 1) := by decide +kernel
theorem dX11_back_24 : decode cX11_back 24 = .ok (.getfield 117, 3) := by decide +kernel
theorem dX11_back_27 : decode cX11_back 27 = .ok (.iload_n 1, 1) := by decide +kernel
theorem dX11_back_28 : decode cX11_back 28 = .ok (.iaload, 1) := by decide +kernel
theorem dX11_back_29 : decode cX11_back 29 = .ok (.ifCond .ne 6, 3) := by decide +kernel
theorem dX11_back_32 : decode cX11_back 32 = .ok (.bipush (-103), 2) := by decide +kernel
theorem dX11_back_34 : decode cX11_back 34 = .ok (.ireturn, 1) := by decide +kernel
theorem dX11_back_35 : decode cX11_back 35 = .ok (.aload_n 0, 1) := by decide +kernel
theorem dX11_back_36 : decode cX11_back 36 = .ok (.getfield 117, 3) := by decide +kernel
theorem dX11_back_39 : decode cX11_back 39 = .ok (.iload_n 1, 1) := by decide +kernel
theorem dX11_back_40 : decode cX11_back 40 = .ok (.dup2, 1) := by decide +kernel
theorem dX11_back_41 : decode cX11_back 41 = .ok (.iaload, 1) := by decide +kernel
theorem dX11_back_42 : decode cX11_back 42 = .ok (.iconst 1, 1) := by decide +kernel
theorem dX11_back_43 : decode cX11_back 43 = .ok (.isub, 1) := by decide +kernel
theorem dX11_back_44 : decode cX11_back 44 = .ok (.iastore, 1) := by decide +kernel
theorem dX11_back_45 : decode cX11_back 45 = .ok (.aload_n 0, 1) := by decide +kernel
theorem dX11_back_46 : decode cX11_back 46 = .ok (.getfield 117, 3) := by decide +kernel
theorem dX11_back_49 : decode cX11_back 49 = .ok (.iload_n 1, 1) := by decide +kernel
theorem dX11_back_50 : decode cX11_back 50 = .ok (.iaload, 1) := by decide +kernel
theorem dX11_back_51 : decode cX11_back 51 = .ok (.ireturn, 1) := by decide +kernel
set_option maxRecDepth 20000 in
theorem moX11_back {o : Int32 × Hp} {h : Hp} {x0 : Nat} {x1 : Int32} (hE : sX11_back h x0 x1 = some o) : Le h o.2 := by
  obtain ⟨o_1, eo_1, hE⟩ := cl_e hE
  refine (moX11_isGame eo_1).tr ?_
  rcases br_e hE with ⟨_, hE⟩ | ⟨_, hE⟩
  · exact le_some2 hE
  · obtain ⟨r_3, er_3, hE⟩ := cl_e hE
    obtain ⟨g_4, hE⟩ := gd_e hE
    rcases br_e hE with ⟨_, hE⟩ | ⟨_, hE⟩
    · exact le_some2 hE
    · obtain ⟨r_6, er_6, hE⟩ := cl_e hE
      obtain ⟨g_7, hE⟩ := gd_e hE
      rcases br_e hE with ⟨_, hE⟩ | ⟨_, hE⟩
      · exact le_some2 hE
      · obtain ⟨r_9, er_9, hE⟩ := cl_e hE
        obtain ⟨g_10, hE⟩ := gd_e hE
        obtain ⟨g_11, hE⟩ := gd_e hE
        obtain ⟨h_12, eh_12, hE⟩ := nm_e2 hE
        refine (le_I eh_12).tr ?_
        obtain ⟨r_13, er_13, hE⟩ := cl_e hE
        obtain ⟨g_14, hE⟩ := gd_e hE
        exact le_some2 hE
set_option maxRecDepth 20000 in
theorem ct_X11_back (l : Launch) (X : Ec) {h : Hp} {x0 : Nat} {x1 : Int32} {o : Int32 × Hp} (k_x0 : hK h x0 = 11) (hE : sX11_back h x0 x1 = some o) : MetI l yX11_back cX11_back 2 (some .int) 1 20 X [.ref x0, .int x1] h o := by
  refine x_met (by decide) (Nat.le_of_ble_eq_true rfl) ?_
  intro p e s m below meth c ls C hl hW hZ
  have hl : lv_has ls 2 [(0, .ref x0), (1, .int x1)] := hl
  have hkm : Km h h := Km.rf h
  refine lv_iload_n C.1 C.2.1 dX11_back_0 rfl (lv_at hl 1 rfl) ?_
  obtain ⟨o_1, eo_1, hE⟩ := cl_e hE
  refine x_kI (o := o_1) (z_runS (As := [.int x1]) (rest := []) C (ct_X11_isGame l X eo_1) cw_X11_318 hW hZ rfl hl.1 (Nat.le_of_ble_eq_true rfl) rfl dX11_back_1 ⟨Nat.le_of_ble_eq_true rfl, Nat.le_of_ble_eq_true rfl⟩ ⟨Nat.le_refl _, Nat.le_refl _⟩) hZ (fun _ _ hW km hZ => ?_)
  replace hkm := hkm.tr km
  replace k_x0 := km.at k_x0 (by decide)
  refine lv_if_ne (tgt := 10) C.1 C.2.1 dX11_back_4 (by decide) (fun c_2 => ?_) (fun c_2 => ?_)
  · have hE := br_n hE c_2
    refine lv_aload_n C.1 C.2.1 dX11_back_10 rfl (lv_at hl 0 rfl) ?_
    obtain ⟨r_3, er_3, hE⟩ := cl_e hE
    refine gf_X11_117 C hW k_x0 er_3 dX11_back_11 (fun k_r_3 => ?_)
    refine lv_iload_n C.1 C.2.1 dX11_back_14 rfl (lv_at hl 1 rfl) ?_
    obtain ⟨g_4, hE⟩ := gd_e hE
    refine y_iald C hW k_r_3 g_4 dX11_back_15 ?_
    refine lv_iconst (v := (-1 : Int32)) C.1 C.2.1 dX11_back_16 (by decide) ?_
    refine lv_icmp_ne (tgt := 23) C.1 C.2.1 dX11_back_17 (by decide) (fun c_5 => ?_) (fun c_5 => ?_)
    · have hE := br_n hE c_5
      refine lv_aload_n C.1 C.2.1 dX11_back_23 rfl (lv_at hl 0 rfl) ?_
      obtain ⟨r_6, er_6, hE⟩ := cl_e hE
      refine gf_X11_117 C hW k_x0 er_6 dX11_back_24 (fun k_r_6 => ?_)
      refine lv_iload_n C.1 C.2.1 dX11_back_27 rfl (lv_at hl 1 rfl) ?_
      obtain ⟨g_7, hE⟩ := gd_e hE
      refine y_iald C hW k_r_6 g_7 dX11_back_28 ?_
      refine lv_if_ne (tgt := 35) C.1 C.2.1 dX11_back_29 (by decide) (fun c_8 => ?_) (fun c_8 => ?_)
      · have hE := br_n hE c_8
        refine lv_aload_n C.1 C.2.1 dX11_back_35 rfl (lv_at hl 0 rfl) ?_
        obtain ⟨r_9, er_9, hE⟩ := cl_e hE
        refine gf_X11_117 C hW k_x0 er_9 dX11_back_36 (fun k_r_9 => ?_)
        refine lv_iload_n C.1 C.2.1 dX11_back_39 rfl (lv_at hl 1 rfl) ?_
        refine lv_dup2_11 C.1 C.2.1 dX11_back_40 rfl rfl ?_
        obtain ⟨g_10, hE⟩ := gd_e hE
        refine y_iald C hW k_r_9 g_10 dX11_back_41 ?_
        refine lv_iconst (v := (1 : Int32)) C.1 C.2.1 dX11_back_42 (by decide) ?_
        refine lv_isub C.1 C.2.1 dX11_back_43 ?_
        obtain ⟨g_11, hE⟩ := gd_e hE
        obtain ⟨h_12, eh_12, hE⟩ := nm_e2 hE
        refine y_iast C hW hZ k_r_9 g_11 eh_12 dX11_back_44 (fun _ _ hW km hZ => ?_)
        replace hkm := hkm.tr km
        replace k_x0 := km.at k_x0 (by decide)
        refine lv_aload_n C.1 C.2.1 dX11_back_45 rfl (lv_at hl 0 rfl) ?_
        obtain ⟨r_13, er_13, hE⟩ := cl_e hE
        refine gf_X11_117 C hW k_x0 er_13 dX11_back_46 (fun k_r_13 => ?_)
        refine lv_iload_n C.1 C.2.1 dX11_back_49 rfl (lv_at hl 1 rfl) ?_
        obtain ⟨g_14, hE⟩ := gd_e hE
        refine y_iald C hW k_r_13 g_14 dX11_back_50 ?_
        exact x_iret C rfl rfl hW hZ hkm hE dX11_back_51
      · have hE := br_p hE c_8
        refine lv_bipush (v := (-103 : Int32)) C.1 C.2.1 dX11_back_32 (by decide) ?_
        exact x_iret C rfl rfl hW hZ hkm hE dX11_back_34
    · have hE := br_p hE c_5
      refine lv_bipush (v := (-102 : Int32)) C.1 C.2.1 dX11_back_20 (by decide) ?_
      exact x_iret C rfl rfl hW hZ hkm hE dX11_back_22
  · have hE := br_p hE c_2
    refine lv_bipush (v := (-101 : Int32)) C.1 C.2.1 dX11_back_7 (by decide) ?_
    exact x_iret C rfl rfl hW hZ hkm hE dX11_back_9
theorem dX11_countAlike_0 : decode cX11_countAlike 0 = .ok (.iconst 0, 1) := by decide +kernel
theorem dX11_countAlike_1 : decode cX11_countAlike 1 = .ok (.istore 4, 2) := by decide +kernel
theorem dX11_countAlike_3 : decode cX11_countAlike 3 = .ok (.iconst 0, 1) := by decide +kernel
theorem dX11_countAlike_4 : decode cX11_countAlike 4 = .ok (.istore 5, 2) := by decide +kernel
theorem dX11_countAlike_6 : decode cX11_countAlike 6 = .ok (.iload 5, 2) := by decide +kernel
theorem dX11_countAlike_8 : decode cX11_countAlike 8 = .ok (.aload_n 0, 1) := by decide +kernel
theorem dX11_countAlike_9 : decode cX11_countAlike 9 = .ok (.getfield 117, 3) := by decide +kernel
theorem dX11_countAlike_12 : decode cX11_countAlike 12 = .ok (.iload_n 1, 1) := by decide +kernel
theorem dX11_countAlike_13 : decode cX11_countAlike 13 = .ok (.iaload, 1) := by decide +kernel
theorem dX11_countAlike_14 : decode cX11_countAlike 14 = .ok (.if_icmp .gt 75, 3) := by decide +kernel
theorem dX11_countAlike_17 : decode cX11_countAlike 17 = .ok (.iload_n 3, 1) := by decide +kernel
theorem dX11_countAlike_18 : decode cX11_countAlike 18 = .ok (.iconst (-1), 1) := by decide +kernel
theorem dX11_countAlike_19 : decode cX11_countAlike 19 = .ok (.if_icmp .eq 31, 3) := by decide +kernel
theorem dX11_countAlike_22 : decode cX11_countAlike 22 = .ok (.iload 5, 2) := by decide +kernel
theorem dX11_countAlike_24 : decode cX11_countAlike 24 = .ok (.aload_n 0, 1) := by decide +kernel
theorem dX11_countAlike_25 : decode cX11_countAlike 25 = .ok (.getfield 117, 3) := by decide +kernel
theorem dX11_countAlike_28 : decode cX11_countAlike 28 = .ok (.iload_n 1, 1) := by decide +kernel
theorem dX11_countAlike_29 : decode cX11_countAlike 29 = .ok (.iaload, 1) := by decide +kernel
theorem dX11_countAlike_30 : decode cX11_countAlike 30 = .ok (.if_icmp .ge 24, 3) := by decide +kernel
theorem dX11_countAlike_33 : decode cX11_countAlike 33 = .ok (.aload_n 0, 1) := by decide +kernel
theorem dX11_countAlike_34 : decode cX11_countAlike 34 = .ok (.getfield 114, 3) := by decide +kernel
theorem dX11_countAlike_37 : decode cX11_countAlike 37 = .ok (.iload_n 1, 1) := by decide +kernel
theorem dX11_countAlike_38 : decode cX11_countAlike 38 = .ok (.sipush 301, 3) := by decide +kernel
theorem dX11_countAlike_41 : decode cX11_countAlike 41 = .ok (.imul, 1) := by decide +kernel
theorem dX11_countAlike_42 : decode cX11_countAlike 42 = .ok (.iload 5, 2) := by decide +kernel
theorem dX11_countAlike_44 : decode cX11_countAlike 44 = .ok (.iadd, 1) := by decide +kernel
theorem dX11_countAlike_45 : decode cX11_countAlike 45 = .ok (.iaload, 1) := by decide +kernel
theorem dX11_countAlike_46 : decode cX11_countAlike 46 = .ok (.iload_n 3, 1) := by decide +kernel
theorem dX11_countAlike_47 : decode cX11_countAlike 47 = .ok (.if_icmp .ne 7, 3) := by decide +kernel
theorem dX11_countAlike_50 : decode cX11_countAlike 50 = .ok (.iconst 1, 1) := by decide +kernel
theorem dX11_countAlike_51 : decode cX11_countAlike 51 = .ok (.goto 4, 3) := by decide +kernel
theorem dX11_countAlike_54 : decode cX11_countAlike 54 = .ok (.iconst 0, 1) := by decide +kernel
theorem dX11_countAlike_55 : decode cX11_countAlike 55 = .ok (.istore 6, 2) := by decide +kernel
theorem dX11_countAlike_57 : decode cX11_countAlike 57 = .ok (.iload 6, 2) := by decide +kernel
theorem dX11_countAlike_59 : decode cX11_countAlike 59 = .ok (.ifCond .eq 24, 3) := by decide +kernel
theorem dX11_countAlike_62 : decode cX11_countAlike 62 = .ok (.aload_n 0, 1) := by decide +kernel
theorem dX11_countAlike_63 : decode cX11_countAlike 63 = .ok (.getfield 50, 3) := by decide +kernel
theorem dX11_countAlike_66 : decode cX11_countAlike 66 = .ok (.aload_n 2, 1) := by decide +kernel
theorem dX11_countAlike_67 : decode cX11_countAlike 67 = .ok (.aload_n 0, 1) := by decide +kernel
theorem dX11_countAlike_68 : decode cX11_countAlike 68 = .ok (.iload_n 1, 1) := by decide +kernel
theorem dX11_countAlike_69 : decode cX11_countAlike 69 = .ok (.iload 5, 2) := by decide +kernel
theorem dX11_countAlike_71 : decode cX11_countAlike 71 = .ok (.invokevirtual 321, 3) := by decide +kernel
theorem dX11_countAlike_74 : decode cX11_countAlike 74 = .ok (.invokevirtual 204, 3) := by decide +kernel
theorem dX11_countAlike_77 : decode cX11_countAlike 77 = .ok (.ifCond .eq 6, 3) := by decide +kernel
theorem dX11_countAlike_80 : decode cX11_countAlike 80 = .ok (.iinc 4 1, 3) := by decide +kernel
theorem dX11_countAlike_83 : decode cX11_countAlike 83 = .ok (.iinc 5 1, 3) := by decide +kernel
theorem dX11_countAlike_86 : decode cX11_countAlike 86 = .ok (.goto (-80), 3) := by decide +kernel
theorem dX11_countAlike_89 : decode cX11_countAlike 89 = .ok (.iload 4, 2) := by decide +kernel
theorem dX11_countAlike_91 : decode cX11_countAlike 91 = .ok (.ireturn, 1) := by decide +kernel
set_option maxRecDepth 20000 in
theorem moX11_countAlike_83 {o : Int32 × Hp} {k_6 : Hp → Nat → Int32 → Nat → Int32 → Int32 → Int32 → Option (Int32 × Hp)} {F : Nat} (mk_6 : ∀ (h : Hp) (x0 : Nat) (x1 : Int32) (x2 : Nat) (x3 : Int32) (x4 : Int32) (x5 : Int32), k_6 h x0 x1 x2 x3 x4 x5 = some o → Le h o.2) {h : Hp} {x0 : Nat} {x1 : Int32} {x2 : Nat} {x3 : Int32} {x4 : Int32} {x5 : Int32} (hE : sX11_countAlike_83 F k_6 h x0 x1 x2 x3 x4 x5 = some o) : Le h o.2 := by
  obtain ⟨v_1, ev_1, hE⟩ := nm_e2 hE
  exact mk_6 _ _ _ _ _ _ _ hE
set_option maxRecDepth 20000 in
theorem moX11_countAlike_77 {o : Int32 × Hp} {k_6 : Hp → Nat → Int32 → Nat → Int32 → Int32 → Int32 → Option (Int32 × Hp)} {F : Nat} (mk_6 : ∀ (h : Hp) (x0 : Nat) (x1 : Int32) (x2 : Nat) (x3 : Int32) (x4 : Int32) (x5 : Int32), k_6 h x0 x1 x2 x3 x4 x5 = some o → Le h o.2) {h : Hp} {x0 : Nat} {x1 : Int32} {x2 : Nat} {x3 : Int32} {x4 : Int32} {x5 : Int32} {t0 : Int32} (hE : sX11_countAlike_77 F k_6 h x0 x1 x2 x3 x4 x5 t0 = some o) : Le h o.2 := by
  rcases br_e hE with ⟨_, hE⟩ | ⟨_, hE⟩
  · exact moX11_countAlike_83 mk_6 hE
  · obtain ⟨v_2, ev_2, hE⟩ := nm_e2 hE
    exact moX11_countAlike_83 mk_6 hE
set_option maxRecDepth 20000 in
theorem moX11_countAlike_74 {o : Int32 × Hp} {k_6 : Hp → Nat → Int32 → Nat → Int32 → Int32 → Int32 → Option (Int32 × Hp)} {F : Nat} (mk_6 : ∀ (h : Hp) (x0 : Nat) (x1 : Int32) (x2 : Nat) (x3 : Int32) (x4 : Int32) (x5 : Int32), k_6 h x0 x1 x2 x3 x4 x5 = some o → Le h o.2) {h : Hp} {x0 : Nat} {x1 : Int32} {x2 : Nat} {x3 : Int32} {x4 : Int32} {x5 : Int32} {t0 : Nat} {t1 : Nat} {t2 : Nat} (hE : sX11_countAlike_74 F k_6 h x0 x1 x2 x3 x4 x5 t0 t1 t2 = some o) : Le h o.2 := by
  obtain ⟨o_1, eo_1, hE⟩ := cl_e hE
  refine (moX5_areAlike eo_1).tr ?_
  exact moX11_countAlike_77 mk_6 hE
set_option maxRecDepth 20000 in
theorem moX11_countAlike_55 {o : Int32 × Hp} {k_6 : Hp → Nat → Int32 → Nat → Int32 → Int32 → Int32 → Option (Int32 × Hp)} {F : Nat} (mk_6 : ∀ (h : Hp) (x0 : Nat) (x1 : Int32) (x2 : Nat) (x3 : Int32) (x4 : Int32) (x5 : Int32), k_6 h x0 x1 x2 x3 x4 x5 = some o → Le h o.2) {h : Hp} {x0 : Nat} {x1 : Int32} {x2 : Nat} {x3 : Int32} {x4 : Int32} {x5 : Int32} {t0 : Int32} (hE : sX11_countAlike_55 F k_6 h x0 x1 x2 x3 x4 x5 t0 = some o) : Le h o.2 := by
  rcases br_e hE with ⟨_, hE⟩ | ⟨_, hE⟩
  · exact moX11_countAlike_83 mk_6 hE
  · obtain ⟨r_2, er_2, hE⟩ := cl_e hE
    obtain ⟨o_3, eo_3, hE⟩ := cl_e hE
    refine (moX11_page eo_3).tr ?_
    exact moX11_countAlike_74 mk_6 hE
set_option maxRecDepth 20000 in
theorem moX11_countAlike_50 {o : Int32 × Hp} {k_6 : Hp → Nat → Int32 → Nat → Int32 → Int32 → Int32 → Option (Int32 × Hp)} {F : Nat} (mk_6 : ∀ (h : Hp) (x0 : Nat) (x1 : Int32) (x2 : Nat) (x3 : Int32) (x4 : Int32) (x5 : Int32), k_6 h x0 x1 x2 x3 x4 x5 = some o → Le h o.2) {h : Hp} {x0 : Nat} {x1 : Int32} {x2 : Nat} {x3 : Int32} {x4 : Int32} {x5 : Int32} (hE : sX11_countAlike_50 F k_6 h x0 x1 x2 x3 x4 x5 = some o) : Le h o.2 := by
  exact moX11_countAlike_55 mk_6 hE
set_option maxRecDepth 20000 in
theorem moX11_countAlike_54 {o : Int32 × Hp} {k_6 : Hp → Nat → Int32 → Nat → Int32 → Int32 → Int32 → Option (Int32 × Hp)} {F : Nat} (mk_6 : ∀ (h : Hp) (x0 : Nat) (x1 : Int32) (x2 : Nat) (x3 : Int32) (x4 : Int32) (x5 : Int32), k_6 h x0 x1 x2 x3 x4 x5 = some o → Le h o.2) {h : Hp} {x0 : Nat} {x1 : Int32} {x2 : Nat} {x3 : Int32} {x4 : Int32} {x5 : Int32} (hE : sX11_countAlike_54 F k_6 h x0 x1 x2 x3 x4 x5 = some o) : Le h o.2 := by
  exact moX11_countAlike_55 mk_6 hE
set_option maxRecDepth 20000 in
theorem moX11_countAlike_6 {o : Int32 × Hp} {F : Nat} : ∀ (f : Nat) {h : Hp} {x0 : Nat} {x1 : Int32} {x2 : Nat} {x3 : Int32} {x4 : Int32} {x5 : Int32}, sX11_countAlike_6 F f h x0 x1 x2 x3 x4 x5 = some o → Le h o.2 := by
  intro f
  induction f with
  | zero =>
    intro h x0 x1 x2 x3 x4 x5 hE
    rw [sX11_countAlike_6] at hE
    cases hE
  | succ f ih =>
    intro h x0 x1 x2 x3 x4 x5 hE
    rw [sX11_countAlike_6] at hE
    have mk_6 : ∀ (h : Hp) (x0 : Nat) (x1 : Int32) (x2 : Nat) (x3 : Int32) (x4 : Int32) (x5 : Int32), sX11_countAlike_6 F f h x0 x1 x2 x3 x4 x5 = some o → Le h o.2 := fun h x0 x1 x2 x3 x4 x5 hE => ih hE
    obtain ⟨r_1, er_1, hE⟩ := cl_e hE
    obtain ⟨g_2, hE⟩ := gd_e hE
    rcases br_e hE with ⟨_, hE⟩ | ⟨_, hE⟩
    · exact le_some2 hE
    · rcases br_e hE with ⟨_, hE⟩ | ⟨_, hE⟩
      · exact moX11_countAlike_50 mk_6 hE
      · obtain ⟨r_5, er_5, hE⟩ := cl_e hE
        obtain ⟨g_6, hE⟩ := gd_e hE
        rcases br_e hE with ⟨_, hE⟩ | ⟨_, hE⟩
        · exact moX11_countAlike_54 mk_6 hE
        · obtain ⟨r_8, er_8, hE⟩ := cl_e hE
          obtain ⟨g_9, hE⟩ := gd_e hE
          rcases br_e hE with ⟨_, hE⟩ | ⟨_, hE⟩
          · exact moX11_countAlike_50 mk_6 hE
          · exact moX11_countAlike_54 mk_6 hE
set_option maxRecDepth 20000 in
theorem moX11_countAlike {o : Int32 × Hp} {F : Nat} {h : Hp} {x0 : Nat} {x1 : Int32} {x2 : Nat} {x3 : Int32} (hE : sX11_countAlike F h x0 x1 x2 x3 = some o) : Le h o.2 := by
  exact moX11_countAlike_6 _ hE
set_option maxRecDepth 20000 in
theorem bX11_countAlike_83 {p : Program} {l : Launch} {e : Env} {s : State} {m : MethodId} {args : Array Value} {below : List Frame} {meth : Method} {c : Code} {X : Ec} {h0 : Hp} {o : Int32 × Hp} {k_6 : Hp → Nat → Int32 → Nat → Int32 → Int32 → Int32 → Option (Int32 × Hp)} {F : Nat} (C : Cx X p s m args meth c RX11 cX11_countAlike 7 (some .int) "countAlike") (hk_6 : ∀ (h : Hp) (x0 : Nat) (x1 : Int32) (x2 : Nat) (x3 : Int32) (x4 : Int32) (x5 : Int32) (H : Heap) (locs : List Loc), hK h x0 = 11 → hK h x2 = 3 → Kl h0 h → Wx X h H → va_S (aA (eB X)) s.heap H locs → ∀ (ls : Array Slot), lv_has ls 7 [(0, .ref x0), (1, .int x1), (2, .ref x2), (3, .int x3), (4, .int x4), (5, .int x5)] → k_6 h x0 x1 x2 x3 x4 x5 = some o → W p l e (rmA 6 185 h0 o.2) s m args below meth c H locs (hS h - hS h0) (hL h - hL h0) (MQ below (QIA X h0 o.1 o.2) args s (hS o.2 - hS h0) (hL o.2 - hL h0) (aA (eB X))) (F0 m 6 ls [])) (mk_6 : ∀ (h : Hp) (x0 : Nat) (x1 : Int32) (x2 : Nat) (x3 : Int32) (x4 : Int32) (x5 : Int32), k_6 h x0 x1 x2 x3 x4 x5 = some o → Le h o.2) {h : Hp} {x0 : Nat} {x1 : Int32} {x2 : Nat} {x3 : Int32} {x4 : Int32} {x5 : Int32} {H : Heap} {locs : List Loc} (k_x0 : hK h x0 = 11) (k_x2 : hK h x2 = 3) (hkl : Kl h0 h) (hW : Wx X h H) (hZ : va_S (aA (eB X)) s.heap H locs) (ls : Array Slot) (hl : lv_has ls 7 [(0, .ref x0), (1, .int x1), (2, .ref x2), (3, .int x3), (4, .int x4), (5, .int x5)]) (hE : sX11_countAlike_83 F k_6 h x0 x1 x2 x3 x4 x5 = some o) : W p l e (rmA 6 185 h0 o.2) s m args below meth c H locs (hS h - hS h0) (hL h - hL h0) (MQ below (QIA X h0 o.1 o.2) args s (hS o.2 - hS h0) (hL o.2 - hL h0) (aA (eB X))) (F0 m 83 ls []) := by
  obtain ⟨v_1, ev_1, hE⟩ := nm_e2 hE
  refine lv_iinc (v := v_1) (lv' := [(5, .int v_1), (0, .ref x0), (1, .int x1), (2, .ref x2), (3, .int x3), (4, .int x4)]) C.1 C.2.1 dX11_countAlike_83 hl (k := 5) rfl (by rw [ev_1]; rfl) (by decide) rfl (fun ls hl => ?_)
  refine lv_goto (tgt := 6) C.1 C.2.1 dX11_countAlike_86 (by decide) ?_
  exact hk_6 _ _ _ _ _ _ _ _ _ k_x0 k_x2 hkl hW hZ _ (lv_sub hl [1, 2, 3, 4, 5, 0] rfl) hE
set_option maxRecDepth 20000 in
theorem bX11_countAlike_77 {p : Program} {l : Launch} {e : Env} {s : State} {m : MethodId} {args : Array Value} {below : List Frame} {meth : Method} {c : Code} {X : Ec} {h0 : Hp} {o : Int32 × Hp} {k_6 : Hp → Nat → Int32 → Nat → Int32 → Int32 → Int32 → Option (Int32 × Hp)} {F : Nat} (C : Cx X p s m args meth c RX11 cX11_countAlike 7 (some .int) "countAlike") (hk_6 : ∀ (h : Hp) (x0 : Nat) (x1 : Int32) (x2 : Nat) (x3 : Int32) (x4 : Int32) (x5 : Int32) (H : Heap) (locs : List Loc), hK h x0 = 11 → hK h x2 = 3 → Kl h0 h → Wx X h H → va_S (aA (eB X)) s.heap H locs → ∀ (ls : Array Slot), lv_has ls 7 [(0, .ref x0), (1, .int x1), (2, .ref x2), (3, .int x3), (4, .int x4), (5, .int x5)] → k_6 h x0 x1 x2 x3 x4 x5 = some o → W p l e (rmA 6 185 h0 o.2) s m args below meth c H locs (hS h - hS h0) (hL h - hL h0) (MQ below (QIA X h0 o.1 o.2) args s (hS o.2 - hS h0) (hL o.2 - hL h0) (aA (eB X))) (F0 m 6 ls [])) (mk_6 : ∀ (h : Hp) (x0 : Nat) (x1 : Int32) (x2 : Nat) (x3 : Int32) (x4 : Int32) (x5 : Int32), k_6 h x0 x1 x2 x3 x4 x5 = some o → Le h o.2) {h : Hp} {x0 : Nat} {x1 : Int32} {x2 : Nat} {x3 : Int32} {x4 : Int32} {x5 : Int32} {t0 : Int32} {H : Heap} {locs : List Loc} (k_x0 : hK h x0 = 11) (k_x2 : hK h x2 = 3) (hkl : Kl h0 h) (hW : Wx X h H) (hZ : va_S (aA (eB X)) s.heap H locs) (ls : Array Slot) (hl : lv_has ls 7 [(0, .ref x0), (1, .int x1), (2, .ref x2), (3, .int x3), (4, .int x4), (5, .int x5)]) (hE : sX11_countAlike_77 F k_6 h x0 x1 x2 x3 x4 x5 t0 = some o) : W p l e (rmA 6 185 h0 o.2) s m args below meth c H locs (hS h - hS h0) (hL h - hL h0) (MQ below (QIA X h0 o.1 o.2) args s (hS o.2 - hS h0) (hL o.2 - hL h0) (aA (eB X))) (F0 m 77 ls [.int t0]) := by
  refine lv_if_eq (tgt := 83) C.1 C.2.1 dX11_countAlike_77 (by decide) (fun c_1 => ?_) (fun c_1 => ?_)
  · have hE := br_p hE c_1
    exact bX11_countAlike_83 C hk_6 mk_6 k_x0 k_x2 hkl hW hZ _ (lv_sub hl [0, 1, 2, 3, 4, 5] rfl) hE
  · have hE := br_n hE c_1
    obtain ⟨v_2, ev_2, hE⟩ := nm_e2 hE
    refine lv_iinc (v := v_2) (lv' := [(4, .int v_2), (0, .ref x0), (1, .int x1), (2, .ref x2), (3, .int x3), (5, .int x5)]) C.1 C.2.1 dX11_countAlike_80 hl (k := 4) rfl (by rw [ev_2]; rfl) (by decide) rfl (fun ls hl => ?_)
    exact bX11_countAlike_83 C hk_6 mk_6 k_x0 k_x2 hkl hW hZ _ (lv_sub hl [1, 2, 3, 4, 0, 5] rfl) hE
set_option maxRecDepth 20000 in
theorem bX11_countAlike_74 {p : Program} {l : Launch} {e : Env} {s : State} {m : MethodId} {args : Array Value} {below : List Frame} {meth : Method} {c : Code} {X : Ec} {h0 : Hp} {o : Int32 × Hp} {k_6 : Hp → Nat → Int32 → Nat → Int32 → Int32 → Int32 → Option (Int32 × Hp)} {F : Nat} (C : Cx X p s m args meth c RX11 cX11_countAlike 7 (some .int) "countAlike") (hk_6 : ∀ (h : Hp) (x0 : Nat) (x1 : Int32) (x2 : Nat) (x3 : Int32) (x4 : Int32) (x5 : Int32) (H : Heap) (locs : List Loc), hK h x0 = 11 → hK h x2 = 3 → Kl h0 h → Wx X h H → va_S (aA (eB X)) s.heap H locs → ∀ (ls : Array Slot), lv_has ls 7 [(0, .ref x0), (1, .int x1), (2, .ref x2), (3, .int x3), (4, .int x4), (5, .int x5)] → k_6 h x0 x1 x2 x3 x4 x5 = some o → W p l e (rmA 6 185 h0 o.2) s m args below meth c H locs (hS h - hS h0) (hL h - hL h0) (MQ below (QIA X h0 o.1 o.2) args s (hS o.2 - hS h0) (hL o.2 - hL h0) (aA (eB X))) (F0 m 6 ls [])) (mk_6 : ∀ (h : Hp) (x0 : Nat) (x1 : Int32) (x2 : Nat) (x3 : Int32) (x4 : Int32) (x5 : Int32), k_6 h x0 x1 x2 x3 x4 x5 = some o → Le h o.2) {h : Hp} {x0 : Nat} {x1 : Int32} {x2 : Nat} {x3 : Int32} {x4 : Int32} {x5 : Int32} {t0 : Nat} {t1 : Nat} {t2 : Nat} {H : Heap} {locs : List Loc} (k_x0 : hK h x0 = 11) (k_x2 : hK h x2 = 3) (k_t0 : hK h t0 = 3) (k_t1 : hK h t1 = 3) (k_t2 : hK h t2 = 5) (hkl : Kl h0 h) (hW : Wx X h H) (hZ : va_S (aA (eB X)) s.heap H locs) (ls : Array Slot) (hl : lv_has ls 7 [(0, .ref x0), (1, .int x1), (2, .ref x2), (3, .int x3), (4, .int x4), (5, .int x5)]) (hE : sX11_countAlike_74 F k_6 h x0 x1 x2 x3 x4 x5 t0 t1 t2 = some o) : W p l e (rmA 6 185 h0 o.2) s m args below meth c H locs (hS h - hS h0) (hL h - hL h0) (MQ below (QIA X h0 o.1 o.2) args s (hS o.2 - hS h0) (hL o.2 - hL h0) (aA (eB X))) (F0 m 74 ls [.ref t0, .ref t1, .ref t2]) := by
  obtain ⟨o_1, eo_1, hE⟩ := cl_e hE
  have m1 := moX5_areAlike eo_1
  have m2 := moX11_countAlike_77 mk_6 hE
  refine x_kI (o := o_1) (z_runV (As := [.ref t1, .ref t0]) (rest := []) C (ct_X5_areAlike l X F k_t2 k_t1 k_t0 eo_1) cw_X11_204 hW hZ k_t2 (by decide) rfl rfl rfl hl.1 (Nat.le_of_ble_eq_true rfl) rfl dX11_countAlike_74 ⟨Nat.le_of_ble_eq_true rfl, Nat.le_of_ble_eq_true rfl⟩ (rm_ok0 hkl m1 m2)) hZ (fun _ _ hW km hZ => ?_)
  replace hkl := hkl.tr km.l
  refine x_wc km ?_
  replace k_x0 := km.at k_x0 (by decide)
  replace k_x2 := km.at k_x2 (by decide)
  exact bX11_countAlike_77 C hk_6 mk_6 k_x0 k_x2 hkl hW hZ _ (lv_sub hl [0, 1, 2, 3, 4, 5] rfl) hE
set_option maxRecDepth 20000 in
theorem bX11_countAlike_55 {p : Program} {l : Launch} {e : Env} {s : State} {m : MethodId} {args : Array Value} {below : List Frame} {meth : Method} {c : Code} {X : Ec} {h0 : Hp} {o : Int32 × Hp} {k_6 : Hp → Nat → Int32 → Nat → Int32 → Int32 → Int32 → Option (Int32 × Hp)} {F : Nat} (C : Cx X p s m args meth c RX11 cX11_countAlike 7 (some .int) "countAlike") (hk_6 : ∀ (h : Hp) (x0 : Nat) (x1 : Int32) (x2 : Nat) (x3 : Int32) (x4 : Int32) (x5 : Int32) (H : Heap) (locs : List Loc), hK h x0 = 11 → hK h x2 = 3 → Kl h0 h → Wx X h H → va_S (aA (eB X)) s.heap H locs → ∀ (ls : Array Slot), lv_has ls 7 [(0, .ref x0), (1, .int x1), (2, .ref x2), (3, .int x3), (4, .int x4), (5, .int x5)] → k_6 h x0 x1 x2 x3 x4 x5 = some o → W p l e (rmA 6 185 h0 o.2) s m args below meth c H locs (hS h - hS h0) (hL h - hL h0) (MQ below (QIA X h0 o.1 o.2) args s (hS o.2 - hS h0) (hL o.2 - hL h0) (aA (eB X))) (F0 m 6 ls [])) (mk_6 : ∀ (h : Hp) (x0 : Nat) (x1 : Int32) (x2 : Nat) (x3 : Int32) (x4 : Int32) (x5 : Int32), k_6 h x0 x1 x2 x3 x4 x5 = some o → Le h o.2) {h : Hp} {x0 : Nat} {x1 : Int32} {x2 : Nat} {x3 : Int32} {x4 : Int32} {x5 : Int32} {t0 : Int32} {H : Heap} {locs : List Loc} (k_x0 : hK h x0 = 11) (k_x2 : hK h x2 = 3) (hkl : Kl h0 h) (hW : Wx X h H) (hZ : va_S (aA (eB X)) s.heap H locs) (ls : Array Slot) (hl : lv_has ls 7 [(0, .ref x0), (1, .int x1), (2, .ref x2), (3, .int x3), (4, .int x4), (5, .int x5)]) (hE : sX11_countAlike_55 F k_6 h x0 x1 x2 x3 x4 x5 t0 = some o) : W p l e (rmA 6 185 h0 o.2) s m args below meth c H locs (hS h - hS h0) (hL h - hL h0) (MQ below (QIA X h0 o.1 o.2) args s (hS o.2 - hS h0) (hL o.2 - hL h0) (aA (eB X))) (F0 m 55 ls [.int t0]) := by
  refine lv_istore (lv' := [(6, .int t0), (0, .ref x0), (1, .int x1), (2, .ref x2), (3, .int x3), (4, .int x4), (5, .int x5)]) C.1 C.2.1 dX11_countAlike_55 hl (by decide) rfl (fun ls hl => ?_)
  refine lv_iload C.1 C.2.1 dX11_countAlike_57 (lv_at hl 0 rfl) ?_
  refine lv_if_eq (tgt := 83) C.1 C.2.1 dX11_countAlike_59 (by decide) (fun c_1 => ?_) (fun c_1 => ?_)
  · have hE := br_p hE c_1
    exact bX11_countAlike_83 C hk_6 mk_6 k_x0 k_x2 hkl hW hZ _ (lv_sub hl [1, 2, 3, 4, 5, 6] rfl) hE
  · have hE := br_n hE c_1
    refine lv_aload_n C.1 C.2.1 dX11_countAlike_62 rfl (lv_at hl 1 rfl) ?_
    obtain ⟨r_2, er_2, hE⟩ := cl_e hE
    refine gf_X11_50 C hW k_x0 er_2 dX11_countAlike_63 (fun k_r_2 => ?_)
    refine lv_aload_n C.1 C.2.1 dX11_countAlike_66 rfl (lv_at hl 3 rfl) ?_
    refine lv_aload_n C.1 C.2.1 dX11_countAlike_67 rfl (lv_at hl 1 rfl) ?_
    refine lv_iload_n C.1 C.2.1 dX11_countAlike_68 rfl (lv_at hl 2 rfl) ?_
    refine lv_iload C.1 C.2.1 dX11_countAlike_69 (lv_at hl 6 rfl) ?_
    obtain ⟨o_3, eo_3, hE⟩ := cl_e hE
    have m1 := moX11_page eo_3
    have m2 := moX11_countAlike_74 mk_6 hE
    refine x_kRA (o := o_3) hkl (z_runV (As := [.int x1, .int x5]) (rest := [.ref x2, .ref r_2]) C (ct_X11_page l X F k_x0 eo_3) cw_X11_321 hW hZ k_x0 (by decide) rfl rfl rfl hl.1 (Nat.le_of_ble_eq_true rfl) rfl dX11_countAlike_71 ⟨Nat.le_of_ble_eq_true rfl, Nat.le_of_ble_eq_true rfl⟩ (rm_ok hkl m1 m2)) hZ (fun _ _ hW km k_o_3_1 hZ => ?_)
    replace hkl := hkl.tr km
    replace k_x0 := km.at k_x0 (by decide)
    replace k_x2 := km.at k_x2 (by decide)
    replace k_r_2 := km.at k_r_2 (by decide)
    exact bX11_countAlike_74 C hk_6 mk_6 k_x0 k_x2 k_o_3_1 k_x2 k_r_2 hkl hW hZ _ (lv_sub hl [1, 2, 3, 4, 5, 6] rfl) hE
set_option maxRecDepth 20000 in
theorem bX11_countAlike_50 {p : Program} {l : Launch} {e : Env} {s : State} {m : MethodId} {args : Array Value} {below : List Frame} {meth : Method} {c : Code} {X : Ec} {h0 : Hp} {o : Int32 × Hp} {k_6 : Hp → Nat → Int32 → Nat → Int32 → Int32 → Int32 → Option (Int32 × Hp)} {F : Nat} (C : Cx X p s m args meth c RX11 cX11_countAlike 7 (some .int) "countAlike") (hk_6 : ∀ (h : Hp) (x0 : Nat) (x1 : Int32) (x2 : Nat) (x3 : Int32) (x4 : Int32) (x5 : Int32) (H : Heap) (locs : List Loc), hK h x0 = 11 → hK h x2 = 3 → Kl h0 h → Wx X h H → va_S (aA (eB X)) s.heap H locs → ∀ (ls : Array Slot), lv_has ls 7 [(0, .ref x0), (1, .int x1), (2, .ref x2), (3, .int x3), (4, .int x4), (5, .int x5)] → k_6 h x0 x1 x2 x3 x4 x5 = some o → W p l e (rmA 6 185 h0 o.2) s m args below meth c H locs (hS h - hS h0) (hL h - hL h0) (MQ below (QIA X h0 o.1 o.2) args s (hS o.2 - hS h0) (hL o.2 - hL h0) (aA (eB X))) (F0 m 6 ls [])) (mk_6 : ∀ (h : Hp) (x0 : Nat) (x1 : Int32) (x2 : Nat) (x3 : Int32) (x4 : Int32) (x5 : Int32), k_6 h x0 x1 x2 x3 x4 x5 = some o → Le h o.2) {h : Hp} {x0 : Nat} {x1 : Int32} {x2 : Nat} {x3 : Int32} {x4 : Int32} {x5 : Int32} {H : Heap} {locs : List Loc} (k_x0 : hK h x0 = 11) (k_x2 : hK h x2 = 3) (hkl : Kl h0 h) (hW : Wx X h H) (hZ : va_S (aA (eB X)) s.heap H locs) (ls : Array Slot) (hl : lv_has ls 7 [(0, .ref x0), (1, .int x1), (2, .ref x2), (3, .int x3), (4, .int x4), (5, .int x5)]) (hE : sX11_countAlike_50 F k_6 h x0 x1 x2 x3 x4 x5 = some o) : W p l e (rmA 6 185 h0 o.2) s m args below meth c H locs (hS h - hS h0) (hL h - hL h0) (MQ below (QIA X h0 o.1 o.2) args s (hS o.2 - hS h0) (hL o.2 - hL h0) (aA (eB X))) (F0 m 50 ls []) := by
  refine lv_iconst (v := (1 : Int32)) C.1 C.2.1 dX11_countAlike_50 (by decide) ?_
  refine lv_goto (tgt := 55) C.1 C.2.1 dX11_countAlike_51 (by decide) ?_
  exact bX11_countAlike_55 C hk_6 mk_6 k_x0 k_x2 hkl hW hZ _ (lv_sub hl [0, 1, 2, 3, 4, 5] rfl) hE
set_option maxRecDepth 20000 in
theorem bX11_countAlike_54 {p : Program} {l : Launch} {e : Env} {s : State} {m : MethodId} {args : Array Value} {below : List Frame} {meth : Method} {c : Code} {X : Ec} {h0 : Hp} {o : Int32 × Hp} {k_6 : Hp → Nat → Int32 → Nat → Int32 → Int32 → Int32 → Option (Int32 × Hp)} {F : Nat} (C : Cx X p s m args meth c RX11 cX11_countAlike 7 (some .int) "countAlike") (hk_6 : ∀ (h : Hp) (x0 : Nat) (x1 : Int32) (x2 : Nat) (x3 : Int32) (x4 : Int32) (x5 : Int32) (H : Heap) (locs : List Loc), hK h x0 = 11 → hK h x2 = 3 → Kl h0 h → Wx X h H → va_S (aA (eB X)) s.heap H locs → ∀ (ls : Array Slot), lv_has ls 7 [(0, .ref x0), (1, .int x1), (2, .ref x2), (3, .int x3), (4, .int x4), (5, .int x5)] → k_6 h x0 x1 x2 x3 x4 x5 = some o → W p l e (rmA 6 185 h0 o.2) s m args below meth c H locs (hS h - hS h0) (hL h - hL h0) (MQ below (QIA X h0 o.1 o.2) args s (hS o.2 - hS h0) (hL o.2 - hL h0) (aA (eB X))) (F0 m 6 ls [])) (mk_6 : ∀ (h : Hp) (x0 : Nat) (x1 : Int32) (x2 : Nat) (x3 : Int32) (x4 : Int32) (x5 : Int32), k_6 h x0 x1 x2 x3 x4 x5 = some o → Le h o.2) {h : Hp} {x0 : Nat} {x1 : Int32} {x2 : Nat} {x3 : Int32} {x4 : Int32} {x5 : Int32} {H : Heap} {locs : List Loc} (k_x0 : hK h x0 = 11) (k_x2 : hK h x2 = 3) (hkl : Kl h0 h) (hW : Wx X h H) (hZ : va_S (aA (eB X)) s.heap H locs) (ls : Array Slot) (hl : lv_has ls 7 [(0, .ref x0), (1, .int x1), (2, .ref x2), (3, .int x3), (4, .int x4), (5, .int x5)]) (hE : sX11_countAlike_54 F k_6 h x0 x1 x2 x3 x4 x5 = some o) : W p l e (rmA 6 185 h0 o.2) s m args below meth c H locs (hS h - hS h0) (hL h - hL h0) (MQ below (QIA X h0 o.1 o.2) args s (hS o.2 - hS h0) (hL o.2 - hL h0) (aA (eB X))) (F0 m 54 ls []) := by
  refine lv_iconst (v := (0 : Int32)) C.1 C.2.1 dX11_countAlike_54 (by decide) ?_
  exact bX11_countAlike_55 C hk_6 mk_6 k_x0 k_x2 hkl hW hZ _ (lv_sub hl [0, 1, 2, 3, 4, 5] rfl) hE
set_option maxRecDepth 20000 in
theorem bX11_countAlike_6 {p : Program} {l : Launch} {e : Env} {s : State} {m : MethodId} {args : Array Value} {below : List Frame} {meth : Method} {c : Code} {X : Ec} {h0 : Hp} {o : Int32 × Hp} {F : Nat} (C : Cx X p s m args meth c RX11 cX11_countAlike 7 (some .int) "countAlike") : ∀ (f : Nat) {h : Hp} {x0 : Nat} {x1 : Int32} {x2 : Nat} {x3 : Int32} {x4 : Int32} {x5 : Int32} {H : Heap} {locs : List Loc} (k_x0 : hK h x0 = 11) (k_x2 : hK h x2 = 3), Kl h0 h → Wx X h H → va_S (aA (eB X)) s.heap H locs → ∀ (ls : Array Slot), lv_has ls 7 [(0, .ref x0), (1, .int x1), (2, .ref x2), (3, .int x3), (4, .int x4), (5, .int x5)] → sX11_countAlike_6 F f h x0 x1 x2 x3 x4 x5 = some o → W p l e (rmA 6 185 h0 o.2) s m args below meth c H locs (hS h - hS h0) (hL h - hL h0) (MQ below (QIA X h0 o.1 o.2) args s (hS o.2 - hS h0) (hL o.2 - hL h0) (aA (eB X))) (F0 m 6 ls []) := by
  intro f
  induction f with
  | zero =>
    intro h x0 x1 x2 x3 x4 x5 H locs k_x0 k_x2 hkl hW hZ ls hl hE
    rw [sX11_countAlike_6] at hE
    cases hE
  | succ f ih =>
    intro h x0 x1 x2 x3 x4 x5 H locs k_x0 k_x2 hkl hW hZ ls hl hE
    rw [sX11_countAlike_6] at hE
    have mk_6 : ∀ (h : Hp) (x0 : Nat) (x1 : Int32) (x2 : Nat) (x3 : Int32) (x4 : Int32) (x5 : Int32), sX11_countAlike_6 F f h x0 x1 x2 x3 x4 x5 = some o → Le h o.2 := fun h x0 x1 x2 x3 x4 x5 hE => moX11_countAlike_6 _ hE
    have hk_6 : ∀ (h : Hp) (x0 : Nat) (x1 : Int32) (x2 : Nat) (x3 : Int32) (x4 : Int32) (x5 : Int32) (H : Heap) (locs : List Loc), hK h x0 = 11 → hK h x2 = 3 → Kl h0 h → Wx X h H → va_S (aA (eB X)) s.heap H locs → ∀ (ls : Array Slot), lv_has ls 7 [(0, .ref x0), (1, .int x1), (2, .ref x2), (3, .int x3), (4, .int x4), (5, .int x5)] → sX11_countAlike_6 F f h x0 x1 x2 x3 x4 x5 = some o → W p l e (rmA 6 185 h0 o.2) s m args below meth c H locs (hS h - hS h0) (hL h - hL h0) (MQ below (QIA X h0 o.1 o.2) args s (hS o.2 - hS h0) (hL o.2 - hL h0) (aA (eB X))) (F0 m 6 ls []) := fun h x0 x1 x2 x3 x4 x5 H locs k_x0 k_x2 a b c ls hl hE => ih k_x0 k_x2 a b c ls hl hE
    refine lv_iload C.1 C.2.1 dX11_countAlike_6 (lv_at hl 5 rfl) ?_
    refine lv_aload_n C.1 C.2.1 dX11_countAlike_8 rfl (lv_at hl 0 rfl) ?_
    obtain ⟨r_1, er_1, hE⟩ := cl_e hE
    refine gf_X11_117 C hW k_x0 er_1 dX11_countAlike_9 (fun k_r_1 => ?_)
    refine lv_iload_n C.1 C.2.1 dX11_countAlike_12 rfl (lv_at hl 1 rfl) ?_
    obtain ⟨g_2, hE⟩ := gd_e hE
    refine y_iald C hW k_r_1 g_2 dX11_countAlike_13 ?_
    refine lv_icmp_gt (tgt := 89) C.1 C.2.1 dX11_countAlike_14 (by decide) (fun c_3 => ?_) (fun c_3 => ?_)
    · have hE := br_p hE c_3
      refine lv_iload C.1 C.2.1 dX11_countAlike_89 (lv_at hl 4 rfl) ?_
      exact x_iretA C rfl rfl hW hZ hkl hE dX11_countAlike_91
    · have hE := br_n hE c_3
      refine lv_iload_n C.1 C.2.1 dX11_countAlike_17 rfl (lv_at hl 3 rfl) ?_
      refine lv_iconst (v := (-1 : Int32)) C.1 C.2.1 dX11_countAlike_18 (by decide) ?_
      refine lv_icmp_eq (tgt := 50) C.1 C.2.1 dX11_countAlike_19 (by decide) (fun c_4 => ?_) (fun c_4 => ?_)
      · have hE := br_p hE c_4
        exact bX11_countAlike_50 C hk_6 mk_6 k_x0 k_x2 hkl hW hZ _ (lv_sub hl [0, 1, 2, 3, 4, 5] rfl) hE
      · have hE := br_n hE c_4
        refine lv_iload C.1 C.2.1 dX11_countAlike_22 (lv_at hl 5 rfl) ?_
        refine lv_aload_n C.1 C.2.1 dX11_countAlike_24 rfl (lv_at hl 0 rfl) ?_
        obtain ⟨r_5, er_5, hE⟩ := cl_e hE
        refine gf_X11_117 C hW k_x0 er_5 dX11_countAlike_25 (fun k_r_5 => ?_)
        refine lv_iload_n C.1 C.2.1 dX11_countAlike_28 rfl (lv_at hl 1 rfl) ?_
        obtain ⟨g_6, hE⟩ := gd_e hE
        refine y_iald C hW k_r_5 g_6 dX11_countAlike_29 ?_
        refine lv_icmp_ge (tgt := 54) C.1 C.2.1 dX11_countAlike_30 (by decide) (fun c_7 => ?_) (fun c_7 => ?_)
        · have hE := br_p hE c_7
          exact bX11_countAlike_54 C hk_6 mk_6 k_x0 k_x2 hkl hW hZ _ (lv_sub hl [0, 1, 2, 3, 4, 5] rfl) hE
        · have hE := br_n hE c_7
          refine lv_aload_n C.1 C.2.1 dX11_countAlike_33 rfl (lv_at hl 0 rfl) ?_
          obtain ⟨r_8, er_8, hE⟩ := cl_e hE
          refine gf_X11_114 C hW k_x0 er_8 dX11_countAlike_34 (fun k_r_8 => ?_)
          refine lv_iload_n C.1 C.2.1 dX11_countAlike_37 rfl (lv_at hl 1 rfl) ?_
          refine lv_sipush (v := (301 : Int32)) C.1 C.2.1 dX11_countAlike_38 (by decide) ?_
          refine lv_imul C.1 C.2.1 dX11_countAlike_41 ?_
          refine lv_iload C.1 C.2.1 dX11_countAlike_42 (lv_at hl 5 rfl) ?_
          refine lv_iadd C.1 C.2.1 dX11_countAlike_44 ?_
          obtain ⟨g_9, hE⟩ := gd_e hE
          refine y_iald C hW k_r_8 g_9 dX11_countAlike_45 ?_
          refine lv_iload_n C.1 C.2.1 dX11_countAlike_46 rfl (lv_at hl 3 rfl) ?_
          refine lv_icmp_ne (tgt := 54) C.1 C.2.1 dX11_countAlike_47 (by decide) (fun c_10 => ?_) (fun c_10 => ?_)
          · have hE := br_n hE c_10
            exact bX11_countAlike_54 C hk_6 mk_6 k_x0 k_x2 hkl hW hZ _ (lv_sub hl [0, 1, 2, 3, 4, 5] rfl) hE
          · have hE := br_p hE c_10
            exact bX11_countAlike_50 C hk_6 mk_6 k_x0 k_x2 hkl hW hZ _ (lv_sub hl [0, 1, 2, 3, 4, 5] rfl) hE
set_option maxRecDepth 20000 in
theorem ct_X11_countAlike (l : Launch) (X : Ec) (F : Nat) {h : Hp} {x0 : Nat} {x1 : Int32} {x2 : Nat} {x3 : Int32} {o : Int32 × Hp} (k_x0 : hK h x0 = 11) (k_x2 : hK h x2 = 3) (hE : sX11_countAlike F h x0 x1 x2 x3 = some o) : MetIA l yX11_countAlike cX11_countAlike 7 (some .int) 6 185 X [.ref x0, .int x1, .ref x2, .int x3] h o := by
  refine x_metA (oh := o.2) (by decide) (Nat.le_of_ble_eq_true rfl) ?_
  intro p e s m below meth c ls C hl hW hZ
  have hl : lv_has ls 7 [(0, .ref x0), (1, .int x1), (2, .ref x2), (3, .int x3)] := hl
  have hkl : Kl h h := Kl.rf h
  refine lv_iconst (v := (0 : Int32)) C.1 C.2.1 dX11_countAlike_0 (by decide) ?_
  refine lv_istore (lv' := [(4, .int (0 : Int32)), (0, .ref x0), (1, .int x1), (2, .ref x2), (3, .int x3)]) C.1 C.2.1 dX11_countAlike_1 hl (by decide) rfl (fun ls hl => ?_)
  refine lv_iconst (v := (0 : Int32)) C.1 C.2.1 dX11_countAlike_3 (by decide) ?_
  refine lv_istore (lv' := [(5, .int (0 : Int32)), (4, .int (0 : Int32)), (0, .ref x0), (1, .int x1), (2, .ref x2), (3, .int x3)]) C.1 C.2.1 dX11_countAlike_4 hl (by decide) rfl (fun ls hl => ?_)
  exact bX11_countAlike_6 C F k_x0 k_x2 hkl hW hZ _ (lv_sub hl [2, 3, 4, 5, 1, 0] rfl) hE
set_option maxRecDepth 100000 in
theorem ms_80 : Cond.selects RX11 yX11_countAlike yX11_countAlike ∈ W0 := w0_in (List.mem_append_left _ (List.mem_of_getElem? (i := 80) rfl)) rfl
set_option maxRecDepth 100000 in
theorem m_1483 : Cond.methodLink RX11 333 yX11_countAlike ∈ W0 := w0_in (List.mem_append_right _ (List.mem_of_getElem? (i := 1483) rfl)) rfl
set_option maxRecDepth 100000 in
theorem m_1485 : Cond.instanceMethod yX11_countAlike ∈ W0 := w0_in (List.mem_append_right _ (List.mem_of_getElem? (i := 1485) rfl)) rfl
set_option maxRecDepth 100000 in
theorem m_1486 : Cond.code yX11_countAlike cX11_countAlike 7 (some .int) ∈ W0 := w0_in (List.mem_append_right _ (List.mem_of_getElem? (i := 1486) rfl)) rfl
theorem cw_X11_333 : cwd RX11 333 yX11_countAlike cX11_countAlike 7 (some .int) false 3 := ⟨m_1486, m_1483, m_1, ⟨m_1485, ms_80⟩, by decide, by decide, by decide +kernel⟩
theorem dX11_game_0 : decode cX11_game 0 = .ok (.iload_n 1, 1) := by decide +kernel
theorem dX11_game_1 : decode cX11_game 1 = .ok (.invokestatic 318, 3) := by decide +kernel
theorem dX11_game_4 : decode cX11_game 4 = .ok (.ifCond .eq 12, 3) := by decide +kernel
theorem dX11_game_7 : decode cX11_game 7 = .ok (.iload_n 2, 1) := by decide +kernel
theorem dX11_game_8 : decode cX11_game 8 = .ok (.ifCond .lt 8, 3) := by decide +kernel
theorem dX11_game_11 : decode cX11_game 11 = .ok (.iload_n 2, 1) := by decide +kernel
theorem dX11_game_12 : decode cX11_game 12 = .ok (.iconst 3, 1) := by decide +kernel
theorem dX11_game_13 : decode cX11_game 13 = .ok (.if_icmp .le 6, 3) := by decide +kernel
theorem dX11_game_16 : decode cX11_game 16 = .ok (.bipush (-101), 2) := by decide +kernel
theorem dX11_game_18 : decode cX11_game 18 = .ok (.ireturn, 1) := by decide +kernel
theorem dX11_game_19 : decode cX11_game 19 = .ok (.aload_n 0, 1) := by decide +kernel
theorem dX11_game_20 : decode cX11_game 20 = .ok (.getfield 117, 3) := by decide +kernel
theorem dX11_game_23 : decode cX11_game 23 = .ok (.iload_n 1, 1) := by decide +kernel
theorem dX11_game_24 : decode cX11_game 24 = .ok (.iaload, 1) := by decide +kernel
theorem dX11_game_25 : decode cX11_game 25 = .ok (.istore_n 3, 1) := by decide +kernel
theorem dX11_game_26 : decode cX11_game 26 = .ok (.iload_n 3, 1) := by decide +kernel
theorem dX11_game_27 : decode cX11_game 27 = .ok (.iconst (-1), 1) := by decide +kernel
theorem dX11_game_28 : decode cX11_game 28 = .ok (.if_icmp .ne 6, 3) := by decide +kernel
theorem dX11_game_31 : decode cX11_game 31 = .ok (.bipush (-102), 2) := by decide +kernel
theorem dX11_game_33 : decode cX11_game 33 = .ok (.ireturn, 1) := by decide +kernel
theorem dX11_game_34 : decode cX11_game 34 = .ok (.aload_n 0, 1) := by decide +kernel
theorem dX11_game_35 : decode cX11_game 35 = .ok (.iload_n 1, 1) := by decide +kernel
theorem dX11_game_36 : decode cX11_game 36 = .ok (.iload_n 3, 1) := by decide +kernel
theorem dX11_game_37 : decode cX11_game 37 = .ok (.invokevirtual 321, 3) := by decide +kernel
theorem dX11_game_40 : decode cX11_game 40 = .ok (.astore 4, 2) := by decide +kernel
theorem dX11_game_42 : decode cX11_game 42 = .ok (.iload_n 2, 1) := by decide +kernel
theorem dX11_game_43 : decode cX11_game 43 = .ok (.tableswitch 64 0 2 #[25, 27, 36], 25) := by decide +kernel
theorem dX11_game_68 : decode cX11_game 68 = .ok (.iload_n 3, 1) := by decide +kernel
theorem dX11_game_69 : decode cX11_game 69 = .ok (.ireturn, 1) := by decide +kernel
theorem dX11_game_70 : decode cX11_game 70 = .ok (.aload_n 0, 1) := by decide +kernel
theorem dX11_game_71 : decode cX11_game 71 = .ok (.iload_n 1, 1) := by decide +kernel
theorem dX11_game_72 : decode cX11_game 72 = .ok (.aload 4, 2) := by decide +kernel
theorem dX11_game_74 : decode cX11_game 74 = .ok (.iconst (-1), 1) := by decide +kernel
theorem dX11_game_75 : decode cX11_game 75 = .ok (.invokevirtual 333, 3) := by decide +kernel
theorem dX11_game_78 : decode cX11_game 78 = .ok (.ireturn, 1) := by decide +kernel
theorem dX11_game_79 : decode cX11_game 79 = .ok (.aload 4, 2) := by decide +kernel
theorem dX11_game_81 : decode cX11_game 81 = .ok (.getfield 218, 3) := by decide +kernel
theorem dX11_game_84 : decode cX11_game 84 = .ok (.bipush 100, 2) := by decide +kernel
theorem dX11_game_86 : decode cX11_game 86 = .ok (.if_icmp .ge 15, 3) := by decide +kernel
theorem dX11_game_89 : decode cX11_game 89 = .ok (.aload_n 0, 1) := by decide +kernel
theorem dX11_game_90 : decode cX11_game 90 = .ok (.iload_n 1, 1) := by decide +kernel
theorem dX11_game_91 : decode cX11_game 91 = .ok (.aload 4, 2) := by decide +kernel
theorem dX11_game_93 : decode cX11_game 93 = .ok (.iconst (-1), 1) := by decide +kernel
theorem dX11_game_94 : decode cX11_game 94 = .ok (.invokevirtual 333, 3) := by decide +kernel
theorem dX11_game_97 : decode cX11_game 97 = .ok (.iconst 3, 1) := by decide +kernel
theorem dX11_game_98 : decode cX11_game 98 = .ok (.if_icmp .lt 7, 3) := by decide +kernel
theorem dX11_game_101 : decode cX11_game 101 = .ok (.iconst 1, 1) := by decide +kernel
theorem dX11_game_102 : decode cX11_game 102 = .ok (.goto 4, 3) := by decide +kernel
theorem dX11_game_105 : decode cX11_game 105 = .ok (.iconst 0, 1) := by decide +kernel
theorem dX11_game_106 : decode cX11_game 106 = .ok (.ireturn, 1) := by decide +kernel
theorem dX11_game_107 : decode cX11_game 107 = .ok (.aload_n 0, 1) := by decide +kernel
theorem dX11_game_108 : decode cX11_game 108 = .ok (.getfield 50, 3) := by decide +kernel
theorem dX11_game_111 : decode cX11_game 111 = .ok (.aload 4, 2) := by decide +kernel
theorem dX11_game_113 : decode cX11_game 113 = .ok (.invokevirtual 293, 3) := by decide +kernel
theorem dX11_game_116 : decode cX11_game 116 = .ok (.ireturn, 1) := by decide +kernel
set_option maxRecDepth 20000 in
theorem moX11_game_16 {o : Int32 × Hp} {F : Nat} {h : Hp} (hE : sX11_game_16 F h  = some o) : Le h o.2 := by
  exact le_some2 hE
set_option maxRecDepth 20000 in
theorem moX11_game_116 {o : Int32 × Hp} {F : Nat} {h : Hp} {t0 : Int32} (hE : sX11_game_116 F h  t0 = some o) : Le h o.2 := by
  exact le_some2 hE
set_option maxRecDepth 20000 in
theorem moX11_game_78 {o : Int32 × Hp} {F : Nat} {h : Hp} {t0 : Int32} (hE : sX11_game_78 F h  t0 = some o) : Le h o.2 := by
  exact le_some2 hE
set_option maxRecDepth 20000 in
theorem moX11_game_106 {o : Int32 × Hp} {F : Nat} {h : Hp} {t0 : Int32} (hE : sX11_game_106 F h  t0 = some o) : Le h o.2 := by
  exact le_some2 hE
set_option maxRecDepth 20000 in
theorem moX11_game_101 {o : Int32 × Hp} {F : Nat} {h : Hp} (hE : sX11_game_101 F h  = some o) : Le h o.2 := by
  exact moX11_game_106 hE
set_option maxRecDepth 20000 in
theorem moX11_game_97 {o : Int32 × Hp} {F : Nat} {h : Hp} {t0 : Int32} (hE : sX11_game_97 F h  t0 = some o) : Le h o.2 := by
  rcases br_e hE with ⟨_, hE⟩ | ⟨_, hE⟩
  · exact moX11_game_106 hE
  · exact moX11_game_101 hE
set_option maxRecDepth 20000 in
theorem moX11_game_40 {o : Int32 × Hp} {F : Nat} {h : Hp} {x0 : Nat} {x1 : Int32} {x2 : Int32} {x3 : Int32} {t0 : Nat} (hE : sX11_game_40 F h x0 x1 x2 x3 t0 = some o) : Le h o.2 := by
  rcases br_e hE with ⟨_, hE⟩ | ⟨_, hE⟩
  · exact le_some2 hE
  rcases br_e hE with ⟨_, hE⟩ | ⟨_, hE⟩
  · obtain ⟨o_2, eo_2, hE⟩ := cl_e hE
    refine (moX11_countAlike eo_2).tr ?_
    exact moX11_game_78 hE
  rcases br_e hE with ⟨_, hE⟩ | ⟨_, hE⟩
  · rcases br_e hE with ⟨_, hE⟩ | ⟨_, hE⟩
    · exact moX11_game_101 hE
    · obtain ⟨o_5, eo_5, hE⟩ := cl_e hE
      refine (moX11_countAlike eo_5).tr ?_
      exact moX11_game_97 hE
  obtain ⟨r_7, er_7, hE⟩ := cl_e hE
  obtain ⟨o_8, eo_8, hE⟩ := cl_e hE
  refine (moX5_endOf eo_8).tr ?_
  exact moX11_game_116 hE
set_option maxRecDepth 20000 in
theorem moX11_game_4 {o : Int32 × Hp} {F : Nat} {h : Hp} {x0 : Nat} {x1 : Int32} {x2 : Int32} {t0 : Int32} (hE : sX11_game_4 F h x0 x1 x2 t0 = some o) : Le h o.2 := by
  rcases br_e hE with ⟨_, hE⟩ | ⟨_, hE⟩
  · exact moX11_game_16 hE
  · rcases br_e hE with ⟨_, hE⟩ | ⟨_, hE⟩
    · exact moX11_game_16 hE
    · rcases br_e hE with ⟨_, hE⟩ | ⟨_, hE⟩
      · obtain ⟨r_4, er_4, hE⟩ := cl_e hE
        obtain ⟨g_5, hE⟩ := gd_e hE
        obtain ⟨v_6, ev_6, hE⟩ := nm_e2 hE
        rcases br_e hE with ⟨_, hE⟩ | ⟨_, hE⟩
        · exact le_some2 hE
        · obtain ⟨o_8, eo_8, hE⟩ := cl_e hE
          refine (moX11_page eo_8).tr ?_
          exact moX11_game_40 hE
      · exact moX11_game_16 hE
set_option maxRecDepth 20000 in
theorem moX11_game {o : Int32 × Hp} {F : Nat} {h : Hp} {x0 : Nat} {x1 : Int32} {x2 : Int32} (hE : sX11_game F h x0 x1 x2 = some o) : Le h o.2 := by
  obtain ⟨o_1, eo_1, hE⟩ := cl_e hE
  refine (moX11_isGame eo_1).tr ?_
  exact moX11_game_4 hE
set_option maxRecDepth 20000 in
theorem bX11_game_16 {p : Program} {l : Launch} {e : Env} {s : State} {m : MethodId} {args : Array Value} {below : List Frame} {meth : Method} {c : Code} {X : Ec} {h0 : Hp} {o : Int32 × Hp} {F : Nat} (C : Cx X p s m args meth c RX11 cX11_game 5 (some .int) "game") {h : Hp} {H : Heap} {locs : List Loc} (hkl : Kl h0 h) (hW : Wx X h H) (hZ : va_S (aA (eB X)) s.heap H locs) (ls : Array Slot) (hl : lv_has ls 5 []) (hE : sX11_game_16 F h  = some o) : W p l e (rmA 7 211 h0 o.2) s m args below meth c H locs (hS h - hS h0) (hL h - hL h0) (MQ below (QIA X h0 o.1 o.2) args s (hS o.2 - hS h0) (hL o.2 - hL h0) (aA (eB X))) (F0 m 16 ls []) := by
  refine lv_bipush (v := (-101 : Int32)) C.1 C.2.1 dX11_game_16 (by decide) ?_
  exact x_iretA C rfl rfl hW hZ hkl hE dX11_game_18
set_option maxRecDepth 20000 in
theorem bX11_game_116 {p : Program} {l : Launch} {e : Env} {s : State} {m : MethodId} {args : Array Value} {below : List Frame} {meth : Method} {c : Code} {X : Ec} {h0 : Hp} {o : Int32 × Hp} {F : Nat} (C : Cx X p s m args meth c RX11 cX11_game 5 (some .int) "game") {h : Hp} {t0 : Int32} {H : Heap} {locs : List Loc} (hkl : Kl h0 h) (hW : Wx X h H) (hZ : va_S (aA (eB X)) s.heap H locs) (ls : Array Slot) (hl : lv_has ls 5 []) (hE : sX11_game_116 F h  t0 = some o) : W p l e (rmA 7 211 h0 o.2) s m args below meth c H locs (hS h - hS h0) (hL h - hL h0) (MQ below (QIA X h0 o.1 o.2) args s (hS o.2 - hS h0) (hL o.2 - hL h0) (aA (eB X))) (F0 m 116 ls [.int t0]) := by
  exact x_iretA C rfl rfl hW hZ hkl hE dX11_game_116
set_option maxRecDepth 20000 in
theorem bX11_game_78 {p : Program} {l : Launch} {e : Env} {s : State} {m : MethodId} {args : Array Value} {below : List Frame} {meth : Method} {c : Code} {X : Ec} {h0 : Hp} {o : Int32 × Hp} {F : Nat} (C : Cx X p s m args meth c RX11 cX11_game 5 (some .int) "game") {h : Hp} {t0 : Int32} {H : Heap} {locs : List Loc} (hkl : Kl h0 h) (hW : Wx X h H) (hZ : va_S (aA (eB X)) s.heap H locs) (ls : Array Slot) (hl : lv_has ls 5 []) (hE : sX11_game_78 F h  t0 = some o) : W p l e (rmA 7 211 h0 o.2) s m args below meth c H locs (hS h - hS h0) (hL h - hL h0) (MQ below (QIA X h0 o.1 o.2) args s (hS o.2 - hS h0) (hL o.2 - hL h0) (aA (eB X))) (F0 m 78 ls [.int t0]) := by
  exact x_iretA C rfl rfl hW hZ hkl hE dX11_game_78
set_option maxRecDepth 20000 in
theorem bX11_game_106 {p : Program} {l : Launch} {e : Env} {s : State} {m : MethodId} {args : Array Value} {below : List Frame} {meth : Method} {c : Code} {X : Ec} {h0 : Hp} {o : Int32 × Hp} {F : Nat} (C : Cx X p s m args meth c RX11 cX11_game 5 (some .int) "game") {h : Hp} {t0 : Int32} {H : Heap} {locs : List Loc} (hkl : Kl h0 h) (hW : Wx X h H) (hZ : va_S (aA (eB X)) s.heap H locs) (ls : Array Slot) (hl : lv_has ls 5 []) (hE : sX11_game_106 F h  t0 = some o) : W p l e (rmA 7 211 h0 o.2) s m args below meth c H locs (hS h - hS h0) (hL h - hL h0) (MQ below (QIA X h0 o.1 o.2) args s (hS o.2 - hS h0) (hL o.2 - hL h0) (aA (eB X))) (F0 m 106 ls [.int t0]) := by
  exact x_iretA C rfl rfl hW hZ hkl hE dX11_game_106
set_option maxRecDepth 20000 in
theorem bX11_game_101 {p : Program} {l : Launch} {e : Env} {s : State} {m : MethodId} {args : Array Value} {below : List Frame} {meth : Method} {c : Code} {X : Ec} {h0 : Hp} {o : Int32 × Hp} {F : Nat} (C : Cx X p s m args meth c RX11 cX11_game 5 (some .int) "game") {h : Hp} {H : Heap} {locs : List Loc} (hkl : Kl h0 h) (hW : Wx X h H) (hZ : va_S (aA (eB X)) s.heap H locs) (ls : Array Slot) (hl : lv_has ls 5 []) (hE : sX11_game_101 F h  = some o) : W p l e (rmA 7 211 h0 o.2) s m args below meth c H locs (hS h - hS h0) (hL h - hL h0) (MQ below (QIA X h0 o.1 o.2) args s (hS o.2 - hS h0) (hL o.2 - hL h0) (aA (eB X))) (F0 m 101 ls []) := by
  refine lv_iconst (v := (1 : Int32)) C.1 C.2.1 dX11_game_101 (by decide) ?_
  refine lv_goto (tgt := 106) C.1 C.2.1 dX11_game_102 (by decide) ?_
  exact bX11_game_106 C hkl hW hZ _ (lv_sub hl [] rfl) hE
set_option maxRecDepth 20000 in
theorem bX11_game_97 {p : Program} {l : Launch} {e : Env} {s : State} {m : MethodId} {args : Array Value} {below : List Frame} {meth : Method} {c : Code} {X : Ec} {h0 : Hp} {o : Int32 × Hp} {F : Nat} (C : Cx X p s m args meth c RX11 cX11_game 5 (some .int) "game") {h : Hp} {t0 : Int32} {H : Heap} {locs : List Loc} (hkl : Kl h0 h) (hW : Wx X h H) (hZ : va_S (aA (eB X)) s.heap H locs) (ls : Array Slot) (hl : lv_has ls 5 []) (hE : sX11_game_97 F h  t0 = some o) : W p l e (rmA 7 211 h0 o.2) s m args below meth c H locs (hS h - hS h0) (hL h - hL h0) (MQ below (QIA X h0 o.1 o.2) args s (hS o.2 - hS h0) (hL o.2 - hL h0) (aA (eB X))) (F0 m 97 ls [.int t0]) := by
  refine lv_iconst (v := (3 : Int32)) C.1 C.2.1 dX11_game_97 (by decide) ?_
  refine lv_icmp_lt (tgt := 105) C.1 C.2.1 dX11_game_98 (by decide) (fun c_1 => ?_) (fun c_1 => ?_)
  · have hE := br_p hE c_1
    refine lv_iconst (v := (0 : Int32)) C.1 C.2.1 dX11_game_105 (by decide) ?_
    exact bX11_game_106 C hkl hW hZ _ (lv_sub hl [] rfl) hE
  · have hE := br_n hE c_1
    exact bX11_game_101 C hkl hW hZ _ (lv_sub hl [] rfl) hE
set_option maxRecDepth 20000 in
theorem bX11_game_40 {p : Program} {l : Launch} {e : Env} {s : State} {m : MethodId} {args : Array Value} {below : List Frame} {meth : Method} {c : Code} {X : Ec} {h0 : Hp} {o : Int32 × Hp} {F : Nat} (C : Cx X p s m args meth c RX11 cX11_game 5 (some .int) "game") {h : Hp} {x0 : Nat} {x1 : Int32} {x2 : Int32} {x3 : Int32} {t0 : Nat} {H : Heap} {locs : List Loc} (k_x0 : hK h x0 = 11) (k_t0 : hK h t0 = 3) (hkl : Kl h0 h) (hW : Wx X h H) (hZ : va_S (aA (eB X)) s.heap H locs) (ls : Array Slot) (hl : lv_has ls 5 [(0, .ref x0), (1, .int x1), (2, .int x2), (3, .int x3)]) (hE : sX11_game_40 F h x0 x1 x2 x3 t0 = some o) : W p l e (rmA 7 211 h0 o.2) s m args below meth c H locs (hS h - hS h0) (hL h - hL h0) (MQ below (QIA X h0 o.1 o.2) args s (hS o.2 - hS h0) (hL o.2 - hL h0) (aA (eB X))) (F0 m 40 ls [.ref t0]) := by
  refine lv_astore (lv' := [(4, .ref t0), (0, .ref x0), (1, .int x1), (2, .int x2), (3, .int x3)]) C.1 C.2.1 dX11_game_40 hl (by decide) rfl (fun ls hl => ?_)
  refine lv_iload_n C.1 C.2.1 dX11_game_42 rfl (lv_at hl 3 rfl) ?_
  by_cases c_1 : x2 = (0 : Int32)
  · have hE := br_p hE c_1
    refine lv_tableIn (off := 25) (tgt := 68) C.1 C.2.1 dX11_game_43 (by rw [c_1]; decide) (by rw [c_1]; decide) (by rw [c_1]; rfl) (by decide) ?_
    refine lv_iload_n C.1 C.2.1 dX11_game_68 rfl (lv_at hl 4 rfl) ?_
    exact x_iretA C rfl rfl hW hZ hkl hE dX11_game_69
  have hE := br_n hE c_1
  by_cases c_3 : x2 = (1 : Int32)
  · have hE := br_p hE c_3
    refine lv_tableIn (off := 27) (tgt := 70) C.1 C.2.1 dX11_game_43 (by rw [c_3]; decide) (by rw [c_3]; decide) (by rw [c_3]; rfl) (by decide) ?_
    refine lv_aload_n C.1 C.2.1 dX11_game_70 rfl (lv_at hl 1 rfl) ?_
    refine lv_iload_n C.1 C.2.1 dX11_game_71 rfl (lv_at hl 2 rfl) ?_
    refine lv_aload C.1 C.2.1 dX11_game_72 (lv_at hl 0 rfl) ?_
    refine lv_iconst (v := (-1 : Int32)) C.1 C.2.1 dX11_game_74 (by decide) ?_
    obtain ⟨o_2, eo_2, hE⟩ := cl_e hE
    have m1 := moX11_countAlike eo_2
    have m2 := moX11_game_78 hE
    refine x_kIA (o := o_2) hkl (z_runV (As := [.int x1, .ref t0, .int (-1 : Int32)]) (rest := []) C (ct_X11_countAlike l X F k_x0 k_t0 eo_2) cw_X11_333 hW hZ k_x0 (by decide) rfl rfl rfl hl.1 (Nat.le_of_ble_eq_true rfl) rfl dX11_game_75 ⟨Nat.le_of_ble_eq_true rfl, Nat.le_of_ble_eq_true rfl⟩ (rm_ok hkl m1 m2)) hZ (fun _ _ hW km hZ => ?_)
    replace hkl := hkl.tr km
    replace k_t0 := km.at k_t0 (by decide)
    replace k_x0 := km.at k_x0 (by decide)
    exact bX11_game_78 C hkl hW hZ _ (lv_sub hl [] rfl) hE
  have hE := br_n hE c_3
  by_cases c_6 : x2 = (2 : Int32)
  · have hE := br_p hE c_6
    refine lv_tableIn (off := 36) (tgt := 79) C.1 C.2.1 dX11_game_43 (by rw [c_6]; decide) (by rw [c_6]; decide) (by rw [c_6]; rfl) (by decide) ?_
    refine lv_aload C.1 C.2.1 dX11_game_79 (lv_at hl 0 rfl) ?_
    refine gf_X11_218 C hW k_t0 dX11_game_81 ?_
    refine lv_bipush (v := (100 : Int32)) C.1 C.2.1 dX11_game_84 (by decide) ?_
    refine lv_icmp_ge (tgt := 101) C.1 C.2.1 dX11_game_86 (by decide) (fun c_4 => ?_) (fun c_4 => ?_)
    · have hE := br_p hE c_4
      exact bX11_game_101 C hkl hW hZ _ (lv_sub hl [] rfl) hE
    · have hE := br_n hE c_4
      refine lv_aload_n C.1 C.2.1 dX11_game_89 rfl (lv_at hl 1 rfl) ?_
      refine lv_iload_n C.1 C.2.1 dX11_game_90 rfl (lv_at hl 2 rfl) ?_
      refine lv_aload C.1 C.2.1 dX11_game_91 (lv_at hl 0 rfl) ?_
      refine lv_iconst (v := (-1 : Int32)) C.1 C.2.1 dX11_game_93 (by decide) ?_
      obtain ⟨o_5, eo_5, hE⟩ := cl_e hE
      have m1 := moX11_countAlike eo_5
      have m2 := moX11_game_97 hE
      refine x_kIA (o := o_5) hkl (z_runV (As := [.int x1, .ref t0, .int (-1 : Int32)]) (rest := []) C (ct_X11_countAlike l X F k_x0 k_t0 eo_5) cw_X11_333 hW hZ k_x0 (by decide) rfl rfl rfl hl.1 (Nat.le_of_ble_eq_true rfl) rfl dX11_game_94 ⟨Nat.le_of_ble_eq_true rfl, Nat.le_of_ble_eq_true rfl⟩ (rm_ok hkl m1 m2)) hZ (fun _ _ hW km hZ => ?_)
      replace hkl := hkl.tr km
      replace k_t0 := km.at k_t0 (by decide)
      replace k_x0 := km.at k_x0 (by decide)
      exact bX11_game_97 C hkl hW hZ _ (lv_sub hl [] rfl) hE
  have hE := br_n hE c_6
  refine lv_tableOut (tgt := 107) C.1 C.2.1 dX11_game_43 (by have zc_1 := lv_neT (a := 0) c_1 (by decide); have zc_3 := lv_neT (a := 1) c_3 (by decide); have zc_6 := lv_neT (a := 2) c_6 (by decide); omega) (by decide) ?_
  refine lv_aload_n C.1 C.2.1 dX11_game_107 rfl (lv_at hl 1 rfl) ?_
  obtain ⟨r_7, er_7, hE⟩ := cl_e hE
  refine gf_X11_50 C hW k_x0 er_7 dX11_game_108 (fun k_r_7 => ?_)
  refine lv_aload C.1 C.2.1 dX11_game_111 (lv_at hl 0 rfl) ?_
  obtain ⟨o_8, eo_8, hE⟩ := cl_e hE
  have m1 := moX5_endOf eo_8
  have m2 := moX11_game_116 hE
  refine x_kI (o := o_8) (z_runV (As := [.ref t0]) (rest := []) C (ct_X5_endOf l X F k_r_7 k_t0 eo_8) cw_X11_293 hW hZ k_r_7 (by decide) rfl rfl rfl hl.1 (Nat.le_of_ble_eq_true rfl) rfl dX11_game_113 ⟨Nat.le_of_ble_eq_true rfl, Nat.le_of_ble_eq_true rfl⟩ (rm_ok0 hkl m1 m2)) hZ (fun _ _ hW km hZ => ?_)
  replace hkl := hkl.tr km.l
  refine x_wc km ?_
  replace k_t0 := km.at k_t0 (by decide)
  replace k_x0 := km.at k_x0 (by decide)
  exact bX11_game_116 C hkl hW hZ _ (lv_sub hl [] rfl) hE
set_option maxRecDepth 20000 in
theorem bX11_game_4 {p : Program} {l : Launch} {e : Env} {s : State} {m : MethodId} {args : Array Value} {below : List Frame} {meth : Method} {c : Code} {X : Ec} {h0 : Hp} {o : Int32 × Hp} {F : Nat} (C : Cx X p s m args meth c RX11 cX11_game 5 (some .int) "game") {h : Hp} {x0 : Nat} {x1 : Int32} {x2 : Int32} {t0 : Int32} {H : Heap} {locs : List Loc} (k_x0 : hK h x0 = 11) (hkl : Kl h0 h) (hW : Wx X h H) (hZ : va_S (aA (eB X)) s.heap H locs) (ls : Array Slot) (hl : lv_has ls 5 [(0, .ref x0), (1, .int x1), (2, .int x2)]) (hE : sX11_game_4 F h x0 x1 x2 t0 = some o) : W p l e (rmA 7 211 h0 o.2) s m args below meth c H locs (hS h - hS h0) (hL h - hL h0) (MQ below (QIA X h0 o.1 o.2) args s (hS o.2 - hS h0) (hL o.2 - hL h0) (aA (eB X))) (F0 m 4 ls [.int t0]) := by
  refine lv_if_eq (tgt := 16) C.1 C.2.1 dX11_game_4 (by decide) (fun c_1 => ?_) (fun c_1 => ?_)
  · have hE := br_p hE c_1
    exact bX11_game_16 C hkl hW hZ _ (lv_sub hl [] rfl) hE
  · have hE := br_n hE c_1
    refine lv_iload_n C.1 C.2.1 dX11_game_7 rfl (lv_at hl 2 rfl) ?_
    refine lv_if_lt (tgt := 16) C.1 C.2.1 dX11_game_8 (by decide) (fun c_2 => ?_) (fun c_2 => ?_)
    · have hE := br_p hE c_2
      exact bX11_game_16 C hkl hW hZ _ (lv_sub hl [] rfl) hE
    · have hE := br_n hE c_2
      refine lv_iload_n C.1 C.2.1 dX11_game_11 rfl (lv_at hl 2 rfl) ?_
      refine lv_iconst (v := (3 : Int32)) C.1 C.2.1 dX11_game_12 (by decide) ?_
      refine lv_icmp_le (tgt := 19) C.1 C.2.1 dX11_game_13 (by decide) (fun c_3 => ?_) (fun c_3 => ?_)
      · have hE := br_p hE c_3
        refine lv_aload_n C.1 C.2.1 dX11_game_19 rfl (lv_at hl 0 rfl) ?_
        obtain ⟨r_4, er_4, hE⟩ := cl_e hE
        refine gf_X11_117 C hW k_x0 er_4 dX11_game_20 (fun k_r_4 => ?_)
        refine lv_iload_n C.1 C.2.1 dX11_game_23 rfl (lv_at hl 1 rfl) ?_
        obtain ⟨g_5, hE⟩ := gd_e hE
        refine y_iald C hW k_r_4 g_5 dX11_game_24 ?_
        obtain ⟨v_6, ev_6, hE⟩ := nm_e2 hE
        refine x_nmI ev_6 ?_
        refine lv_istore_n (lv' := [(3, .int v_6), (0, .ref x0), (1, .int x1), (2, .int x2)]) C.1 C.2.1 dX11_game_25 rfl hl (by decide) rfl (fun ls hl => ?_)
        refine lv_iload_n C.1 C.2.1 dX11_game_26 rfl (lv_at hl 0 rfl) ?_
        refine lv_iconst (v := (-1 : Int32)) C.1 C.2.1 dX11_game_27 (by decide) ?_
        refine lv_icmp_ne (tgt := 34) C.1 C.2.1 dX11_game_28 (by decide) (fun c_7 => ?_) (fun c_7 => ?_)
        · have hE := br_n hE c_7
          refine lv_aload_n C.1 C.2.1 dX11_game_34 rfl (lv_at hl 1 rfl) ?_
          refine lv_iload_n C.1 C.2.1 dX11_game_35 rfl (lv_at hl 2 rfl) ?_
          refine lv_iload_n C.1 C.2.1 dX11_game_36 rfl (lv_at hl 0 rfl) ?_
          obtain ⟨o_8, eo_8, hE⟩ := cl_e hE
          have m1 := moX11_page eo_8
          have m2 := moX11_game_40 hE
          refine x_kRA (o := o_8) hkl (z_runV (As := [.int x1, .int v_6]) (rest := []) C (ct_X11_page l X F k_x0 eo_8) cw_X11_321 hW hZ k_x0 (by decide) rfl rfl rfl hl.1 (Nat.le_of_ble_eq_true rfl) rfl dX11_game_37 ⟨Nat.le_of_ble_eq_true rfl, Nat.le_of_ble_eq_true rfl⟩ (rm_ok hkl m1 m2)) hZ (fun _ _ hW km k_o_8_1 hZ => ?_)
          replace hkl := hkl.tr km
          replace k_x0 := km.at k_x0 (by decide)
          exact bX11_game_40 C k_x0 k_o_8_1 hkl hW hZ _ (lv_sub hl [1, 2, 3, 0] rfl) hE
        · have hE := br_p hE c_7
          refine lv_bipush (v := (-102 : Int32)) C.1 C.2.1 dX11_game_31 (by decide) ?_
          exact x_iretA C rfl rfl hW hZ hkl hE dX11_game_33
      · have hE := br_n hE c_3
        exact bX11_game_16 C hkl hW hZ _ (lv_sub hl [] rfl) hE
set_option maxRecDepth 20000 in
theorem ct_X11_game (l : Launch) (X : Ec) (F : Nat) {h : Hp} {x0 : Nat} {x1 : Int32} {x2 : Int32} {o : Int32 × Hp} (k_x0 : hK h x0 = 11) (hE : sX11_game F h x0 x1 x2 = some o) : MetIA l yX11_game cX11_game 5 (some .int) 7 211 X [.ref x0, .int x1, .int x2] h o := by
  refine x_metA (oh := o.2) (by decide) (Nat.le_of_ble_eq_true rfl) ?_
  intro p e s m below meth c ls C hl hW hZ
  have hl : lv_has ls 5 [(0, .ref x0), (1, .int x1), (2, .int x2)] := hl
  have hkl : Kl h h := Kl.rf h
  refine lv_iload_n C.1 C.2.1 dX11_game_0 rfl (lv_at hl 1 rfl) ?_
  obtain ⟨o_1, eo_1, hE⟩ := cl_e hE
  have m1 := moX11_isGame eo_1
  have m2 := moX11_game_4 hE
  refine x_kI (o := o_1) (z_runS (As := [.int x1]) (rest := []) C (ct_X11_isGame l X eo_1) cw_X11_318 hW hZ rfl hl.1 (Nat.le_of_ble_eq_true rfl) rfl dX11_game_1 ⟨Nat.le_of_ble_eq_true rfl, Nat.le_of_ble_eq_true rfl⟩ (rm_ok0 hkl m1 m2)) hZ (fun _ _ hW km hZ => ?_)
  replace hkl := hkl.tr km.l
  refine x_wc km ?_
  replace k_x0 := km.at k_x0 (by decide)
  exact bX11_game_4 C k_x0 hkl hW hZ _ (lv_sub hl [0, 1, 2] rfl) hE
theorem dX11_played_0 : decode cX11_played 0 = .ok (.iload_n 1, 1) := by decide +kernel
theorem dX11_played_1 : decode cX11_played 1 = .ok (.invokestatic 318, 3) := by decide +kernel
theorem dX11_played_4 : decode cX11_played 4 = .ok (.ifCond .ne 6, 3) := by decide +kernel
theorem dX11_played_7 : decode cX11_played 7 = .ok (.bipush (-101), 2) := by decide +kernel
theorem dX11_played_9 : decode cX11_played 9 = .ok (.ireturn, 1) := by decide +kernel
theorem dX11_played_10 : decode cX11_played 10 = .ok (.iload_n 2, 1) := by decide +kernel
theorem dX11_played_11 : decode cX11_played 11 = .ok (.ifCond .lt 28, 3) := by decide +kernel
theorem dX11_played_14 : decode cX11_played 14 = .ok (.iload_n 2, 1) := by decide +kernel
theorem dX11_played_15 : decode cX11_played 15 = .ok (.aload_n 0, 1) := by decide +kernel
theorem dX11_played_16 : decode cX11_played 16 = .ok (.getfield 117, 3) := by decide +kernel
theorem dX11_played_19 : decode cX11_played 19 = .ok (.iload_n 1, 1) := by decide +kernel
theorem dX11_played_20 : decode cX11_played 20 = .ok (.iaload, 1) := by decide +kernel
theorem dX11_played_21 : decode cX11_played 21 = .ok (.if_icmp .ge 18, 3) := by decide +kernel
theorem dX11_played_24 : decode cX11_played 24 = .ok (.aload_n 0, 1) := by decide +kernel
theorem dX11_played_25 : decode cX11_played 25 = .ok (.getfield 114, 3) := by decide +kernel
theorem dX11_played_28 : decode cX11_played 28 = .ok (.iload_n 1, 1) := by decide +kernel
theorem dX11_played_29 : decode cX11_played 29 = .ok (.sipush 301, 3) := by decide +kernel
theorem dX11_played_32 : decode cX11_played 32 = .ok (.imul, 1) := by decide +kernel
theorem dX11_played_33 : decode cX11_played 33 = .ok (.iload_n 2, 1) := by decide +kernel
theorem dX11_played_34 : decode cX11_played 34 = .ok (.iadd, 1) := by decide +kernel
theorem dX11_played_35 : decode cX11_played 35 = .ok (.iaload, 1) := by decide +kernel
theorem dX11_played_36 : decode cX11_played 36 = .ok (.goto 5, 3) := by decide +kernel
theorem dX11_played_39 : decode cX11_played 39 = .ok (.bipush (-102), 2) := by decide +kernel
theorem dX11_played_41 : decode cX11_played 41 = .ok (.ireturn, 1) := by decide +kernel
set_option maxRecDepth 20000 in
theorem moX11_played_41 {o : Int32 × Hp} {h : Hp} {t0 : Int32} (hE : sX11_played_41 h  t0 = some o) : Le h o.2 := by
  exact le_some2 hE
set_option maxRecDepth 20000 in
theorem moX11_played_39 {o : Int32 × Hp} {h : Hp} (hE : sX11_played_39 h  = some o) : Le h o.2 := by
  exact moX11_played_41 hE
set_option maxRecDepth 20000 in
theorem moX11_played {o : Int32 × Hp} {h : Hp} {x0 : Nat} {x1 : Int32} {x2 : Int32} (hE : sX11_played h x0 x1 x2 = some o) : Le h o.2 := by
  obtain ⟨o_1, eo_1, hE⟩ := cl_e hE
  refine (moX11_isGame eo_1).tr ?_
  rcases br_e hE with ⟨_, hE⟩ | ⟨_, hE⟩
  · exact le_some2 hE
  · rcases br_e hE with ⟨_, hE⟩ | ⟨_, hE⟩
    · exact moX11_played_39 hE
    · obtain ⟨r_4, er_4, hE⟩ := cl_e hE
      obtain ⟨g_5, hE⟩ := gd_e hE
      rcases br_e hE with ⟨_, hE⟩ | ⟨_, hE⟩
      · exact moX11_played_39 hE
      · obtain ⟨r_7, er_7, hE⟩ := cl_e hE
        obtain ⟨g_8, hE⟩ := gd_e hE
        exact moX11_played_41 hE
set_option maxRecDepth 20000 in
theorem bX11_played_41 {p : Program} {l : Launch} {e : Env} {s : State} {m : MethodId} {args : Array Value} {below : List Frame} {meth : Method} {c : Code} {X : Ec} {h0 : Hp} {o : Int32 × Hp} (C : Cx X p s m args meth c RX11 cX11_played 3 (some .int) "played") {h : Hp} {t0 : Int32} {H : Heap} {locs : List Loc} (hkm : Km h0 h) (hW : Wx X h H) (hZ : va_S (aA (eB X)) s.heap H locs) (ls : Array Slot) (hl : lv_has ls 3 []) (hE : sX11_played_41 h  t0 = some o) : W p l e (rm 1 20) s m args below meth c H locs 0 0 (MQ below (QI X h0 o.1 o.2) args s 0 0 (aA (eB X))) (F0 m 41 ls [.int t0]) := by
  exact x_iret C rfl rfl hW hZ hkm hE dX11_played_41
set_option maxRecDepth 20000 in
theorem bX11_played_39 {p : Program} {l : Launch} {e : Env} {s : State} {m : MethodId} {args : Array Value} {below : List Frame} {meth : Method} {c : Code} {X : Ec} {h0 : Hp} {o : Int32 × Hp} (C : Cx X p s m args meth c RX11 cX11_played 3 (some .int) "played") {h : Hp} {H : Heap} {locs : List Loc} (hkm : Km h0 h) (hW : Wx X h H) (hZ : va_S (aA (eB X)) s.heap H locs) (ls : Array Slot) (hl : lv_has ls 3 []) (hE : sX11_played_39 h  = some o) : W p l e (rm 1 20) s m args below meth c H locs 0 0 (MQ below (QI X h0 o.1 o.2) args s 0 0 (aA (eB X))) (F0 m 39 ls []) := by
  refine lv_bipush (v := (-102 : Int32)) C.1 C.2.1 dX11_played_39 (by decide) ?_
  exact bX11_played_41 C hkm hW hZ _ (lv_sub hl [] rfl) hE
set_option maxRecDepth 20000 in
theorem ct_X11_played (l : Launch) (X : Ec) {h : Hp} {x0 : Nat} {x1 : Int32} {x2 : Int32} {o : Int32 × Hp} (k_x0 : hK h x0 = 11) (hE : sX11_played h x0 x1 x2 = some o) : MetI l yX11_played cX11_played 3 (some .int) 1 20 X [.ref x0, .int x1, .int x2] h o := by
  refine x_met (by decide) (Nat.le_of_ble_eq_true rfl) ?_
  intro p e s m below meth c ls C hl hW hZ
  have hl : lv_has ls 3 [(0, .ref x0), (1, .int x1), (2, .int x2)] := hl
  have hkm : Km h h := Km.rf h
  refine lv_iload_n C.1 C.2.1 dX11_played_0 rfl (lv_at hl 1 rfl) ?_
  obtain ⟨o_1, eo_1, hE⟩ := cl_e hE
  refine x_kI (o := o_1) (z_runS (As := [.int x1]) (rest := []) C (ct_X11_isGame l X eo_1) cw_X11_318 hW hZ rfl hl.1 (Nat.le_of_ble_eq_true rfl) rfl dX11_played_1 ⟨Nat.le_of_ble_eq_true rfl, Nat.le_of_ble_eq_true rfl⟩ ⟨Nat.le_refl _, Nat.le_refl _⟩) hZ (fun _ _ hW km hZ => ?_)
  replace hkm := hkm.tr km
  replace k_x0 := km.at k_x0 (by decide)
  refine lv_if_ne (tgt := 10) C.1 C.2.1 dX11_played_4 (by decide) (fun c_2 => ?_) (fun c_2 => ?_)
  · have hE := br_n hE c_2
    refine lv_iload_n C.1 C.2.1 dX11_played_10 rfl (lv_at hl 2 rfl) ?_
    refine lv_if_lt (tgt := 39) C.1 C.2.1 dX11_played_11 (by decide) (fun c_3 => ?_) (fun c_3 => ?_)
    · have hE := br_p hE c_3
      exact bX11_played_39 C hkm hW hZ _ (lv_sub hl [] rfl) hE
    · have hE := br_n hE c_3
      refine lv_iload_n C.1 C.2.1 dX11_played_14 rfl (lv_at hl 2 rfl) ?_
      refine lv_aload_n C.1 C.2.1 dX11_played_15 rfl (lv_at hl 0 rfl) ?_
      obtain ⟨r_4, er_4, hE⟩ := cl_e hE
      refine gf_X11_117 C hW k_x0 er_4 dX11_played_16 (fun k_r_4 => ?_)
      refine lv_iload_n C.1 C.2.1 dX11_played_19 rfl (lv_at hl 1 rfl) ?_
      obtain ⟨g_5, hE⟩ := gd_e hE
      refine y_iald C hW k_r_4 g_5 dX11_played_20 ?_
      refine lv_icmp_ge (tgt := 39) C.1 C.2.1 dX11_played_21 (by decide) (fun c_6 => ?_) (fun c_6 => ?_)
      · have hE := br_p hE c_6
        exact bX11_played_39 C hkm hW hZ _ (lv_sub hl [] rfl) hE
      · have hE := br_n hE c_6
        refine lv_aload_n C.1 C.2.1 dX11_played_24 rfl (lv_at hl 0 rfl) ?_
        obtain ⟨r_7, er_7, hE⟩ := cl_e hE
        refine gf_X11_114 C hW k_x0 er_7 dX11_played_25 (fun k_r_7 => ?_)
        refine lv_iload_n C.1 C.2.1 dX11_played_28 rfl (lv_at hl 1 rfl) ?_
        refine lv_sipush (v := (301 : Int32)) C.1 C.2.1 dX11_played_29 (by decide) ?_
        refine lv_imul C.1 C.2.1 dX11_played_32 ?_
        refine lv_iload_n C.1 C.2.1 dX11_played_33 rfl (lv_at hl 2 rfl) ?_
        refine lv_iadd C.1 C.2.1 dX11_played_34 ?_
        obtain ⟨g_8, hE⟩ := gd_e hE
        refine y_iald C hW k_r_7 g_8 dX11_played_35 ?_
        refine lv_goto (tgt := 41) C.1 C.2.1 dX11_played_36 (by decide) ?_
        exact bX11_played_41 C hkm hW hZ _ (lv_sub hl [] rfl) hE
  · have hE := br_p hE c_2
    refine lv_bipush (v := (-101 : Int32)) C.1 C.2.1 dX11_played_7 (by decide) ?_
    exact x_iret C rfl rfl hW hZ hkm hE dX11_played_9
theorem dX11_now_0 : decode cX11_now 0 = .ok (.iload_n 1, 1) := by decide +kernel
theorem dX11_now_1 : decode cX11_now 1 = .ok (.invokestatic 318, 3) := by decide +kernel
theorem dX11_now_4 : decode cX11_now 4 = .ok (.ifCond .ne 6, 3) := by decide +kernel
theorem dX11_now_7 : decode cX11_now 7 = .ok (.bipush (-101), 2) := by decide +kernel
theorem dX11_now_9 : decode cX11_now 9 = .ok (.ireturn, 1) := by decide +kernel
theorem dX11_now_10 : decode cX11_now 10 = .ok (.aload_n 0, 1) := by decide +kernel
theorem dX11_now_11 : decode cX11_now 11 = .ok (.getfield 117, 3) := by decide +kernel
theorem dX11_now_14 : decode cX11_now 14 = .ok (.iload_n 1, 1) := by decide +kernel
theorem dX11_now_15 : decode cX11_now 15 = .ok (.iaload, 1) := by decide +kernel
theorem dX11_now_16 : decode cX11_now 16 = .ok (.iconst (-1), 1) := by decide +kernel
theorem dX11_now_17 : decode cX11_now 17 = .ok (.if_icmp .ne 6, 3) := by decide +kernel
theorem dX11_now_20 : decode cX11_now 20 = .ok (.bipush (-102), 2) := by decide +kernel
theorem dX11_now_22 : decode cX11_now 22 = .ok (.ireturn, 1) := by decide +kernel
theorem dX11_now_23 : decode cX11_now 23 = .ok (.aload_n 0, 1) := by decide +kernel
theorem dX11_now_24 : decode cX11_now 24 = .ok (.invokevirtual 183, 3) := by decide +kernel
theorem dX11_now_27 : decode cX11_now 27 = .ok (.istore_n 2, 1) := by decide +kernel
theorem dX11_now_28 : decode cX11_now 28 = .ok (.iload_n 2, 1) := by decide +kernel
theorem dX11_now_29 : decode cX11_now 29 = .ok (.iconst (-1), 1) := by decide +kernel
theorem dX11_now_30 : decode cX11_now 30 = .ok (.if_icmp .ne 6, 3) := by decide +kernel
theorem dX11_now_33 : decode cX11_now 33 = .ok (.bipush (-104), 2) := by decide +kernel
theorem dX11_now_35 : decode cX11_now 35 = .ok (.ireturn, 1) := by decide +kernel
theorem dX11_now_36 : decode cX11_now 36 = .ok (.aload_n 0, 1) := by decide +kernel
theorem dX11_now_37 : decode cX11_now 37 = .ok (.iload_n 2, 1) := by decide +kernel
theorem dX11_now_38 : decode cX11_now 38 = .ok (.aload_n 0, 1) := by decide +kernel
theorem dX11_now_39 : decode cX11_now 39 = .ok (.iload_n 1, 1) := by decide +kernel
theorem dX11_now_40 : decode cX11_now 40 = .ok (.aload_n 0, 1) := by decide +kernel
theorem dX11_now_41 : decode cX11_now 41 = .ok (.getfield 117, 3) := by decide +kernel
theorem dX11_now_44 : decode cX11_now 44 = .ok (.iload_n 1, 1) := by decide +kernel
theorem dX11_now_45 : decode cX11_now 45 = .ok (.iaload, 1) := by decide +kernel
theorem dX11_now_46 : decode cX11_now 46 = .ok (.invokevirtual 321, 3) := by decide +kernel
theorem dX11_now_49 : decode cX11_now 49 = .ok (.invokevirtual 275, 3) := by decide +kernel
theorem dX11_now_52 : decode cX11_now 52 = .ok (.iload_n 2, 1) := by decide +kernel
theorem dX11_now_53 : decode cX11_now 53 = .ok (.ireturn, 1) := by decide +kernel
set_option maxRecDepth 20000 in
theorem moX11_now_52 {o : Int32 × Hp} {F : Nat} {h : Hp} {x2 : Int32} (hE : sX11_now_52 F h x2 = some o) : Le h o.2 := by
  exact le_some2 hE
set_option maxRecDepth 20000 in
theorem moX11_now_49 {o : Int32 × Hp} {F : Nat} {h : Hp} {x2 : Int32} {t0 : Nat} {t1 : Int32} {t2 : Nat} (hE : sX11_now_49 F h x2 t0 t1 t2 = some o) : Le h o.2 := by
  obtain ⟨o_1, eo_1, hE⟩ := cl_e hE
  refine (moX11_settle eo_1).tr ?_
  exact moX11_now_52 hE
set_option maxRecDepth 20000 in
theorem moX11_now_27 {o : Int32 × Hp} {F : Nat} {h : Hp} {x0 : Nat} {x1 : Int32} {t0 : Int32} (hE : sX11_now_27 F h x0 x1 t0 = some o) : Le h o.2 := by
  rcases br_e hE with ⟨_, hE⟩ | ⟨_, hE⟩
  · exact le_some2 hE
  · obtain ⟨r_2, er_2, hE⟩ := cl_e hE
    obtain ⟨g_3, hE⟩ := gd_e hE
    obtain ⟨o_4, eo_4, hE⟩ := cl_e hE
    refine (moX11_page eo_4).tr ?_
    exact moX11_now_49 hE
set_option maxRecDepth 20000 in
theorem moX11_now_4 {o : Int32 × Hp} {F : Nat} {h : Hp} {x0 : Nat} {x1 : Int32} {t0 : Int32} (hE : sX11_now_4 F h x0 x1 t0 = some o) : Le h o.2 := by
  rcases br_e hE with ⟨_, hE⟩ | ⟨_, hE⟩
  · exact le_some2 hE
  · obtain ⟨r_2, er_2, hE⟩ := cl_e hE
    obtain ⟨g_3, hE⟩ := gd_e hE
    rcases br_e hE with ⟨_, hE⟩ | ⟨_, hE⟩
    · exact le_some2 hE
    · obtain ⟨o_5, eo_5, hE⟩ := cl_e hE
      refine (moX11_freePlace eo_5).tr ?_
      exact moX11_now_27 hE
set_option maxRecDepth 20000 in
theorem moX11_now {o : Int32 × Hp} {F : Nat} {h : Hp} {x0 : Nat} {x1 : Int32} (hE : sX11_now F h x0 x1 = some o) : Le h o.2 := by
  obtain ⟨o_1, eo_1, hE⟩ := cl_e hE
  refine (moX11_isGame eo_1).tr ?_
  exact moX11_now_4 hE
set_option maxRecDepth 20000 in
theorem bX11_now_52 {p : Program} {l : Launch} {e : Env} {s : State} {m : MethodId} {args : Array Value} {below : List Frame} {meth : Method} {c : Code} {X : Ec} {h0 : Hp} {o : Int32 × Hp} {F : Nat} (C : Cx X p s m args meth c RX11 cX11_now 3 (some .int) "now") {h : Hp} {x2 : Int32} {H : Heap} {locs : List Loc} (hkl : Kl h0 h) (hW : Wx X h H) (hZ : va_S (aA (eB X)) s.heap H locs) (ls : Array Slot) (hl : lv_has ls 3 [(2, .int x2)]) (hE : sX11_now_52 F h x2 = some o) : W p l e (rmA 3 108 h0 o.2) s m args below meth c H locs (hS h - hS h0) (hL h - hL h0) (MQ below (QIA X h0 o.1 o.2) args s (hS o.2 - hS h0) (hL o.2 - hL h0) (aA (eB X))) (F0 m 52 ls []) := by
  refine lv_iload_n C.1 C.2.1 dX11_now_52 rfl (lv_at hl 0 rfl) ?_
  exact x_iretA C rfl rfl hW hZ hkl hE dX11_now_53
set_option maxRecDepth 20000 in
theorem bX11_now_49 {p : Program} {l : Launch} {e : Env} {s : State} {m : MethodId} {args : Array Value} {below : List Frame} {meth : Method} {c : Code} {X : Ec} {h0 : Hp} {o : Int32 × Hp} {F : Nat} (C : Cx X p s m args meth c RX11 cX11_now 3 (some .int) "now") {h : Hp} {x2 : Int32} {t0 : Nat} {t1 : Int32} {t2 : Nat} {H : Heap} {locs : List Loc} (k_t0 : hK h t0 = 3) (k_t2 : hK h t2 = 11) (hkl : Kl h0 h) (hW : Wx X h H) (hZ : va_S (aA (eB X)) s.heap H locs) (ls : Array Slot) (hl : lv_has ls 3 [(2, .int x2)]) (hE : sX11_now_49 F h x2 t0 t1 t2 = some o) : W p l e (rmA 3 108 h0 o.2) s m args below meth c H locs (hS h - hS h0) (hL h - hL h0) (MQ below (QIA X h0 o.1 o.2) args s (hS o.2 - hS h0) (hL o.2 - hL h0) (aA (eB X))) (F0 m 49 ls [.ref t0, .int t1, .ref t2]) := by
  obtain ⟨o_1, eo_1, hE⟩ := cl_e hE
  have m1 := moX11_settle eo_1
  have m2 := moX11_now_52 hE
  refine x_kV (o := o_1) (z_runV (As := [.int t1, .ref t0]) (rest := []) C (ct_X11_settle l X F k_t2 k_t0 eo_1) cw_X11_275 hW hZ k_t2 (by decide) rfl rfl rfl hl.1 (Nat.le_of_ble_eq_true rfl) rfl dX11_now_49 ⟨Nat.le_of_ble_eq_true rfl, Nat.le_of_ble_eq_true rfl⟩ (rm_ok0 hkl m1 m2)) hZ (fun _ _ hW km hZ => ?_)
  replace hkl := hkl.tr km.l
  refine x_wc km ?_
  exact bX11_now_52 C hkl hW hZ _ (lv_sub hl [0] rfl) hE
set_option maxRecDepth 20000 in
theorem bX11_now_27 {p : Program} {l : Launch} {e : Env} {s : State} {m : MethodId} {args : Array Value} {below : List Frame} {meth : Method} {c : Code} {X : Ec} {h0 : Hp} {o : Int32 × Hp} {F : Nat} (C : Cx X p s m args meth c RX11 cX11_now 3 (some .int) "now") {h : Hp} {x0 : Nat} {x1 : Int32} {t0 : Int32} {H : Heap} {locs : List Loc} (k_x0 : hK h x0 = 11) (hkl : Kl h0 h) (hW : Wx X h H) (hZ : va_S (aA (eB X)) s.heap H locs) (ls : Array Slot) (hl : lv_has ls 3 [(0, .ref x0), (1, .int x1)]) (hE : sX11_now_27 F h x0 x1 t0 = some o) : W p l e (rmA 3 108 h0 o.2) s m args below meth c H locs (hS h - hS h0) (hL h - hL h0) (MQ below (QIA X h0 o.1 o.2) args s (hS o.2 - hS h0) (hL o.2 - hL h0) (aA (eB X))) (F0 m 27 ls [.int t0]) := by
  refine lv_istore_n (lv' := [(2, .int t0), (0, .ref x0), (1, .int x1)]) C.1 C.2.1 dX11_now_27 rfl hl (by decide) rfl (fun ls hl => ?_)
  refine lv_iload_n C.1 C.2.1 dX11_now_28 rfl (lv_at hl 0 rfl) ?_
  refine lv_iconst (v := (-1 : Int32)) C.1 C.2.1 dX11_now_29 (by decide) ?_
  refine lv_icmp_ne (tgt := 36) C.1 C.2.1 dX11_now_30 (by decide) (fun c_1 => ?_) (fun c_1 => ?_)
  · have hE := br_n hE c_1
    refine lv_aload_n C.1 C.2.1 dX11_now_36 rfl (lv_at hl 1 rfl) ?_
    refine lv_iload_n C.1 C.2.1 dX11_now_37 rfl (lv_at hl 0 rfl) ?_
    refine lv_aload_n C.1 C.2.1 dX11_now_38 rfl (lv_at hl 1 rfl) ?_
    refine lv_iload_n C.1 C.2.1 dX11_now_39 rfl (lv_at hl 2 rfl) ?_
    refine lv_aload_n C.1 C.2.1 dX11_now_40 rfl (lv_at hl 1 rfl) ?_
    obtain ⟨r_2, er_2, hE⟩ := cl_e hE
    refine gf_X11_117 C hW k_x0 er_2 dX11_now_41 (fun k_r_2 => ?_)
    refine lv_iload_n C.1 C.2.1 dX11_now_44 rfl (lv_at hl 2 rfl) ?_
    obtain ⟨g_3, hE⟩ := gd_e hE
    refine y_iald C hW k_r_2 g_3 dX11_now_45 ?_
    obtain ⟨o_4, eo_4, hE⟩ := cl_e hE
    have m1 := moX11_page eo_4
    have m2 := moX11_now_49 hE
    refine x_kRA (o := o_4) hkl (z_runV (As := [.int x1, .int (hI h r_2 x1.toNatClampNeg)]) (rest := [.int t0, .ref x0]) C (ct_X11_page l X F k_x0 eo_4) cw_X11_321 hW hZ k_x0 (by decide) rfl rfl rfl hl.1 (Nat.le_of_ble_eq_true rfl) rfl dX11_now_46 ⟨Nat.le_of_ble_eq_true rfl, Nat.le_of_ble_eq_true rfl⟩ (rm_ok hkl m1 m2)) hZ (fun _ _ hW km k_o_4_1 hZ => ?_)
    replace hkl := hkl.tr km
    replace k_x0 := km.at k_x0 (by decide)
    exact bX11_now_49 C k_o_4_1 k_x0 hkl hW hZ _ (lv_sub hl [0] rfl) hE
  · have hE := br_p hE c_1
    refine lv_bipush (v := (-104 : Int32)) C.1 C.2.1 dX11_now_33 (by decide) ?_
    exact x_iretA C rfl rfl hW hZ hkl hE dX11_now_35
set_option maxRecDepth 20000 in
theorem bX11_now_4 {p : Program} {l : Launch} {e : Env} {s : State} {m : MethodId} {args : Array Value} {below : List Frame} {meth : Method} {c : Code} {X : Ec} {h0 : Hp} {o : Int32 × Hp} {F : Nat} (C : Cx X p s m args meth c RX11 cX11_now 3 (some .int) "now") {h : Hp} {x0 : Nat} {x1 : Int32} {t0 : Int32} {H : Heap} {locs : List Loc} (k_x0 : hK h x0 = 11) (hkl : Kl h0 h) (hW : Wx X h H) (hZ : va_S (aA (eB X)) s.heap H locs) (ls : Array Slot) (hl : lv_has ls 3 [(0, .ref x0), (1, .int x1)]) (hE : sX11_now_4 F h x0 x1 t0 = some o) : W p l e (rmA 3 108 h0 o.2) s m args below meth c H locs (hS h - hS h0) (hL h - hL h0) (MQ below (QIA X h0 o.1 o.2) args s (hS o.2 - hS h0) (hL o.2 - hL h0) (aA (eB X))) (F0 m 4 ls [.int t0]) := by
  refine lv_if_ne (tgt := 10) C.1 C.2.1 dX11_now_4 (by decide) (fun c_1 => ?_) (fun c_1 => ?_)
  · have hE := br_n hE c_1
    refine lv_aload_n C.1 C.2.1 dX11_now_10 rfl (lv_at hl 0 rfl) ?_
    obtain ⟨r_2, er_2, hE⟩ := cl_e hE
    refine gf_X11_117 C hW k_x0 er_2 dX11_now_11 (fun k_r_2 => ?_)
    refine lv_iload_n C.1 C.2.1 dX11_now_14 rfl (lv_at hl 1 rfl) ?_
    obtain ⟨g_3, hE⟩ := gd_e hE
    refine y_iald C hW k_r_2 g_3 dX11_now_15 ?_
    refine lv_iconst (v := (-1 : Int32)) C.1 C.2.1 dX11_now_16 (by decide) ?_
    refine lv_icmp_ne (tgt := 23) C.1 C.2.1 dX11_now_17 (by decide) (fun c_4 => ?_) (fun c_4 => ?_)
    · have hE := br_n hE c_4
      refine lv_aload_n C.1 C.2.1 dX11_now_23 rfl (lv_at hl 0 rfl) ?_
      obtain ⟨o_5, eo_5, hE⟩ := cl_e hE
      have m1 := moX11_freePlace eo_5
      have m2 := moX11_now_27 hE
      refine x_kI (o := o_5) (z_runV (As := []) (rest := []) C (ct_X11_freePlace l X F k_x0 eo_5) cw_X11_183 hW hZ k_x0 (by decide) rfl rfl rfl hl.1 (Nat.le_of_ble_eq_true rfl) rfl dX11_now_24 ⟨Nat.le_of_ble_eq_true rfl, Nat.le_of_ble_eq_true rfl⟩ (rm_ok0 hkl m1 m2)) hZ (fun _ _ hW km hZ => ?_)
      replace hkl := hkl.tr km.l
      refine x_wc km ?_
      replace k_x0 := km.at k_x0 (by decide)
      exact bX11_now_27 C k_x0 hkl hW hZ _ (lv_sub hl [0, 1] rfl) hE
    · have hE := br_p hE c_4
      refine lv_bipush (v := (-102 : Int32)) C.1 C.2.1 dX11_now_20 (by decide) ?_
      exact x_iretA C rfl rfl hW hZ hkl hE dX11_now_22
  · have hE := br_p hE c_1
    refine lv_bipush (v := (-101 : Int32)) C.1 C.2.1 dX11_now_7 (by decide) ?_
    exact x_iretA C rfl rfl hW hZ hkl hE dX11_now_9
set_option maxRecDepth 20000 in
theorem ct_X11_now (l : Launch) (X : Ec) (F : Nat) {h : Hp} {x0 : Nat} {x1 : Int32} {o : Int32 × Hp} (k_x0 : hK h x0 = 11) (hE : sX11_now F h x0 x1 = some o) : MetIA l yX11_now cX11_now 3 (some .int) 3 108 X [.ref x0, .int x1] h o := by
  refine x_metA (oh := o.2) (by decide) (Nat.le_of_ble_eq_true rfl) ?_
  intro p e s m below meth c ls C hl hW hZ
  have hl : lv_has ls 3 [(0, .ref x0), (1, .int x1)] := hl
  have hkl : Kl h h := Kl.rf h
  refine lv_iload_n C.1 C.2.1 dX11_now_0 rfl (lv_at hl 1 rfl) ?_
  obtain ⟨o_1, eo_1, hE⟩ := cl_e hE
  have m1 := moX11_isGame eo_1
  have m2 := moX11_now_4 hE
  refine x_kI (o := o_1) (z_runS (As := [.int x1]) (rest := []) C (ct_X11_isGame l X eo_1) cw_X11_318 hW hZ rfl hl.1 (Nat.le_of_ble_eq_true rfl) rfl dX11_now_1 ⟨Nat.le_of_ble_eq_true rfl, Nat.le_of_ble_eq_true rfl⟩ (rm_ok0 hkl m1 m2)) hZ (fun _ _ hW km hZ => ?_)
  replace hkl := hkl.tr km.l
  refine x_wc km ?_
  replace k_x0 := km.at k_x0 (by decide)
  exact bX11_now_4 C k_x0 hkl hW hZ _ (lv_sub hl [0, 1] rfl) hE
theorem dX11_book_0 : decode cX11_book 0 = .ok (.aload_n 0, 1) := by decide +kernel
theorem dX11_book_1 : decode cX11_book 1 = .ok (.iload_n 1, 1) := by decide +kernel
theorem dX11_book_2 : decode cX11_book 2 = .ok (.invokevirtual 193, 3) := by decide +kernel
theorem dX11_book_5 : decode cX11_book 5 = .ok (.ifCond .eq 21, 3) := by decide +kernel
theorem dX11_book_8 : decode cX11_book 8 = .ok (.iload_n 2, 1) := by decide +kernel
theorem dX11_book_9 : decode cX11_book 9 = .ok (.iconst (-1), 1) := by decide +kernel
theorem dX11_book_10 : decode cX11_book 10 = .ok (.if_icmp .eq 19, 3) := by decide +kernel
theorem dX11_book_13 : decode cX11_book 13 = .ok (.iload_n 2, 1) := by decide +kernel
theorem dX11_book_14 : decode cX11_book 14 = .ok (.ifCond .lt 12, 3) := by decide +kernel
theorem dX11_book_17 : decode cX11_book 17 = .ok (.iload_n 2, 1) := by decide +kernel
theorem dX11_book_18 : decode cX11_book 18 = .ok (.aload_n 0, 1) := by decide +kernel
theorem dX11_book_19 : decode cX11_book 19 = .ok (.iload_n 1, 1) := by decide +kernel
theorem dX11_book_20 : decode cX11_book 20 = .ok (.invokevirtual 254, 3) := by decide +kernel
theorem dX11_book_23 : decode cX11_book 23 = .ok (.if_icmp .lt 6, 3) := by decide +kernel
theorem dX11_book_26 : decode cX11_book 26 = .ok (.bipush (-102), 2) := by decide +kernel
theorem dX11_book_28 : decode cX11_book 28 = .ok (.ireturn, 1) := by decide +kernel
theorem dX11_book_29 : decode cX11_book 29 = .ok (.iconst 0, 1) := by decide +kernel
theorem dX11_book_30 : decode cX11_book 30 = .ok (.istore_n 3, 1) := by decide +kernel
theorem dX11_book_31 : decode cX11_book 31 = .ok (.iconst 0, 1) := by decide +kernel
theorem dX11_book_32 : decode cX11_book 32 = .ok (.istore 4, 2) := by decide +kernel
theorem dX11_book_34 : decode cX11_book 34 = .ok (.iload 4, 2) := by decide +kernel
theorem dX11_book_36 : decode cX11_book 36 = .ok (.bipush 8, 2) := by decide +kernel
theorem dX11_book_38 : decode cX11_book 38 = .ok (.if_icmp .ge 25, 3) := by decide +kernel
theorem dX11_book_41 : decode cX11_book 41 = .ok (.iload_n 3, 1) := by decide +kernel
theorem dX11_book_42 : decode cX11_book 42 = .ok (.aload_n 0, 1) := by decide +kernel
theorem dX11_book_43 : decode cX11_book 43 = .ok (.iload 4, 2) := by decide +kernel
theorem dX11_book_45 : decode cX11_book 45 = .ok (.aload_n 0, 1) := by decide +kernel
theorem dX11_book_46 : decode cX11_book 46 = .ok (.getfield 103, 3) := by decide +kernel
theorem dX11_book_49 : decode cX11_book 49 = .ok (.iload_n 1, 1) := by decide +kernel
theorem dX11_book_50 : decode cX11_book 50 = .ok (.aaload, 1) := by decide +kernel
theorem dX11_book_51 : decode cX11_book 51 = .ok (.iload_n 2, 1) := by decide +kernel
theorem dX11_book_52 : decode cX11_book 52 = .ok (.invokevirtual 333, 3) := by decide +kernel
theorem dX11_book_55 : decode cX11_book 55 = .ok (.iadd, 1) := by decide +kernel
theorem dX11_book_56 : decode cX11_book 56 = .ok (.istore_n 3, 1) := by decide +kernel
theorem dX11_book_57 : decode cX11_book 57 = .ok (.iinc 4 1, 3) := by decide +kernel
theorem dX11_book_60 : decode cX11_book 60 = .ok (.goto (-26), 3) := by decide +kernel
theorem dX11_book_63 : decode cX11_book 63 = .ok (.iload_n 3, 1) := by decide +kernel
theorem dX11_book_64 : decode cX11_book 64 = .ok (.ireturn, 1) := by decide +kernel
set_option maxRecDepth 20000 in
theorem moX11_book_26 {o : Int32 × Hp} {F : Nat} {h : Hp} (hE : sX11_book_26 F h  = some o) : Le h o.2 := by
  exact le_some2 hE
set_option maxRecDepth 20000 in
theorem moX11_book_55 {o : Int32 × Hp} {k_34 : Hp → Nat → Int32 → Int32 → Int32 → Int32 → Option (Int32 × Hp)} {F : Nat} (mk_34 : ∀ (h : Hp) (x0 : Nat) (x1 : Int32) (x2 : Int32) (x3 : Int32) (x4 : Int32), k_34 h x0 x1 x2 x3 x4 = some o → Le h o.2) {h : Hp} {x0 : Nat} {x1 : Int32} {x2 : Int32} {x4 : Int32} {t0 : Int32} {t1 : Int32} (hE : sX11_book_55 F k_34 h x0 x1 x2 x4 t0 t1 = some o) : Le h o.2 := by
  obtain ⟨v_1, ev_1, hE⟩ := nm_e2 hE
  obtain ⟨v_2, ev_2, hE⟩ := nm_e2 hE
  exact mk_34 _ _ _ _ _ _ hE
set_option maxRecDepth 20000 in
theorem moX11_book_34 {o : Int32 × Hp} {F : Nat} : ∀ (f : Nat) {h : Hp} {x0 : Nat} {x1 : Int32} {x2 : Int32} {x3 : Int32} {x4 : Int32}, sX11_book_34 F f h x0 x1 x2 x3 x4 = some o → Le h o.2 := by
  intro f
  induction f with
  | zero =>
    intro h x0 x1 x2 x3 x4 hE
    rw [sX11_book_34] at hE
    cases hE
  | succ f ih =>
    intro h x0 x1 x2 x3 x4 hE
    rw [sX11_book_34] at hE
    have mk_34 : ∀ (h : Hp) (x0 : Nat) (x1 : Int32) (x2 : Int32) (x3 : Int32) (x4 : Int32), sX11_book_34 F f h x0 x1 x2 x3 x4 = some o → Le h o.2 := fun h x0 x1 x2 x3 x4 hE => ih hE
    rcases br_e hE with ⟨_, hE⟩ | ⟨_, hE⟩
    · exact le_some2 hE
    · obtain ⟨r_2, er_2, hE⟩ := cl_e hE
      obtain ⟨g_3, hE⟩ := gd_e hE
      obtain ⟨r_4, er_4, hE⟩ := cl_e hE
      obtain ⟨o_5, eo_5, hE⟩ := cl_e hE
      refine (moX11_countAlike eo_5).tr ?_
      exact moX11_book_55 mk_34 hE
set_option maxRecDepth 20000 in
theorem moX11_book_29 {o : Int32 × Hp} {F : Nat} {h : Hp} {x0 : Nat} {x1 : Int32} {x2 : Int32} (hE : sX11_book_29 F h x0 x1 x2 = some o) : Le h o.2 := by
  exact moX11_book_34 _ hE
set_option maxRecDepth 20000 in
theorem moX11_book_23 {o : Int32 × Hp} {F : Nat} {h : Hp} {x0 : Nat} {x1 : Int32} {x2 : Int32} {t0 : Int32} {t1 : Int32} (hE : sX11_book_23 F h x0 x1 x2 t0 t1 = some o) : Le h o.2 := by
  rcases br_e hE with ⟨_, hE⟩ | ⟨_, hE⟩
  · exact moX11_book_29 hE
  · exact moX11_book_26 hE
set_option maxRecDepth 20000 in
theorem moX11_book_5 {o : Int32 × Hp} {F : Nat} {h : Hp} {x0 : Nat} {x1 : Int32} {x2 : Int32} {t0 : Int32} (hE : sX11_book_5 F h x0 x1 x2 t0 = some o) : Le h o.2 := by
  rcases br_e hE with ⟨_, hE⟩ | ⟨_, hE⟩
  · exact moX11_book_26 hE
  · rcases br_e hE with ⟨_, hE⟩ | ⟨_, hE⟩
    · exact moX11_book_29 hE
    · rcases br_e hE with ⟨_, hE⟩ | ⟨_, hE⟩
      · exact moX11_book_26 hE
      · obtain ⟨o_4, eo_4, hE⟩ := cl_e hE
        refine (moX11_listMoves eo_4).tr ?_
        exact moX11_book_23 hE
set_option maxRecDepth 20000 in
theorem moX11_book {o : Int32 × Hp} {F : Nat} {h : Hp} {x0 : Nat} {x1 : Int32} {x2 : Int32} (hE : sX11_book F h x0 x1 x2 = some o) : Le h o.2 := by
  obtain ⟨o_1, eo_1, hE⟩ := cl_e hE
  refine (moX11_isPlace eo_1).tr ?_
  exact moX11_book_5 hE
set_option maxRecDepth 20000 in
theorem bX11_book_26 {p : Program} {l : Launch} {e : Env} {s : State} {m : MethodId} {args : Array Value} {below : List Frame} {meth : Method} {c : Code} {X : Ec} {h0 : Hp} {o : Int32 × Hp} {F : Nat} (C : Cx X p s m args meth c RX11 cX11_book 5 (some .int) "book") {h : Hp} {H : Heap} {locs : List Loc} (hkl : Kl h0 h) (hW : Wx X h H) (hZ : va_S (aA (eB X)) s.heap H locs) (ls : Array Slot) (hl : lv_has ls 5 []) (hE : sX11_book_26 F h  = some o) : W p l e (rmA 7 211 h0 o.2) s m args below meth c H locs (hS h - hS h0) (hL h - hL h0) (MQ below (QIA X h0 o.1 o.2) args s (hS o.2 - hS h0) (hL o.2 - hL h0) (aA (eB X))) (F0 m 26 ls []) := by
  refine lv_bipush (v := (-102 : Int32)) C.1 C.2.1 dX11_book_26 (by decide) ?_
  exact x_iretA C rfl rfl hW hZ hkl hE dX11_book_28
set_option maxRecDepth 20000 in
theorem bX11_book_55 {p : Program} {l : Launch} {e : Env} {s : State} {m : MethodId} {args : Array Value} {below : List Frame} {meth : Method} {c : Code} {X : Ec} {h0 : Hp} {o : Int32 × Hp} {k_34 : Hp → Nat → Int32 → Int32 → Int32 → Int32 → Option (Int32 × Hp)} {F : Nat} (C : Cx X p s m args meth c RX11 cX11_book 5 (some .int) "book") (hk_34 : ∀ (h : Hp) (x0 : Nat) (x1 : Int32) (x2 : Int32) (x3 : Int32) (x4 : Int32) (H : Heap) (locs : List Loc), hK h x0 = 11 → Kl h0 h → Wx X h H → va_S (aA (eB X)) s.heap H locs → ∀ (ls : Array Slot), lv_has ls 5 [(0, .ref x0), (1, .int x1), (2, .int x2), (3, .int x3), (4, .int x4)] → k_34 h x0 x1 x2 x3 x4 = some o → W p l e (rmA 7 211 h0 o.2) s m args below meth c H locs (hS h - hS h0) (hL h - hL h0) (MQ below (QIA X h0 o.1 o.2) args s (hS o.2 - hS h0) (hL o.2 - hL h0) (aA (eB X))) (F0 m 34 ls [])) (mk_34 : ∀ (h : Hp) (x0 : Nat) (x1 : Int32) (x2 : Int32) (x3 : Int32) (x4 : Int32), k_34 h x0 x1 x2 x3 x4 = some o → Le h o.2) {h : Hp} {x0 : Nat} {x1 : Int32} {x2 : Int32} {x4 : Int32} {t0 : Int32} {t1 : Int32} {H : Heap} {locs : List Loc} (k_x0 : hK h x0 = 11) (hkl : Kl h0 h) (hW : Wx X h H) (hZ : va_S (aA (eB X)) s.heap H locs) (ls : Array Slot) (hl : lv_has ls 5 [(0, .ref x0), (1, .int x1), (2, .int x2), (4, .int x4)]) (hE : sX11_book_55 F k_34 h x0 x1 x2 x4 t0 t1 = some o) : W p l e (rmA 7 211 h0 o.2) s m args below meth c H locs (hS h - hS h0) (hL h - hL h0) (MQ below (QIA X h0 o.1 o.2) args s (hS o.2 - hS h0) (hL o.2 - hL h0) (aA (eB X))) (F0 m 55 ls [.int t0, .int t1]) := by
  refine lv_iadd C.1 C.2.1 dX11_book_55 ?_
  obtain ⟨v_1, ev_1, hE⟩ := nm_e2 hE
  refine x_nmI ev_1 ?_
  refine lv_istore_n (lv' := [(3, .int v_1), (0, .ref x0), (1, .int x1), (2, .int x2), (4, .int x4)]) C.1 C.2.1 dX11_book_56 rfl hl (by decide) rfl (fun ls hl => ?_)
  obtain ⟨v_2, ev_2, hE⟩ := nm_e2 hE
  refine lv_iinc (v := v_2) (lv' := [(4, .int v_2), (3, .int v_1), (0, .ref x0), (1, .int x1), (2, .int x2)]) C.1 C.2.1 dX11_book_57 hl (k := 4) rfl (by rw [ev_2]; rfl) (by decide) rfl (fun ls hl => ?_)
  refine lv_goto (tgt := 34) C.1 C.2.1 dX11_book_60 (by decide) ?_
  exact hk_34 _ _ _ _ _ _ _ _ k_x0 hkl hW hZ _ (lv_sub hl [2, 3, 4, 1, 0] rfl) hE
set_option maxRecDepth 20000 in
theorem bX11_book_34 {p : Program} {l : Launch} {e : Env} {s : State} {m : MethodId} {args : Array Value} {below : List Frame} {meth : Method} {c : Code} {X : Ec} {h0 : Hp} {o : Int32 × Hp} {F : Nat} (C : Cx X p s m args meth c RX11 cX11_book 5 (some .int) "book") : ∀ (f : Nat) {h : Hp} {x0 : Nat} {x1 : Int32} {x2 : Int32} {x3 : Int32} {x4 : Int32} {H : Heap} {locs : List Loc} (k_x0 : hK h x0 = 11), Kl h0 h → Wx X h H → va_S (aA (eB X)) s.heap H locs → ∀ (ls : Array Slot), lv_has ls 5 [(0, .ref x0), (1, .int x1), (2, .int x2), (3, .int x3), (4, .int x4)] → sX11_book_34 F f h x0 x1 x2 x3 x4 = some o → W p l e (rmA 7 211 h0 o.2) s m args below meth c H locs (hS h - hS h0) (hL h - hL h0) (MQ below (QIA X h0 o.1 o.2) args s (hS o.2 - hS h0) (hL o.2 - hL h0) (aA (eB X))) (F0 m 34 ls []) := by
  intro f
  induction f with
  | zero =>
    intro h x0 x1 x2 x3 x4 H locs k_x0 hkl hW hZ ls hl hE
    rw [sX11_book_34] at hE
    cases hE
  | succ f ih =>
    intro h x0 x1 x2 x3 x4 H locs k_x0 hkl hW hZ ls hl hE
    rw [sX11_book_34] at hE
    have mk_34 : ∀ (h : Hp) (x0 : Nat) (x1 : Int32) (x2 : Int32) (x3 : Int32) (x4 : Int32), sX11_book_34 F f h x0 x1 x2 x3 x4 = some o → Le h o.2 := fun h x0 x1 x2 x3 x4 hE => moX11_book_34 _ hE
    have hk_34 : ∀ (h : Hp) (x0 : Nat) (x1 : Int32) (x2 : Int32) (x3 : Int32) (x4 : Int32) (H : Heap) (locs : List Loc), hK h x0 = 11 → Kl h0 h → Wx X h H → va_S (aA (eB X)) s.heap H locs → ∀ (ls : Array Slot), lv_has ls 5 [(0, .ref x0), (1, .int x1), (2, .int x2), (3, .int x3), (4, .int x4)] → sX11_book_34 F f h x0 x1 x2 x3 x4 = some o → W p l e (rmA 7 211 h0 o.2) s m args below meth c H locs (hS h - hS h0) (hL h - hL h0) (MQ below (QIA X h0 o.1 o.2) args s (hS o.2 - hS h0) (hL o.2 - hL h0) (aA (eB X))) (F0 m 34 ls []) := fun h x0 x1 x2 x3 x4 H locs k_x0 a b c ls hl hE => ih k_x0 a b c ls hl hE
    refine lv_iload C.1 C.2.1 dX11_book_34 (lv_at hl 4 rfl) ?_
    refine lv_bipush (v := (8 : Int32)) C.1 C.2.1 dX11_book_36 (by decide) ?_
    refine lv_icmp_ge (tgt := 63) C.1 C.2.1 dX11_book_38 (by decide) (fun c_1 => ?_) (fun c_1 => ?_)
    · have hE := br_p hE c_1
      refine lv_iload_n C.1 C.2.1 dX11_book_63 rfl (lv_at hl 3 rfl) ?_
      exact x_iretA C rfl rfl hW hZ hkl hE dX11_book_64
    · have hE := br_n hE c_1
      refine lv_iload_n C.1 C.2.1 dX11_book_41 rfl (lv_at hl 3 rfl) ?_
      refine lv_aload_n C.1 C.2.1 dX11_book_42 rfl (lv_at hl 0 rfl) ?_
      refine lv_iload C.1 C.2.1 dX11_book_43 (lv_at hl 4 rfl) ?_
      refine lv_aload_n C.1 C.2.1 dX11_book_45 rfl (lv_at hl 0 rfl) ?_
      obtain ⟨r_2, er_2, hE⟩ := cl_e hE
      refine gf_X11_103 C hW k_x0 er_2 dX11_book_46 (fun k_r_2 => ?_)
      refine lv_iload_n C.1 C.2.1 dX11_book_49 rfl (lv_at hl 1 rfl) ?_
      obtain ⟨g_3, hE⟩ := gd_e hE
      obtain ⟨r_4, er_4, hE⟩ := cl_e hE
      refine y_aald (t0 := 4) C hW k_r_2 (by decide) (by decide) rfl rfl rfl (fun _ => rfl) g_3 er_4 dX11_book_50 (fun k_r_4 => ?_)
      refine lv_iload_n C.1 C.2.1 dX11_book_51 rfl (lv_at hl 2 rfl) ?_
      obtain ⟨o_5, eo_5, hE⟩ := cl_e hE
      have m1 := moX11_countAlike eo_5
      have m2 := moX11_book_55 mk_34 hE
      refine x_kIA (o := o_5) hkl (z_runV (As := [.int x4, .ref r_4, .int x2]) (rest := [.int x3]) C (ct_X11_countAlike l X F k_x0 k_r_4 eo_5) cw_X11_333 hW hZ k_x0 (by decide) rfl rfl rfl hl.1 (Nat.le_of_ble_eq_true rfl) rfl dX11_book_52 ⟨Nat.le_of_ble_eq_true rfl, Nat.le_of_ble_eq_true rfl⟩ (rm_ok hkl m1 m2)) hZ (fun _ _ hW km hZ => ?_)
      replace hkl := hkl.tr km
      replace k_x0 := km.at k_x0 (by decide)
      exact bX11_book_55 C hk_34 mk_34 k_x0 hkl hW hZ _ (lv_sub hl [0, 1, 2, 4] rfl) hE
set_option maxRecDepth 20000 in
theorem bX11_book_29 {p : Program} {l : Launch} {e : Env} {s : State} {m : MethodId} {args : Array Value} {below : List Frame} {meth : Method} {c : Code} {X : Ec} {h0 : Hp} {o : Int32 × Hp} {F : Nat} (C : Cx X p s m args meth c RX11 cX11_book 5 (some .int) "book") {h : Hp} {x0 : Nat} {x1 : Int32} {x2 : Int32} {H : Heap} {locs : List Loc} (k_x0 : hK h x0 = 11) (hkl : Kl h0 h) (hW : Wx X h H) (hZ : va_S (aA (eB X)) s.heap H locs) (ls : Array Slot) (hl : lv_has ls 5 [(0, .ref x0), (1, .int x1), (2, .int x2)]) (hE : sX11_book_29 F h x0 x1 x2 = some o) : W p l e (rmA 7 211 h0 o.2) s m args below meth c H locs (hS h - hS h0) (hL h - hL h0) (MQ below (QIA X h0 o.1 o.2) args s (hS o.2 - hS h0) (hL o.2 - hL h0) (aA (eB X))) (F0 m 29 ls []) := by
  refine lv_iconst (v := (0 : Int32)) C.1 C.2.1 dX11_book_29 (by decide) ?_
  refine lv_istore_n (lv' := [(3, .int (0 : Int32)), (0, .ref x0), (1, .int x1), (2, .int x2)]) C.1 C.2.1 dX11_book_30 rfl hl (by decide) rfl (fun ls hl => ?_)
  refine lv_iconst (v := (0 : Int32)) C.1 C.2.1 dX11_book_31 (by decide) ?_
  refine lv_istore (lv' := [(4, .int (0 : Int32)), (3, .int (0 : Int32)), (0, .ref x0), (1, .int x1), (2, .int x2)]) C.1 C.2.1 dX11_book_32 hl (by decide) rfl (fun ls hl => ?_)
  exact bX11_book_34 C F k_x0 hkl hW hZ _ (lv_sub hl [2, 3, 4, 1, 0] rfl) hE
set_option maxRecDepth 20000 in
theorem bX11_book_23 {p : Program} {l : Launch} {e : Env} {s : State} {m : MethodId} {args : Array Value} {below : List Frame} {meth : Method} {c : Code} {X : Ec} {h0 : Hp} {o : Int32 × Hp} {F : Nat} (C : Cx X p s m args meth c RX11 cX11_book 5 (some .int) "book") {h : Hp} {x0 : Nat} {x1 : Int32} {x2 : Int32} {t0 : Int32} {t1 : Int32} {H : Heap} {locs : List Loc} (k_x0 : hK h x0 = 11) (hkl : Kl h0 h) (hW : Wx X h H) (hZ : va_S (aA (eB X)) s.heap H locs) (ls : Array Slot) (hl : lv_has ls 5 [(0, .ref x0), (1, .int x1), (2, .int x2)]) (hE : sX11_book_23 F h x0 x1 x2 t0 t1 = some o) : W p l e (rmA 7 211 h0 o.2) s m args below meth c H locs (hS h - hS h0) (hL h - hL h0) (MQ below (QIA X h0 o.1 o.2) args s (hS o.2 - hS h0) (hL o.2 - hL h0) (aA (eB X))) (F0 m 23 ls [.int t0, .int t1]) := by
  refine lv_icmp_lt (tgt := 29) C.1 C.2.1 dX11_book_23 (by decide) (fun c_1 => ?_) (fun c_1 => ?_)
  · have hE := br_p hE c_1
    exact bX11_book_29 C k_x0 hkl hW hZ _ (lv_sub hl [0, 1, 2] rfl) hE
  · have hE := br_n hE c_1
    exact bX11_book_26 C hkl hW hZ _ (lv_sub hl [] rfl) hE
set_option maxRecDepth 20000 in
theorem bX11_book_5 {p : Program} {l : Launch} {e : Env} {s : State} {m : MethodId} {args : Array Value} {below : List Frame} {meth : Method} {c : Code} {X : Ec} {h0 : Hp} {o : Int32 × Hp} {F : Nat} (C : Cx X p s m args meth c RX11 cX11_book 5 (some .int) "book") {h : Hp} {x0 : Nat} {x1 : Int32} {x2 : Int32} {t0 : Int32} {H : Heap} {locs : List Loc} (k_x0 : hK h x0 = 11) (hkl : Kl h0 h) (hW : Wx X h H) (hZ : va_S (aA (eB X)) s.heap H locs) (ls : Array Slot) (hl : lv_has ls 5 [(0, .ref x0), (1, .int x1), (2, .int x2)]) (hE : sX11_book_5 F h x0 x1 x2 t0 = some o) : W p l e (rmA 7 211 h0 o.2) s m args below meth c H locs (hS h - hS h0) (hL h - hL h0) (MQ below (QIA X h0 o.1 o.2) args s (hS o.2 - hS h0) (hL o.2 - hL h0) (aA (eB X))) (F0 m 5 ls [.int t0]) := by
  refine lv_if_eq (tgt := 26) C.1 C.2.1 dX11_book_5 (by decide) (fun c_1 => ?_) (fun c_1 => ?_)
  · have hE := br_p hE c_1
    exact bX11_book_26 C hkl hW hZ _ (lv_sub hl [] rfl) hE
  · have hE := br_n hE c_1
    refine lv_iload_n C.1 C.2.1 dX11_book_8 rfl (lv_at hl 2 rfl) ?_
    refine lv_iconst (v := (-1 : Int32)) C.1 C.2.1 dX11_book_9 (by decide) ?_
    refine lv_icmp_eq (tgt := 29) C.1 C.2.1 dX11_book_10 (by decide) (fun c_2 => ?_) (fun c_2 => ?_)
    · have hE := br_p hE c_2
      exact bX11_book_29 C k_x0 hkl hW hZ _ (lv_sub hl [0, 1, 2] rfl) hE
    · have hE := br_n hE c_2
      refine lv_iload_n C.1 C.2.1 dX11_book_13 rfl (lv_at hl 2 rfl) ?_
      refine lv_if_lt (tgt := 26) C.1 C.2.1 dX11_book_14 (by decide) (fun c_3 => ?_) (fun c_3 => ?_)
      · have hE := br_p hE c_3
        exact bX11_book_26 C hkl hW hZ _ (lv_sub hl [] rfl) hE
      · have hE := br_n hE c_3
        refine lv_iload_n C.1 C.2.1 dX11_book_17 rfl (lv_at hl 2 rfl) ?_
        refine lv_aload_n C.1 C.2.1 dX11_book_18 rfl (lv_at hl 0 rfl) ?_
        refine lv_iload_n C.1 C.2.1 dX11_book_19 rfl (lv_at hl 1 rfl) ?_
        obtain ⟨o_4, eo_4, hE⟩ := cl_e hE
        have m1 := moX11_listMoves eo_4
        have m2 := moX11_book_23 hE
        refine x_kI (o := o_4) (z_runV (As := [.int x1]) (rest := [.int x2]) C (ct_X11_listMoves l X F k_x0 eo_4) cw_X11_254 hW hZ k_x0 (by decide) rfl rfl rfl hl.1 (Nat.le_of_ble_eq_true rfl) rfl dX11_book_20 ⟨Nat.le_of_ble_eq_true rfl, Nat.le_of_ble_eq_true rfl⟩ (rm_ok0 hkl m1 m2)) hZ (fun _ _ hW km hZ => ?_)
        replace hkl := hkl.tr km.l
        refine x_wc km ?_
        replace k_x0 := km.at k_x0 (by decide)
        exact bX11_book_23 C k_x0 hkl hW hZ _ (lv_sub hl [0, 1, 2] rfl) hE
set_option maxRecDepth 20000 in
theorem ct_X11_book (l : Launch) (X : Ec) (F : Nat) {h : Hp} {x0 : Nat} {x1 : Int32} {x2 : Int32} {o : Int32 × Hp} (k_x0 : hK h x0 = 11) (hE : sX11_book F h x0 x1 x2 = some o) : MetIA l yX11_book cX11_book 5 (some .int) 7 211 X [.ref x0, .int x1, .int x2] h o := by
  refine x_metA (oh := o.2) (by decide) (Nat.le_of_ble_eq_true rfl) ?_
  intro p e s m below meth c ls C hl hW hZ
  have hl : lv_has ls 5 [(0, .ref x0), (1, .int x1), (2, .int x2)] := hl
  have hkl : Kl h h := Kl.rf h
  refine lv_aload_n C.1 C.2.1 dX11_book_0 rfl (lv_at hl 0 rfl) ?_
  refine lv_iload_n C.1 C.2.1 dX11_book_1 rfl (lv_at hl 1 rfl) ?_
  obtain ⟨o_1, eo_1, hE⟩ := cl_e hE
  have m1 := moX11_isPlace eo_1
  have m2 := moX11_book_5 hE
  refine x_kI (o := o_1) (z_runV (As := [.int x1]) (rest := []) C (ct_X11_isPlace l X k_x0 eo_1) cw_X11_193 hW hZ k_x0 (by decide) rfl rfl rfl hl.1 (Nat.le_of_ble_eq_true rfl) rfl dX11_book_2 ⟨Nat.le_of_ble_eq_true rfl, Nat.le_of_ble_eq_true rfl⟩ (rm_ok0 hkl m1 m2)) hZ (fun _ _ hW km hZ => ?_)
  replace hkl := hkl.tr km.l
  refine x_wc km ?_
  replace k_x0 := km.at k_x0 (by decide)
  exact bX11_book_5 C k_x0 hkl hW hZ _ (lv_sub hl [0, 1, 2] rfl) hE
set_option maxRecDepth 100000 in
theorem m_1503 : Cond.methodLink RX11 337 yX5_seenBy ∈ W0 := w0_in (List.mem_append_right _ (List.mem_of_getElem? (i := 1503) rfl)) rfl
set_option maxRecDepth 100000 in
theorem m_1504 : Cond.instanceMethod yX5_seenBy ∈ W0 := w0_in (List.mem_append_right _ (List.mem_of_getElem? (i := 1504) rfl)) rfl
set_option maxRecDepth 100000 in
theorem m_1505 : Cond.selects RX5 yX5_seenBy yX5_seenBy ∈ W0 := w0_in (List.mem_append_right _ (List.mem_of_getElem? (i := 1505) rfl)) rfl
set_option maxRecDepth 100000 in
theorem m_1506 : Cond.code yX5_seenBy cX5_seenBy 11 (some .long) ∈ W0 := w0_in (List.mem_append_right _ (List.mem_of_getElem? (i := 1506) rfl)) rfl
theorem cw_X11_337 : cwd RX11 337 yX5_seenBy cX5_seenBy 11 (some .long) false 2 := ⟨m_1506, m_1503, m_7, ⟨m_1504, m_1505⟩, by decide, by decide, by decide +kernel⟩
theorem dX11_sees_0 : decode cX11_sees 0 = .ok (.aload_n 0, 1) := by decide +kernel
theorem dX11_sees_1 : decode cX11_sees 1 = .ok (.iload_n 3, 1) := by decide +kernel
theorem dX11_sees_2 : decode cX11_sees 2 = .ok (.invokevirtual 208, 3) := by decide +kernel
theorem dX11_sees_5 : decode cX11_sees 5 = .ok (.ifCond .eq 10, 3) := by decide +kernel
theorem dX11_sees_8 : decode cX11_sees 8 = .ok (.iload_n 2, 1) := by decide +kernel
theorem dX11_sees_9 : decode cX11_sees 9 = .ok (.invokestatic 247, 3) := by decide +kernel
theorem dX11_sees_12 : decode cX11_sees 12 = .ok (.ifCond .ne 6, 3) := by decide +kernel
theorem dX11_sees_15 : decode cX11_sees 15 = .ok (.bipush (-101), 2) := by decide +kernel
theorem dX11_sees_17 : decode cX11_sees 17 = .ok (.ireturn, 1) := by decide +kernel
theorem dX11_sees_18 : decode cX11_sees 18 = .ok (.aload_n 0, 1) := by decide +kernel
theorem dX11_sees_19 : decode cX11_sees 19 = .ok (.iload_n 1, 1) := by decide +kernel
theorem dX11_sees_20 : decode cX11_sees 20 = .ok (.invokevirtual 193, 3) := by decide +kernel
theorem dX11_sees_23 : decode cX11_sees 23 = .ok (.ifCond .ne 6, 3) := by decide +kernel
theorem dX11_sees_26 : decode cX11_sees 26 = .ok (.bipush (-102), 2) := by decide +kernel
theorem dX11_sees_28 : decode cX11_sees 28 = .ok (.ireturn, 1) := by decide +kernel
theorem dX11_sees_29 : decode cX11_sees 29 = .ok (.aload_n 0, 1) := by decide +kernel
theorem dX11_sees_30 : decode cX11_sees 30 = .ok (.getfield 50, 3) := by decide +kernel
theorem dX11_sees_33 : decode cX11_sees 33 = .ok (.aload_n 0, 1) := by decide +kernel
theorem dX11_sees_34 : decode cX11_sees 34 = .ok (.getfield 103, 3) := by decide +kernel
theorem dX11_sees_37 : decode cX11_sees 37 = .ok (.iload_n 1, 1) := by decide +kernel
theorem dX11_sees_38 : decode cX11_sees 38 = .ok (.aaload, 1) := by decide +kernel
theorem dX11_sees_39 : decode cX11_sees 39 = .ok (.iload_n 2, 1) := by decide +kernel
theorem dX11_sees_40 : decode cX11_sees 40 = .ok (.invokevirtual 337, 3) := by decide +kernel
theorem dX11_sees_43 : decode cX11_sees 43 = .ok (.iload_n 3, 1) := by decide +kernel
theorem dX11_sees_44 : decode cX11_sees 44 = .ok (.lushr, 1) := by decide +kernel
theorem dX11_sees_45 : decode cX11_sees 45 = .ok (.lconst 1, 1) := by decide +kernel
theorem dX11_sees_46 : decode cX11_sees 46 = .ok (.land, 1) := by decide +kernel
theorem dX11_sees_47 : decode cX11_sees 47 = .ok (.lconst 0, 1) := by decide +kernel
theorem dX11_sees_48 : decode cX11_sees 48 = .ok (.lcmp, 1) := by decide +kernel
theorem dX11_sees_49 : decode cX11_sees 49 = .ok (.ifCond .eq 7, 3) := by decide +kernel
theorem dX11_sees_52 : decode cX11_sees 52 = .ok (.iconst 1, 1) := by decide +kernel
theorem dX11_sees_53 : decode cX11_sees 53 = .ok (.goto 4, 3) := by decide +kernel
theorem dX11_sees_56 : decode cX11_sees 56 = .ok (.iconst 0, 1) := by decide +kernel
theorem dX11_sees_57 : decode cX11_sees 57 = .ok (.ireturn, 1) := by decide +kernel
set_option maxRecDepth 20000 in
theorem moX11_sees_15 {o : Int32 × Hp} {F : Nat} {h : Hp} (hE : sX11_sees_15 F h  = some o) : Le h o.2 := by
  exact le_some2 hE
set_option maxRecDepth 20000 in
theorem moX11_sees_57 {o : Int32 × Hp} {F : Nat} {h : Hp} {t0 : Int32} (hE : sX11_sees_57 F h  t0 = some o) : Le h o.2 := by
  exact le_some2 hE
set_option maxRecDepth 20000 in
theorem moX11_sees {o : Int32 × Hp} {F : Nat} {h : Hp} {x0 : Nat} {x1 : Int32} {x2 : Int32} {x3 : Int32} (hE : sX11_sees F h x0 x1 x2 x3 = some o) : Le h o.2 := by
  obtain ⟨o_1, eo_1, hE⟩ := cl_e hE
  refine (moX11_isSquare eo_1).tr ?_
  rcases br_e hE with ⟨_, hE⟩ | ⟨_, hE⟩
  · exact moX11_sees_15 hE
  · obtain ⟨o_3, eo_3, hE⟩ := cl_e hE
    refine (moX11_isSide eo_3).tr ?_
    rcases br_e hE with ⟨_, hE⟩ | ⟨_, hE⟩
    · exact moX11_sees_15 hE
    · obtain ⟨o_5, eo_5, hE⟩ := cl_e hE
      refine (moX11_isPlace eo_5).tr ?_
      rcases br_e hE with ⟨_, hE⟩ | ⟨_, hE⟩
      · exact le_some2 hE
      · obtain ⟨r_7, er_7, hE⟩ := cl_e hE
        obtain ⟨r_8, er_8, hE⟩ := cl_e hE
        obtain ⟨g_9, hE⟩ := gd_e hE
        obtain ⟨r_10, er_10, hE⟩ := cl_e hE
        obtain ⟨o_11, eo_11, hE⟩ := cl_e hE
        refine (moX5_seenBy eo_11).tr ?_
        rcases br_e hE with ⟨_, hE⟩ | ⟨_, hE⟩
        · exact moX11_sees_57 hE
        · exact moX11_sees_57 hE
set_option maxRecDepth 20000 in
theorem bX11_sees_15 {p : Program} {l : Launch} {e : Env} {s : State} {m : MethodId} {args : Array Value} {below : List Frame} {meth : Method} {c : Code} {X : Ec} {h0 : Hp} {o : Int32 × Hp} {F : Nat} (C : Cx X p s m args meth c RX11 cX11_sees 4 (some .int) "sees") {h : Hp} {H : Heap} {locs : List Loc} (hkm : Km h0 h) (hW : Wx X h H) (hZ : va_S (aA (eB X)) s.heap H locs) (ls : Array Slot) (hl : lv_has ls 4 []) (hE : sX11_sees_15 F h  = some o) : W p l e (rm 3 82) s m args below meth c H locs 0 0 (MQ below (QI X h0 o.1 o.2) args s 0 0 (aA (eB X))) (F0 m 15 ls []) := by
  refine lv_bipush (v := (-101 : Int32)) C.1 C.2.1 dX11_sees_15 (by decide) ?_
  exact x_iret C rfl rfl hW hZ hkm hE dX11_sees_17
set_option maxRecDepth 20000 in
theorem bX11_sees_57 {p : Program} {l : Launch} {e : Env} {s : State} {m : MethodId} {args : Array Value} {below : List Frame} {meth : Method} {c : Code} {X : Ec} {h0 : Hp} {o : Int32 × Hp} {F : Nat} (C : Cx X p s m args meth c RX11 cX11_sees 4 (some .int) "sees") {h : Hp} {t0 : Int32} {H : Heap} {locs : List Loc} (hkm : Km h0 h) (hW : Wx X h H) (hZ : va_S (aA (eB X)) s.heap H locs) (ls : Array Slot) (hl : lv_has ls 4 []) (hE : sX11_sees_57 F h  t0 = some o) : W p l e (rm 3 82) s m args below meth c H locs 0 0 (MQ below (QI X h0 o.1 o.2) args s 0 0 (aA (eB X))) (F0 m 57 ls [.int t0]) := by
  exact x_iret C rfl rfl hW hZ hkm hE dX11_sees_57
set_option maxRecDepth 20000 in
theorem ct_X11_sees (l : Launch) (X : Ec) (F : Nat) {h : Hp} {x0 : Nat} {x1 : Int32} {x2 : Int32} {x3 : Int32} {o : Int32 × Hp} (k_x0 : hK h x0 = 11) (hE : sX11_sees F h x0 x1 x2 x3 = some o) : MetI l yX11_sees cX11_sees 4 (some .int) 3 82 X [.ref x0, .int x1, .int x2, .int x3] h o := by
  refine x_met (by decide) (Nat.le_of_ble_eq_true rfl) ?_
  intro p e s m below meth c ls C hl hW hZ
  have hl : lv_has ls 4 [(0, .ref x0), (1, .int x1), (2, .int x2), (3, .int x3)] := hl
  have hkm : Km h h := Km.rf h
  refine lv_aload_n C.1 C.2.1 dX11_sees_0 rfl (lv_at hl 0 rfl) ?_
  refine lv_iload_n C.1 C.2.1 dX11_sees_1 rfl (lv_at hl 3 rfl) ?_
  obtain ⟨o_1, eo_1, hE⟩ := cl_e hE
  refine x_kI (o := o_1) (z_runV (As := [.int x3]) (rest := []) C (ct_X11_isSquare l X k_x0 eo_1) cw_X11_208 hW hZ k_x0 (by decide) rfl rfl rfl hl.1 (Nat.le_of_ble_eq_true rfl) rfl dX11_sees_2 ⟨Nat.le_of_ble_eq_true rfl, Nat.le_of_ble_eq_true rfl⟩ ⟨Nat.le_refl _, Nat.le_refl _⟩) hZ (fun _ _ hW km hZ => ?_)
  replace hkm := hkm.tr km
  replace k_x0 := km.at k_x0 (by decide)
  refine lv_if_eq (tgt := 15) C.1 C.2.1 dX11_sees_5 (by decide) (fun c_2 => ?_) (fun c_2 => ?_)
  · have hE := br_p hE c_2
    exact bX11_sees_15 C hkm hW hZ _ (lv_sub hl [] rfl) hE
  · have hE := br_n hE c_2
    refine lv_iload_n C.1 C.2.1 dX11_sees_8 rfl (lv_at hl 2 rfl) ?_
    obtain ⟨o_3, eo_3, hE⟩ := cl_e hE
    refine x_kI (o := o_3) (z_runS (As := [.int x2]) (rest := []) C (ct_X11_isSide l X eo_3) cw_X11_247 hW hZ rfl hl.1 (Nat.le_of_ble_eq_true rfl) rfl dX11_sees_9 ⟨Nat.le_of_ble_eq_true rfl, Nat.le_of_ble_eq_true rfl⟩ ⟨Nat.le_refl _, Nat.le_refl _⟩) hZ (fun _ _ hW km hZ => ?_)
    replace hkm := hkm.tr km
    replace k_x0 := km.at k_x0 (by decide)
    refine lv_if_ne (tgt := 18) C.1 C.2.1 dX11_sees_12 (by decide) (fun c_4 => ?_) (fun c_4 => ?_)
    · have hE := br_n hE c_4
      refine lv_aload_n C.1 C.2.1 dX11_sees_18 rfl (lv_at hl 0 rfl) ?_
      refine lv_iload_n C.1 C.2.1 dX11_sees_19 rfl (lv_at hl 1 rfl) ?_
      obtain ⟨o_5, eo_5, hE⟩ := cl_e hE
      refine x_kI (o := o_5) (z_runV (As := [.int x1]) (rest := []) C (ct_X11_isPlace l X k_x0 eo_5) cw_X11_193 hW hZ k_x0 (by decide) rfl rfl rfl hl.1 (Nat.le_of_ble_eq_true rfl) rfl dX11_sees_20 ⟨Nat.le_of_ble_eq_true rfl, Nat.le_of_ble_eq_true rfl⟩ ⟨Nat.le_refl _, Nat.le_refl _⟩) hZ (fun _ _ hW km hZ => ?_)
      replace hkm := hkm.tr km
      replace k_x0 := km.at k_x0 (by decide)
      refine lv_if_ne (tgt := 29) C.1 C.2.1 dX11_sees_23 (by decide) (fun c_6 => ?_) (fun c_6 => ?_)
      · have hE := br_n hE c_6
        refine lv_aload_n C.1 C.2.1 dX11_sees_29 rfl (lv_at hl 0 rfl) ?_
        obtain ⟨r_7, er_7, hE⟩ := cl_e hE
        refine gf_X11_50 C hW k_x0 er_7 dX11_sees_30 (fun k_r_7 => ?_)
        refine lv_aload_n C.1 C.2.1 dX11_sees_33 rfl (lv_at hl 0 rfl) ?_
        obtain ⟨r_8, er_8, hE⟩ := cl_e hE
        refine gf_X11_103 C hW k_x0 er_8 dX11_sees_34 (fun k_r_8 => ?_)
        refine lv_iload_n C.1 C.2.1 dX11_sees_37 rfl (lv_at hl 1 rfl) ?_
        obtain ⟨g_9, hE⟩ := gd_e hE
        obtain ⟨r_10, er_10, hE⟩ := cl_e hE
        refine y_aald (t0 := 4) C hW k_r_8 (by decide) (by decide) rfl rfl rfl (fun _ => rfl) g_9 er_10 dX11_sees_38 (fun k_r_10 => ?_)
        refine lv_iload_n C.1 C.2.1 dX11_sees_39 rfl (lv_at hl 2 rfl) ?_
        obtain ⟨o_11, eo_11, hE⟩ := cl_e hE
        refine x_kJ (o := o_11) (z_runV (As := [.ref r_10, .int x2]) (rest := []) C (ct_X5_seenBy l X F k_r_7 k_r_10 eo_11) cw_X11_337 hW hZ k_r_7 (by decide) rfl rfl rfl hl.1 (Nat.le_of_ble_eq_true rfl) rfl dX11_sees_40 ⟨Nat.le_of_ble_eq_true rfl, Nat.le_of_ble_eq_true rfl⟩ ⟨Nat.le_refl _, Nat.le_refl _⟩) hZ (fun _ _ hW km hZ => ?_)
        replace hkm := hkm.tr km
        replace k_x0 := km.at k_x0 (by decide)
        refine lv_iload_n C.1 C.2.1 dX11_sees_43 rfl (lv_at hl 3 rfl) ?_
        refine lv_lushr C.1 C.2.1 dX11_sees_44 rfl ?_
        refine lv_lconst (v := (1 : Int64)) C.1 C.2.1 dX11_sees_45 (by decide) ?_
        refine lv_land C.1 C.2.1 dX11_sees_46 ?_
        refine lv_lconst (v := (0 : Int64)) C.1 C.2.1 dX11_sees_47 (by decide) ?_
        refine W.lcmp C.1 C.2.1 dX11_sees_48 ?_
        refine lv_if_eq (tgt := 56) C.1 C.2.1 dX11_sees_49 (by decide) (fun c_12 => ?_) (fun c_12 => ?_)
        · have hE := br_p hE c_12
          refine lv_iconst (v := (0 : Int32)) C.1 C.2.1 dX11_sees_56 (by decide) ?_
          exact bX11_sees_57 C hkm hW hZ _ (lv_sub hl [] rfl) hE
        · have hE := br_n hE c_12
          refine lv_iconst (v := (1 : Int32)) C.1 C.2.1 dX11_sees_52 (by decide) ?_
          refine lv_goto (tgt := 57) C.1 C.2.1 dX11_sees_53 (by decide) ?_
          exact bX11_sees_57 C hkm hW hZ _ (lv_sub hl [] rfl) hE
      · have hE := br_p hE c_6
        refine lv_bipush (v := (-102 : Int32)) C.1 C.2.1 dX11_sees_26 (by decide) ?_
        exact x_iret C rfl rfl hW hZ hkm hE dX11_sees_28
    · have hE := br_p hE c_4
      exact bX11_sees_15 C hkm hW hZ _ (lv_sub hl [] rfl) hE
