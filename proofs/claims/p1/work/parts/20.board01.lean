set_option maxRecDepth 100000 in
theorem m_1910 : Cond.fieldLink RX12 30 (TX12 1).1 (TX12 1).2.1 (TX12 1).2.2.1 ∈ W0 := w0_in (List.mem_append_right _ (List.mem_of_getElem? (i := 1910) rfl)) rfl
set_option maxRecDepth 100000 in
theorem m_1912 : Cond.fieldLink RX12 34 (TX12 2).1 (TX12 2).2.1 (TX12 2).2.2.1 ∈ W0 := w0_in (List.mem_append_right _ (List.mem_of_getElem? (i := 1912) rfl)) rfl
set_option maxRecDepth 100000 in
theorem m_1914 : Cond.fieldLink RX12 38 (TX12 3).1 (TX12 3).2.1 (TX12 3).2.2.1 ∈ W0 := w0_in (List.mem_append_right _ (List.mem_of_getElem? (i := 1914) rfl)) rfl
set_option maxRecDepth 100000 in
theorem m_1922 : Cond.fieldLink RX12 41 (TX12 7).1 (TX12 7).2.1 (TX12 7).2.2.1 ∈ W0 := w0_in (List.mem_append_right _ (List.mem_of_getElem? (i := 1922) rfl)) rfl
section
variable {p : Program} {l : Launch} {e : Env} {R : Room} {s : State} {m : MethodId} {args : Array Value} {below : List Frame} {meth : Method} {c : Code} {H : Heap} {locs : List Loc} {cells slots : Nat} {Q : State → Prop}
variable {cc : ByteArray} {pc : Nat} {ls : Array Slot} {rest : List Value} {X : Ec} {h h1 : Hp} {nL : Nat} {rt : Option FieldType} {mn : String}
theorem gf_X12_21 {a r : Nat} (C : Cx X p s m args meth c RX12 cc nL rt mn) (hW : Wx X h H) (ha : hK h a = 12) (hr : hR h a 6 = some r) (hdg : decode cc pc = .ok (.getfield 21, 3)) (kk : hK h r = 17 → W p l e R s m args below meth c H locs cells slots Q (F0 m (pc + 3) ls (.ref r :: rest))) : W p l e R s m args below meth c H locs cells slots Q (F0 m pc ls (.ref a :: rest)) :=
  y_getr C hW ha i_X12 (by decide) rfl (by decide) m_1920 rfl rfl hr hdg kk
theorem pf_X12_41 {a : Nat} {v : Int32} (C : Cx X p s m args meth c RX12 cc nL rt mn) (hW : Wx X h H) (hZ : va_S (aA (eB X)) s.heap H locs) (ha : hK h a = 12) (eh : h1 = wI h a 7 v) (hdg : decode cc pc = .ok (.putfield 41, 3)) (kk : ∀ (H1 : Heap) (locs1 : List Loc), Wx X h1 H1 → Km h h1 → va_S (aA (eB X)) s.heap H1 locs1 → W p l e R s m args below meth c H1 locs1 cells slots Q (F0 m (pc + 3) ls rest)) : W p l e R s m args below meth c H locs cells slots Q (F0 m pc ls (.int v :: .ref a :: rest)) :=
  y_puti (ty := .int) C hW hZ ha i_X12 tyX12 tyX12_ok nmX12 (by decide) rfl rfl (by decide) m_1922 rfl (by decide +kernel) rfl rfl rfl eh hdg kk
theorem gf_X12_18 {a r : Nat} (C : Cx X p s m args meth c RX12 cc nL rt mn) (hW : Wx X h H) (ha : hK h a = 12) (hr : hR h a 5 = some r) (hdg : decode cc pc = .ok (.getfield 18, 3)) (kk : hK h r = 17 → W p l e R s m args below meth c H locs cells slots Q (F0 m (pc + 3) ls (.ref r :: rest))) : W p l e R s m args below meth c H locs cells slots Q (F0 m pc ls (.ref a :: rest)) :=
  y_getr C hW ha i_X12 (by decide) rfl (by decide) m_1918 rfl rfl hr hdg kk
theorem pf_X12_30 {a : Nat} {v : Int32} (C : Cx X p s m args meth c RX12 cc nL rt mn) (hW : Wx X h H) (hZ : va_S (aA (eB X)) s.heap H locs) (ha : hK h a = 12) (eh : h1 = wI h a 1 v) (hdg : decode cc pc = .ok (.putfield 30, 3)) (kk : ∀ (H1 : Heap) (locs1 : List Loc), Wx X h1 H1 → Km h h1 → va_S (aA (eB X)) s.heap H1 locs1 → W p l e R s m args below meth c H1 locs1 cells slots Q (F0 m (pc + 3) ls rest)) : W p l e R s m args below meth c H locs cells slots Q (F0 m pc ls (.int v :: .ref a :: rest)) :=
  y_puti (ty := .int) C hW hZ ha i_X12 tyX12 tyX12_ok nmX12 (by decide) rfl rfl (by decide) m_1910 rfl (by decide +kernel) rfl rfl rfl eh hdg kk
theorem pf_X12_34 {a : Nat} {v : Int64} (C : Cx X p s m args meth c RX12 cc nL rt mn) (hW : Wx X h H) (hZ : va_S (aA (eB X)) s.heap H locs) (ha : hK h a = 12) (eh : h1 = wJ h a 2 v) (hdg : decode cc pc = .ok (.putfield 34, 3)) (kk : ∀ (H1 : Heap) (locs1 : List Loc), Wx X h1 H1 → Km h h1 → va_S (aA (eB X)) s.heap H1 locs1 → W p l e R s m args below meth c H1 locs1 cells slots Q (F0 m (pc + 3) ls rest)) : W p l e R s m args below meth c H locs cells slots Q (F0 m pc ls (.long v :: .ref a :: rest)) :=
  y_putj C hW hZ ha i_X12 tyX12 tyX12_ok nmX12 (by decide) rfl rfl (by decide) m_1912 rfl (by decide +kernel) rfl eh hdg kk
theorem pf_X12_38 {a : Nat} {v : Int32} (C : Cx X p s m args meth c RX12 cc nL rt mn) (hW : Wx X h H) (hZ : va_S (aA (eB X)) s.heap H locs) (ha : hK h a = 12) (eh : h1 = wI h a 3 v) (hdg : decode cc pc = .ok (.putfield 38, 3)) (kk : ∀ (H1 : Heap) (locs1 : List Loc), Wx X h1 H1 → Km h h1 → va_S (aA (eB X)) s.heap H1 locs1 → W p l e R s m args below meth c H1 locs1 cells slots Q (F0 m (pc + 3) ls rest)) : W p l e R s m args below meth c H locs cells slots Q (F0 m pc ls (.int v :: .ref a :: rest)) :=
  y_puti (ty := .int) C hW hZ ha i_X12 tyX12 tyX12_ok nmX12 (by decide) rfl rfl (by decide) m_1914 rfl (by decide +kernel) rfl rfl rfl eh hdg kk
theorem gf_X12_9 {a r : Nat} (C : Cx X p s m args meth c RX12 cc nL rt mn) (hW : Wx X h H) (ha : hK h a = 12) (hr : hR h a 0 = some r) (hdg : decode cc pc = .ok (.getfield 9, 3)) (kk : hK h r = 17 → W p l e R s m args below meth c H locs cells slots Q (F0 m (pc + 3) ls (.ref r :: rest))) : W p l e R s m args below meth c H locs cells slots Q (F0 m pc ls (.ref a :: rest)) :=
  y_getr C hW ha i_X12 (by decide) rfl (by decide) m_1908 rfl rfl hr hdg kk
end
theorem dX12_clear_0 : decode cX12_clear 0 = .ok (.iconst 0, 1) := by decide +kernel
theorem dX12_clear_1 : decode cX12_clear 1 = .ok (.istore_n 1, 1) := by decide +kernel
theorem dX12_clear_2 : decode cX12_clear 2 = .ok (.iload_n 1, 1) := by decide +kernel
theorem dX12_clear_3 : decode cX12_clear 3 = .ok (.bipush 64, 2) := by decide +kernel
theorem dX12_clear_5 : decode cX12_clear 5 = .ok (.if_icmp .ge 16, 3) := by decide +kernel
theorem dX12_clear_8 : decode cX12_clear 8 = .ok (.aload_n 0, 1) := by decide +kernel
theorem dX12_clear_9 : decode cX12_clear 9 = .ok (.getfield 9, 3) := by decide +kernel
theorem dX12_clear_12 : decode cX12_clear 12 = .ok (.iload_n 1, 1) := by decide +kernel
theorem dX12_clear_13 : decode cX12_clear 13 = .ok (.iconst 0, 1) := by decide +kernel
theorem dX12_clear_14 : decode cX12_clear 14 = .ok (.iastore, 1) := by decide +kernel
theorem dX12_clear_15 : decode cX12_clear 15 = .ok (.iinc 1 1, 3) := by decide +kernel
theorem dX12_clear_18 : decode cX12_clear 18 = .ok (.goto (-16), 3) := by decide +kernel
theorem dX12_clear_21 : decode cX12_clear 21 = .ok (.aload_n 0, 1) := by decide +kernel
theorem dX12_clear_22 : decode cX12_clear 22 = .ok (.iconst 0, 1) := by decide +kernel
theorem dX12_clear_23 : decode cX12_clear 23 = .ok (.putfield 30, 3) := by decide +kernel
theorem dX12_clear_26 : decode cX12_clear 26 = .ok (.aload_n 0, 1) := by decide +kernel
theorem dX12_clear_27 : decode cX12_clear 27 = .ok (.lconst 0, 1) := by decide +kernel
theorem dX12_clear_28 : decode cX12_clear 28 = .ok (.putfield 34, 3) := by decide +kernel
theorem dX12_clear_31 : decode cX12_clear 31 = .ok (.aload_n 0, 1) := by decide +kernel
theorem dX12_clear_32 : decode cX12_clear 32 = .ok (.iconst 0, 1) := by decide +kernel
theorem dX12_clear_33 : decode cX12_clear 33 = .ok (.putfield 38, 3) := by decide +kernel
theorem dX12_clear_36 : decode cX12_clear 36 = .ok (.iconst 0, 1) := by decide +kernel
theorem dX12_clear_37 : decode cX12_clear 37 = .ok (.istore_n 1, 1) := by decide +kernel
theorem dX12_clear_38 : decode cX12_clear 38 = .ok (.iload_n 1, 1) := by decide +kernel
theorem dX12_clear_39 : decode cX12_clear 39 = .ok (.bipush 24, 2) := by decide +kernel
theorem dX12_clear_41 : decode cX12_clear 41 = .ok (.if_icmp .ge 16, 3) := by decide +kernel
theorem dX12_clear_44 : decode cX12_clear 44 = .ok (.aload_n 0, 1) := by decide +kernel
theorem dX12_clear_45 : decode cX12_clear 45 = .ok (.getfield 18, 3) := by decide +kernel
theorem dX12_clear_48 : decode cX12_clear 48 = .ok (.iload_n 1, 1) := by decide +kernel
theorem dX12_clear_49 : decode cX12_clear 49 = .ok (.iconst 0, 1) := by decide +kernel
theorem dX12_clear_50 : decode cX12_clear 50 = .ok (.iastore, 1) := by decide +kernel
theorem dX12_clear_51 : decode cX12_clear 51 = .ok (.iinc 1 1, 3) := by decide +kernel
theorem dX12_clear_54 : decode cX12_clear 54 = .ok (.goto (-16), 3) := by decide +kernel
theorem dX12_clear_57 : decode cX12_clear 57 = .ok (.aload_n 0, 1) := by decide +kernel
theorem dX12_clear_58 : decode cX12_clear 58 = .ok (.getfield 21, 3) := by decide +kernel
theorem dX12_clear_61 : decode cX12_clear 61 = .ok (.iconst 0, 1) := by decide +kernel
theorem dX12_clear_62 : decode cX12_clear 62 = .ok (.iconst 0, 1) := by decide +kernel
theorem dX12_clear_63 : decode cX12_clear 63 = .ok (.iastore, 1) := by decide +kernel
theorem dX12_clear_64 : decode cX12_clear 64 = .ok (.aload_n 0, 1) := by decide +kernel
theorem dX12_clear_65 : decode cX12_clear 65 = .ok (.getfield 21, 3) := by decide +kernel
theorem dX12_clear_68 : decode cX12_clear 68 = .ok (.iconst 1, 1) := by decide +kernel
theorem dX12_clear_69 : decode cX12_clear 69 = .ok (.iconst 0, 1) := by decide +kernel
theorem dX12_clear_70 : decode cX12_clear 70 = .ok (.iastore, 1) := by decide +kernel
theorem dX12_clear_71 : decode cX12_clear 71 = .ok (.aload_n 0, 1) := by decide +kernel
theorem dX12_clear_72 : decode cX12_clear 72 = .ok (.iconst 0, 1) := by decide +kernel
theorem dX12_clear_73 : decode cX12_clear 73 = .ok (.putfield 41, 3) := by decide +kernel
theorem dX12_clear_76 : decode cX12_clear 76 = .ok (.return_, 1) := by decide +kernel
set_option maxRecDepth 20000 in
theorem moX12_clear_38 {o : Hp} {F : Nat} : ∀ (f : Nat) {h : Hp} {x0 : Nat} {x1 : Int32}, sX12_clear_38 F f h x0 x1 = some o → Le h o := by
  intro f
  induction f with
  | zero =>
    intro h x0 x1 hE
    rw [sX12_clear_38] at hE
    cases hE
  | succ f ih =>
    intro h x0 x1 hE
    rw [sX12_clear_38] at hE
    have mk_38 : ∀ (h : Hp) (x0 : Nat) (x1 : Int32), sX12_clear_38 F f h x0 x1 = some o → Le h o := fun h x0 x1 hE => ih hE
    rcases br_e hE with ⟨_, hE⟩ | ⟨_, hE⟩
    · obtain ⟨r_2, er_2, hE⟩ := cl_e hE
      obtain ⟨g_3, hE⟩ := gd_e hE
      obtain ⟨h_4, eh_4, hE⟩ := nm_e2 hE
      refine (le_I eh_4).tr ?_
      obtain ⟨r_5, er_5, hE⟩ := cl_e hE
      obtain ⟨g_6, hE⟩ := gd_e hE
      obtain ⟨h_7, eh_7, hE⟩ := nm_e2 hE
      refine (le_I eh_7).tr ?_
      obtain ⟨h_8, eh_8, hE⟩ := nm_e2 hE
      refine (le_I eh_8).tr ?_
      exact le_some1 hE
    · obtain ⟨r_9, er_9, hE⟩ := cl_e hE
      obtain ⟨g_10, hE⟩ := gd_e hE
      obtain ⟨h_11, eh_11, hE⟩ := nm_e2 hE
      refine (le_I eh_11).tr ?_
      obtain ⟨v_12, ev_12, hE⟩ := nm_e2 hE
      exact mk_38 _ _ _ hE
set_option maxRecDepth 20000 in
theorem moX12_clear_2 {o : Hp} {F : Nat} : ∀ (f : Nat) {h : Hp} {x0 : Nat} {x1 : Int32}, sX12_clear_2 F f h x0 x1 = some o → Le h o := by
  intro f
  induction f with
  | zero =>
    intro h x0 x1 hE
    rw [sX12_clear_2] at hE
    cases hE
  | succ f ih =>
    intro h x0 x1 hE
    rw [sX12_clear_2] at hE
    have mk_2 : ∀ (h : Hp) (x0 : Nat) (x1 : Int32), sX12_clear_2 F f h x0 x1 = some o → Le h o := fun h x0 x1 hE => ih hE
    rcases br_e hE with ⟨_, hE⟩ | ⟨_, hE⟩
    · obtain ⟨h_2, eh_2, hE⟩ := nm_e2 hE
      refine (le_I eh_2).tr ?_
      obtain ⟨h_3, eh_3, hE⟩ := nm_e2 hE
      refine (le_J eh_3).tr ?_
      obtain ⟨h_4, eh_4, hE⟩ := nm_e2 hE
      refine (le_I eh_4).tr ?_
      exact moX12_clear_38 _ hE
    · obtain ⟨r_5, er_5, hE⟩ := cl_e hE
      obtain ⟨g_6, hE⟩ := gd_e hE
      obtain ⟨h_7, eh_7, hE⟩ := nm_e2 hE
      refine (le_I eh_7).tr ?_
      obtain ⟨v_8, ev_8, hE⟩ := nm_e2 hE
      exact mk_2 _ _ _ hE
set_option maxRecDepth 20000 in
theorem moX12_clear {o : Hp} {F : Nat} {h : Hp} {x0 : Nat} (hE : sX12_clear F h x0 = some o) : Le h o := by
  exact moX12_clear_2 _ hE
set_option maxRecDepth 20000 in
theorem bX12_clear_38 {p : Program} {l : Launch} {e : Env} {s : State} {m : MethodId} {args : Array Value} {below : List Frame} {meth : Method} {c : Code} {X : Ec} {h0 : Hp} {o : Hp} {F : Nat} (C : Cx X p s m args meth c RX12 cX12_clear 2 none "clear") : ∀ (f : Nat) {h : Hp} {x0 : Nat} {x1 : Int32} {H : Heap} {locs : List Loc} (k_x0 : hK h x0 = 12), Km h0 h → Wx X h H → va_S (aA (eB X)) s.heap H locs → ∀ (ls : Array Slot), lv_has ls 2 [(0, .ref x0), (1, .int x1)] → sX12_clear_38 F f h x0 x1 = some o → W p l e (rm 0 0) s m args below meth c H locs 0 0 (MQ below (QV X h0 o) args s 0 0 (aA (eB X))) (F0 m 38 ls []) := by
  intro f
  induction f with
  | zero =>
    intro h x0 x1 H locs k_x0 hkm hW hZ ls hl hE
    rw [sX12_clear_38] at hE
    cases hE
  | succ f ih =>
    intro h x0 x1 H locs k_x0 hkm hW hZ ls hl hE
    rw [sX12_clear_38] at hE
    have hk_38 : ∀ (h : Hp) (x0 : Nat) (x1 : Int32) (H : Heap) (locs : List Loc), hK h x0 = 12 → Km h0 h → Wx X h H → va_S (aA (eB X)) s.heap H locs → ∀ (ls : Array Slot), lv_has ls 2 [(0, .ref x0), (1, .int x1)] → sX12_clear_38 F f h x0 x1 = some o → W p l e (rm 0 0) s m args below meth c H locs 0 0 (MQ below (QV X h0 o) args s 0 0 (aA (eB X))) (F0 m 38 ls []) := fun h x0 x1 H locs k_x0 a b c ls hl hE => ih k_x0 a b c ls hl hE
    refine lv_iload_n C.1 C.2.1 dX12_clear_38 rfl (lv_at hl 1 rfl) ?_
    refine lv_bipush (v := (24 : Int32)) C.1 C.2.1 dX12_clear_39 (by decide) ?_
    refine lv_icmp_ge (tgt := 57) C.1 C.2.1 dX12_clear_41 (by decide) (fun c_1 => ?_) (fun c_1 => ?_)
    · have hE := br_p hE c_1
      refine lv_aload_n C.1 C.2.1 dX12_clear_57 rfl (lv_at hl 0 rfl) ?_
      obtain ⟨r_2, er_2, hE⟩ := cl_e hE
      refine gf_X12_21 C hW k_x0 er_2 dX12_clear_58 (fun k_r_2 => ?_)
      refine lv_iconst (v := (0 : Int32)) C.1 C.2.1 dX12_clear_61 (by decide) ?_
      refine lv_iconst (v := (0 : Int32)) C.1 C.2.1 dX12_clear_62 (by decide) ?_
      obtain ⟨g_3, hE⟩ := gd_e hE
      obtain ⟨h_4, eh_4, hE⟩ := nm_e2 hE
      refine y_iast C hW hZ k_r_2 g_3 eh_4 dX12_clear_63 (fun _ _ hW km hZ => ?_)
      replace hkm := hkm.tr km
      replace k_x0 := km.at k_x0 (by decide)
      refine lv_aload_n C.1 C.2.1 dX12_clear_64 rfl (lv_at hl 0 rfl) ?_
      obtain ⟨r_5, er_5, hE⟩ := cl_e hE
      refine gf_X12_21 C hW k_x0 er_5 dX12_clear_65 (fun k_r_5 => ?_)
      refine lv_iconst (v := (1 : Int32)) C.1 C.2.1 dX12_clear_68 (by decide) ?_
      refine lv_iconst (v := (0 : Int32)) C.1 C.2.1 dX12_clear_69 (by decide) ?_
      obtain ⟨g_6, hE⟩ := gd_e hE
      obtain ⟨h_7, eh_7, hE⟩ := nm_e2 hE
      refine y_iast C hW hZ k_r_5 g_6 eh_7 dX12_clear_70 (fun _ _ hW km hZ => ?_)
      replace hkm := hkm.tr km
      replace k_x0 := km.at k_x0 (by decide)
      refine lv_aload_n C.1 C.2.1 dX12_clear_71 rfl (lv_at hl 0 rfl) ?_
      refine lv_iconst (v := (0 : Int32)) C.1 C.2.1 dX12_clear_72 (by decide) ?_
      obtain ⟨h_8, eh_8, hE⟩ := nm_e2 hE
      refine pf_X12_41 C hW hZ k_x0 eh_8 dX12_clear_73 (fun _ _ hW km hZ => ?_)
      replace hkm := hkm.tr km
      replace k_x0 := km.at k_x0 (by decide)
      exact x_vret C rfl hW hZ hkm hE dX12_clear_76
    · have hE := br_n hE c_1
      refine lv_aload_n C.1 C.2.1 dX12_clear_44 rfl (lv_at hl 0 rfl) ?_
      obtain ⟨r_9, er_9, hE⟩ := cl_e hE
      refine gf_X12_18 C hW k_x0 er_9 dX12_clear_45 (fun k_r_9 => ?_)
      refine lv_iload_n C.1 C.2.1 dX12_clear_48 rfl (lv_at hl 1 rfl) ?_
      refine lv_iconst (v := (0 : Int32)) C.1 C.2.1 dX12_clear_49 (by decide) ?_
      obtain ⟨g_10, hE⟩ := gd_e hE
      obtain ⟨h_11, eh_11, hE⟩ := nm_e2 hE
      refine y_iast C hW hZ k_r_9 g_10 eh_11 dX12_clear_50 (fun _ _ hW km hZ => ?_)
      replace hkm := hkm.tr km
      replace k_x0 := km.at k_x0 (by decide)
      obtain ⟨v_12, ev_12, hE⟩ := nm_e2 hE
      refine lv_iinc (v := v_12) (lv' := [(1, .int v_12), (0, .ref x0)]) C.1 C.2.1 dX12_clear_51 hl (k := 1) rfl (by rw [ev_12]; rfl) (by decide) rfl (fun ls hl => ?_)
      refine lv_goto (tgt := 38) C.1 C.2.1 dX12_clear_54 (by decide) ?_
      exact hk_38 _ _ _ _ _ k_x0 hkm hW hZ _ (lv_sub hl [1, 0] rfl) hE
set_option maxRecDepth 20000 in
theorem bX12_clear_2 {p : Program} {l : Launch} {e : Env} {s : State} {m : MethodId} {args : Array Value} {below : List Frame} {meth : Method} {c : Code} {X : Ec} {h0 : Hp} {o : Hp} {F : Nat} (C : Cx X p s m args meth c RX12 cX12_clear 2 none "clear") : ∀ (f : Nat) {h : Hp} {x0 : Nat} {x1 : Int32} {H : Heap} {locs : List Loc} (k_x0 : hK h x0 = 12), Km h0 h → Wx X h H → va_S (aA (eB X)) s.heap H locs → ∀ (ls : Array Slot), lv_has ls 2 [(0, .ref x0), (1, .int x1)] → sX12_clear_2 F f h x0 x1 = some o → W p l e (rm 0 0) s m args below meth c H locs 0 0 (MQ below (QV X h0 o) args s 0 0 (aA (eB X))) (F0 m 2 ls []) := by
  intro f
  induction f with
  | zero =>
    intro h x0 x1 H locs k_x0 hkm hW hZ ls hl hE
    rw [sX12_clear_2] at hE
    cases hE
  | succ f ih =>
    intro h x0 x1 H locs k_x0 hkm hW hZ ls hl hE
    rw [sX12_clear_2] at hE
    have hk_2 : ∀ (h : Hp) (x0 : Nat) (x1 : Int32) (H : Heap) (locs : List Loc), hK h x0 = 12 → Km h0 h → Wx X h H → va_S (aA (eB X)) s.heap H locs → ∀ (ls : Array Slot), lv_has ls 2 [(0, .ref x0), (1, .int x1)] → sX12_clear_2 F f h x0 x1 = some o → W p l e (rm 0 0) s m args below meth c H locs 0 0 (MQ below (QV X h0 o) args s 0 0 (aA (eB X))) (F0 m 2 ls []) := fun h x0 x1 H locs k_x0 a b c ls hl hE => ih k_x0 a b c ls hl hE
    refine lv_iload_n C.1 C.2.1 dX12_clear_2 rfl (lv_at hl 1 rfl) ?_
    refine lv_bipush (v := (64 : Int32)) C.1 C.2.1 dX12_clear_3 (by decide) ?_
    refine lv_icmp_ge (tgt := 21) C.1 C.2.1 dX12_clear_5 (by decide) (fun c_1 => ?_) (fun c_1 => ?_)
    · have hE := br_p hE c_1
      refine lv_aload_n C.1 C.2.1 dX12_clear_21 rfl (lv_at hl 0 rfl) ?_
      refine lv_iconst (v := (0 : Int32)) C.1 C.2.1 dX12_clear_22 (by decide) ?_
      obtain ⟨h_2, eh_2, hE⟩ := nm_e2 hE
      refine pf_X12_30 C hW hZ k_x0 eh_2 dX12_clear_23 (fun _ _ hW km hZ => ?_)
      replace hkm := hkm.tr km
      replace k_x0 := km.at k_x0 (by decide)
      refine lv_aload_n C.1 C.2.1 dX12_clear_26 rfl (lv_at hl 0 rfl) ?_
      refine lv_lconst (v := (0 : Int64)) C.1 C.2.1 dX12_clear_27 (by decide) ?_
      obtain ⟨h_3, eh_3, hE⟩ := nm_e2 hE
      refine pf_X12_34 C hW hZ k_x0 eh_3 dX12_clear_28 (fun _ _ hW km hZ => ?_)
      replace hkm := hkm.tr km
      replace k_x0 := km.at k_x0 (by decide)
      refine lv_aload_n C.1 C.2.1 dX12_clear_31 rfl (lv_at hl 0 rfl) ?_
      refine lv_iconst (v := (0 : Int32)) C.1 C.2.1 dX12_clear_32 (by decide) ?_
      obtain ⟨h_4, eh_4, hE⟩ := nm_e2 hE
      refine pf_X12_38 C hW hZ k_x0 eh_4 dX12_clear_33 (fun _ _ hW km hZ => ?_)
      replace hkm := hkm.tr km
      replace k_x0 := km.at k_x0 (by decide)
      refine lv_iconst (v := (0 : Int32)) C.1 C.2.1 dX12_clear_36 (by decide) ?_
      refine lv_istore_n (lv' := [(1, .int (0 : Int32)), (0, .ref x0)]) C.1 C.2.1 dX12_clear_37 rfl hl (by decide) rfl (fun ls hl => ?_)
      exact bX12_clear_38 C F k_x0 hkm hW hZ _ (lv_sub hl [1, 0] rfl) hE
    · have hE := br_n hE c_1
      refine lv_aload_n C.1 C.2.1 dX12_clear_8 rfl (lv_at hl 0 rfl) ?_
      obtain ⟨r_5, er_5, hE⟩ := cl_e hE
      refine gf_X12_9 C hW k_x0 er_5 dX12_clear_9 (fun k_r_5 => ?_)
      refine lv_iload_n C.1 C.2.1 dX12_clear_12 rfl (lv_at hl 1 rfl) ?_
      refine lv_iconst (v := (0 : Int32)) C.1 C.2.1 dX12_clear_13 (by decide) ?_
      obtain ⟨g_6, hE⟩ := gd_e hE
      obtain ⟨h_7, eh_7, hE⟩ := nm_e2 hE
      refine y_iast C hW hZ k_r_5 g_6 eh_7 dX12_clear_14 (fun _ _ hW km hZ => ?_)
      replace hkm := hkm.tr km
      replace k_x0 := km.at k_x0 (by decide)
      obtain ⟨v_8, ev_8, hE⟩ := nm_e2 hE
      refine lv_iinc (v := v_8) (lv' := [(1, .int v_8), (0, .ref x0)]) C.1 C.2.1 dX12_clear_15 hl (k := 1) rfl (by rw [ev_8]; rfl) (by decide) rfl (fun ls hl => ?_)
      refine lv_goto (tgt := 2) C.1 C.2.1 dX12_clear_18 (by decide) ?_
      exact hk_2 _ _ _ _ _ k_x0 hkm hW hZ _ (lv_sub hl [1, 0] rfl) hE
set_option maxRecDepth 20000 in
theorem ct_X12_clear (l : Launch) (X : Ec) (F : Nat) {h : Hp} {x0 : Nat} {o : Hp} (k_x0 : hK h x0 = 12) (hE : sX12_clear F h x0 = some o) : MetV l yX12_clear cX12_clear 2 none 0 0 X [.ref x0] h o := by
  refine x_met (by decide) (Nat.le_of_ble_eq_true rfl) ?_
  intro p e s m below meth c ls C hl hW hZ
  have hl : lv_has ls 2 [(0, .ref x0)] := hl
  have hkm : Km h h := Km.rf h
  refine lv_iconst (v := (0 : Int32)) C.1 C.2.1 dX12_clear_0 (by decide) ?_
  refine lv_istore_n (lv' := [(1, .int (0 : Int32)), (0, .ref x0)]) C.1 C.2.1 dX12_clear_1 rfl hl (by decide) rfl (fun ls hl => ?_)
  exact bX12_clear_2 C F k_x0 hkm hW hZ _ (lv_sub hl [1, 0] rfl) hE
