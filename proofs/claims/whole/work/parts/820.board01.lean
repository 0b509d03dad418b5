set_option maxRecDepth 100000 in
theorem m_1910 : Cond.fieldLink RX12 30 (TX12 1).1 (TX12 1).2.1 (TX12 1).2.2.1 ∈ W0 := w0_in (List.mem_append_right _ (List.mem_of_getElem? (i := 1910) rfl)) rfl
set_option maxRecDepth 100000 in
theorem m_1912 : Cond.fieldLink RX12 34 (TX12 2).1 (TX12 2).2.1 (TX12 2).2.2.1 ∈ W0 := w0_in (List.mem_append_right _ (List.mem_of_getElem? (i := 1912) rfl)) rfl
set_option maxRecDepth 100000 in
theorem m_1914 : Cond.fieldLink RX12 38 (TX12 3).1 (TX12 3).2.1 (TX12 3).2.2.1 ∈ W0 := w0_in (List.mem_append_right _ (List.mem_of_getElem? (i := 1914) rfl)) rfl
set_option maxRecDepth 100000 in
theorem m_1922 : Cond.fieldLink RX12 41 (TX12 7).1 (TX12 7).2.1 (TX12 7).2.2.1 ∈ W0 := w0_in (List.mem_append_right _ (List.mem_of_getElem? (i := 1922) rfl)) rfl
section
variable {p : Program} {l : Launch} {e : Env} {R : Room} {s : State} {m : MethodId} {args : Array Value} {below : List Frame} {meth : Method} {c : Code} {H : Heap} {locs : List Loc} {cells slots : Nat} {Q : State → Prop}
variable {cc : ByteArray} {pc : Nat} {ls : Array Slot} {rest : List Value} {X : Ec} {h h1 : Hp} {nL : Nat} {rt : Option FieldType} {mn : String}
theorem gf_X12_21 {a r : Nat} (C : Cx X p s m args meth c RX12 cc nL rt mn) (hW : Wx X h H) (ha : hK h a = 12) (hr : hR h a 6 = some r) (hdg : decode cc pc = .ok (.getfield 21, 3)) (kk : hK h r = 17 → W p l e R s m args below meth c H locs cells slots Q (F0 m (pc + 3) ls (.ref r :: rest))) : W p l e R s m args below meth c H locs cells slots Q (F0 m pc ls (.ref a :: rest)) :=
  y_getr C hW ha i_X12 (by decide) rfl (by decide) m_1920 rfl rfl hr hdg kk
theorem pf_X12_41 {a : Nat} {v : Int32} (C : Cx X p s m args meth c RX12 cc nL rt mn) (hW : Wx X h H) (hZ : va_S (aA (eB X)) s.heap H locs) (ha : hK h a = 12) (eh : h1 = wI h a 7 v) (hdg : decode cc pc = .ok (.putfield 41, 3)) (kk : ∀ (H1 : Heap) (locs1 : List Loc), Wx X h1 H1 → Km h h1 → va_S (aA (eB X)) s.heap H1 locs1 → W p l e R s m args below meth c H1 locs1 cells slots Q (F0 m (pc + 3) ls rest)) : W p l e R s m args below meth c H locs cells slots Q (F0 m pc ls (.int v :: .ref a :: rest)) :=
  y_puti (ty := .int) C hW hZ ha i_X12 tyX12 tyX12_ok nmX12 (by decide) rfl rfl (by decide) m_1922 rfl (by decide +kernel) rfl rfl rfl eh hdg kk
theorem gf_X12_18 {a r : Nat} (C : Cx X p s m args meth c RX12 cc nL rt mn) (hW : Wx X h H) (ha : hK h a = 12) (hr : hR h a 5 = some r) (hdg : decode cc pc = .ok (.getfield 18, 3)) (kk : hK h r = 17 → W p l e R s m args below meth c H locs cells slots Q (F0 m (pc + 3) ls (.ref r :: rest))) : W p l e R s m args below meth c H locs cells slots Q (F0 m pc ls (.ref a :: rest)) :=
  y_getr C hW ha i_X12 (by decide) rfl (by decide) m_1918 rfl rfl hr hdg kk
theorem pf_X12_30 {a : Nat} {v : Int32} (C : Cx X p s m args meth c RX12 cc nL rt mn) (hW : Wx X h H) (hZ : va_S (aA (eB X)) s.heap H locs) (ha : hK h a = 12) (eh : h1 = wI h a 1 v) (hdg : decode cc pc = .ok (.putfield 30, 3)) (kk : ∀ (H1 : Heap) (locs1 : List Loc), Wx X h1 H1 → Km h h1 → va_S (aA (eB X)) s.heap H1 locs1 → W p l e R s m args below meth c H1 locs1 cells slots Q (F0 m (pc + 3) ls rest)) : W p l e R s m args below meth c H locs cells slots Q (F0 m pc ls (.int v :: .ref a :: rest)) :=
  y_puti (ty := .int) C hW hZ ha i_X12 tyX12 tyX12_ok nmX12 (by decide) rfl rfl (by decide) m_1910 rfl (by decide +kernel) rfl rfl rfl eh hdg kk
theorem pf_X12_34 {a : Nat} {v : Int64} (C : Cx X p s m args meth c RX12 cc nL rt mn) (hW : Wx X h H) (hZ : va_S (aA (eB X)) s.heap H locs) (ha : hK h a = 12) (eh : h1 = wJ h a 2 v) (hdg : decode cc pc = .ok (.putfield 34, 3)) (kk : ∀ (H1 : Heap) (locs1 : List Loc), Wx X h1 H1 → Km h h1 → va_S (aA (eB X)) s.heap H1 locs1 → W p l e R s m args below meth c H1 locs1 cells slots Q (F0 m (pc + 3) ls rest)) : W p l e R s m args below meth c H locs cells slots Q (F0 m pc ls (.long v :: .ref a :: rest)) :=
  y_putj C hW hZ ha i_X12 tyX12 tyX12_ok nmX12 (by decide) rfl rfl (by decide) m_1912 rfl (by decide +kernel) rfl eh hdg kk
theorem pf_X12_38 {a : Nat} {v : Int32} (C : Cx X p s m args meth c RX12 cc nL rt mn) (hW : Wx X h H) (hZ : va_S (aA (eB X)) s.heap H locs) (ha : hK h a = 12) (eh : h1 = wI h a 3 v) (hdg : decode cc pc = .ok (.putfield 38, 3)) (kk : ∀ (H1 : Heap) (locs1 : List Loc), Wx X h1 H1 → Km h h1 → va_S (aA (eB X)) s.heap H1 locs1 → W p l e R s m args below meth c H1 locs1 cells slots Q (F0 m (pc + 3) ls rest)) : W p l e R s m args below meth c H locs cells slots Q (F0 m pc ls (.int v :: .ref a :: rest)) :=
  y_puti (ty := .int) C hW hZ ha i_X12 tyX12 tyX12_ok nmX12 (by decide) rfl rfl (by decide) m_1914 rfl (by decide +kernel) rfl rfl rfl eh hdg kk
theorem gf_X12_9 {a r : Nat} (C : Cx X p s m args meth c RX12 cc nL rt mn) (hW : Wx X h H) (ha : hK h a = 12) (hr : hR h a 0 = some r) (hdg : decode cc pc = .ok (.getfield 9, 3)) (kk : hK h r = 17 → W p l e R s m args below meth c H locs cells slots Q (F0 m (pc + 3) ls (.ref r :: rest))) : W p l e R s m args below meth c H locs cells slots Q (F0 m pc ls (.ref a :: rest)) :=
  y_getr C hW ha i_X12 (by decide) rfl (by decide) m_1908 rfl rfl hr hdg kk
end
theorem dX12_clear_0 : decode cX12_clear 0 = .ok (.iconst 0, 1) := by decide +kernel
theorem dX12_clear_1 : decode cX12_clear 1 = .ok (.istore_n 1, 1) := by decide +kernel
theorem dX12_clear_2 : decode cX12_clear 2 = .ok (.iload_n 1, 1) := by decide +kernel
theorem dX12_clear_3 : decode cX12_clear 3 = .ok (.bipush 64, 2) := by decide +kernel
theorem dX12_clear_5 : decode cX12_clear 5 = .ok (.if_icmp .ge 16, 3) := by decide +kernel
theorem dX12_clear_8 : decode cX12_clear 8 = .ok (.aload_n 0, 1) := by decide +kernel
theorem dX12_clear_9 : decode cX12_clear 9 = .ok (.getfield 9, 3) := by decide +kernel
theorem dX12_clear_12 : decode cX12_clear 12 = .ok (.iload_n 1, 1) := by decide +kernel
theorem dX12_clear_13 : decode cX12_clear 13 = .ok (.iconst 0, 1) := by decide +kernel
theorem dX12_clear_14 : decode cX12_clear 14 = .ok (.iastore, 1) := by decide +kernel
theorem dX12_clear_15 : decode cX12_clear 15 = .ok (.iinc 1 1, 3) := by decide +kernel
theorem dX12_clear_18 : decode cX12_clear 18 = .ok (.goto (-16), 3) := by decide +kernel
theorem dX12_clear_21 : decode cX12_clear 21 = .ok (.aload_n 0, 1) := by decide +kernel
theorem dX12_clear_22 : decode cX12_clear 22 = .ok (.iconst 0, 1) := by decide +kernel
theorem dX12_clear_23 : decode cX12_clear 23 = .ok (.putfield 30, 3) := by decide +kernel
theorem dX12_clear_26 : decode cX12_clear 26 = .ok (.aload_n 0, 1) := by decide +kernel
theorem dX12_clear_27 : decode cX12_clear 27 = .ok (.lconst 0, 1) := by decide +kernel
theorem dX12_clear_28 : decode cX12_clear 28 = .ok (.putfield 34, 3) := by decide +kernel
theorem dX12_clear_31 : decode cX12_clear 31 = .ok (.aload_n 0, 1) := by decide +kernel
theorem dX12_clear_32 : decode cX12_clear 32 = .ok (.iconst 0, 1) := by decide +kernel
theorem dX12_clear_33 : decode cX12_clear 33 = .ok (.putfield 38, 3) := by decide +kernel
theorem dX12_clear_36 : decode cX12_clear 36 = .ok (.iconst 0, 1) := by decide +kernel
theorem dX12_clear_37 : decode cX12_clear 37 = .ok (.istore_n 1, 1) := by decide +kernel
theorem dX12_clear_38 : decode cX12_clear 38 = .ok (.iload_n 1, 1) := by decide +kernel
theorem dX12_clear_39 : decode cX12_clear 39 = .ok (.bipush 24, 2) := by decide +kernel
theorem dX12_clear_41 : decode cX12_clear 41 = .ok (.if_icmp .ge 16, 3) := by decide +kernel
theorem dX12_clear_44 : decode cX12_clear 44 = .ok (.aload_n 0, 1) := by decide +kernel
theorem dX12_clear_45 : decode cX12_clear 45 = .ok (.getfield 18, 3) := by decide +kernel
theorem dX12_clear_48 : decode cX12_clear 48 = .ok (.iload_n 1, 1) := by decide +kernel
theorem dX12_clear_49 : decode cX12_clear 49 = .ok (.iconst 0, 1) := by decide +kernel
theorem dX12_clear_50 : decode cX12_clear 50 = .ok (.iastore, 1) := by decide +kernel
theorem dX12_clear_51 : decode cX12_clear 51 = .ok (.iinc 1 1, 3) := by decide +kernel
theorem dX12_clear_54 : decode cX12_clear 54 = .ok (.goto (-16), 3) := by decide +kernel
theorem dX12_clear_57 : decode cX12_clear 57 = .ok (.aload_n 0, 1) := by decide +kernel
theorem dX12_clear_58 : decode cX12_clear 58 = .ok (.getfield 21, 3) := by decide +kernel
theorem dX12_clear_61 : decode cX12_clear 61 = .ok (.iconst 0, 1) := by decide +kernel
theorem dX12_clear_62 : decode cX12_clear 62 = .ok (.iconst 0, 1) := by decide +kernel
theorem dX12_clear_63 : decode cX12_clear 63 = .ok (.iastore, 1) := by decide +kernel
theorem dX12_clear_64 : decode cX12_clear 64 = .ok (.aload_n 0, 1) := by decide +kernel
theorem dX12_clear_65 : decode cX12_clear 65 = .ok (.getfield 21, 3) := by decide +kernel
theorem dX12_clear_68 : decode cX12_clear 68 = .ok (.iconst 1, 1) := by decide +kernel
theorem dX12_clear_69 : decode cX12_clear 69 = .ok (.iconst 0, 1) := by decide +kernel
theorem dX12_clear_70 : decode cX12_clear 70 = .ok (.iastore, 1) := by decide +kernel
theorem dX12_clear_71 : decode cX12_clear 71 = .ok (.aload_n 0, 1) := by decide +kernel
theorem dX12_clear_72 : decode cX12_clear 72 = .ok (.iconst 0, 1) := by decide +kernel
theorem dX12_clear_73 : decode cX12_clear 73 = .ok (.putfield 41, 3) := by decide +kernel
theorem dX12_clear_76 : decode cX12_clear 76 = .ok (.return_, 1) := by decide +kernel
set_option maxRecDepth 20000 in
theorem moX12_clear_38 {o : Hp} {F : Nat} : ∀ (f : Nat) {h : Hp} {x0 : Nat} {x1 : Int32}, sX12_clear_38 F f h x0 x1 = some o → Le h o := by
  intro f
  induction f with
  | zero =>
    intro h x0 x1 hE
    rw [sX12_clear_38] at hE
    cases hE
  | succ f ih =>
    intro h x0 x1 hE
    rw [sX12_clear_38] at hE
    have mk_38 : ∀ (h : Hp) (x0 : Nat) (x1 : Int32), sX12_clear_38 F f h x0 x1 = some o → Le h o := fun h x0 x1 hE => ih hE
    rcases br_e hE with ⟨_, hE⟩ | ⟨_, hE⟩
    · obtain ⟨r_2, er_2, hE⟩ := cl_e hE
      obtain ⟨g_3, hE⟩ := gd_e hE
      obtain ⟨h_4, eh_4, hE⟩ := nm_e2 hE
      refine (le_I eh_4).tr ?_
      obtain ⟨r_5, er_5, hE⟩ := cl_e hE
      obtain ⟨g_6, hE⟩ := gd_e hE
      obtain ⟨h_7, eh_7, hE⟩ := nm_e2 hE
      refine (le_I eh_7).tr ?_
      obtain ⟨h_8, eh_8, hE⟩ := nm_e2 hE
      refine (le_I eh_8).tr ?_
      exact le_some1 hE
    · obtain ⟨r_9, er_9, hE⟩ := cl_e hE
      obtain ⟨g_10, hE⟩ := gd_e hE
      obtain ⟨h_11, eh_11, hE⟩ := nm_e2 hE
      refine (le_I eh_11).tr ?_
      obtain ⟨v_12, ev_12, hE⟩ := nm_e2 hE
      exact mk_38 _ _ _ hE
set_option maxRecDepth 20000 in
theorem moX12_clear_2 {o : Hp} {F : Nat} : ∀ (f : Nat) {h : Hp} {x0 : Nat} {x1 : Int32}, sX12_clear_2 F f h x0 x1 = some o → Le h o := by
  intro f
  induction f with
  | zero =>
    intro h x0 x1 hE
    rw [sX12_clear_2] at hE
    cases hE
  | succ f ih =>
    intro h x0 x1 hE
    rw [sX12_clear_2] at hE
    have mk_2 : ∀ (h : Hp) (x0 : Nat) (x1 : Int32), sX12_clear_2 F f h x0 x1 = some o → Le h o := fun h x0 x1 hE => ih hE
    rcases br_e hE with ⟨_, hE⟩ | ⟨_, hE⟩
    · obtain ⟨h_2, eh_2, hE⟩ := nm_e2 hE
      refine (le_I eh_2).tr ?_
      obtain ⟨h_3, eh_3, hE⟩ := nm_e2 hE
      refine (le_J eh_3).tr ?_
      obtain ⟨h_4, eh_4, hE⟩ := nm_e2 hE
      refine (le_I eh_4).tr ?_
      exact moX12_clear_38 _ hE
    · obtain ⟨r_5, er_5, hE⟩ := cl_e hE
      obtain ⟨g_6, hE⟩ := gd_e hE
      obtain ⟨h_7, eh_7, hE⟩ := nm_e2 hE
      refine (le_I eh_7).tr ?_
      obtain ⟨v_8, ev_8, hE⟩ := nm_e2 hE
      exact mk_2 _ _ _ hE
set_option maxRecDepth 20000 in
theorem moX12_clear {o : Hp} {F : Nat} {h : Hp} {x0 : Nat} (hE : sX12_clear F h x0 = some o) : Le h o := by
  exact moX12_clear_2 _ hE
set_option maxRecDepth 20000 in
theorem bX12_clear_38 {p : Program} {l : Launch} {e : Env} {s : State} {m : MethodId} {args : Array Value} {below : List Frame} {meth : Method} {c : Code} {X : Ec} {h0 : Hp} {o : Hp} {F : Nat} (C : Cx X p s m args meth c RX12 cX12_clear 2 none "clear") : ∀ (f : Nat) {h : Hp} {x0 : Nat} {x1 : Int32} {H : Heap} {locs : List Loc} (k_x0 : hK h x0 = 12), Km h0 h → Wx X h H → va_S (aA (eB X)) s.heap H locs → ∀ (ls : Array Slot), lv_has ls 2 [(0, .ref x0), (1, .int x1)] → sX12_clear_38 F f h x0 x1 = some o → W p l e (rm 0 0) s m args below meth c H locs 0 0 (MQ below (QV X h0 o) args s 0 0 (aA (eB X))) (F0 m 38 ls []) := by
  intro f
  induction f with
  | zero =>
    intro h x0 x1 H locs k_x0 hkm hW hZ ls hl hE
    rw [sX12_clear_38] at hE
    cases hE
  | succ f ih =>
    intro h x0 x1 H locs k_x0 hkm hW hZ ls hl hE
    rw [sX12_clear_38] at hE
    have hk_38 : ∀ (h : Hp) (x0 : Nat) (x1 : Int32) (H : Heap) (locs : List Loc), hK h x0 = 12 → Km h0 h → Wx X h H → va_S (aA (eB X)) s.heap H locs → ∀ (ls : Array Slot), lv_has ls 2 [(0, .ref x0), (1, .int x1)] → sX12_clear_38 F f h x0 x1 = some o → W p l e (rm 0 0) s m args below meth c H locs 0 0 (MQ below (QV X h0 o) args s 0 0 (aA (eB X))) (F0 m 38 ls []) := fun h x0 x1 H locs k_x0 a b c ls hl hE => ih k_x0 a b c ls hl hE
    refine lv_iload_n C.1 C.2.1 dX12_clear_38 rfl (lv_at hl 1 rfl) ?_
    refine lv_bipush (v := (24 : Int32)) C.1 C.2.1 dX12_clear_39 (by decide) ?_
    refine lv_icmp_ge (tgt := 57) C.1 C.2.1 dX12_clear_41 (by decide) (fun c_1 => ?_) (fun c_1 => ?_)
    · have hE := br_p hE c_1
      refine lv_aload_n C.1 C.2.1 dX12_clear_57 rfl (lv_at hl 0 rfl) ?_
      obtain ⟨r_2, er_2, hE⟩ := cl_e hE
      refine gf_X12_21 C hW k_x0 er_2 dX12_clear_58 (fun k_r_2 => ?_)
      refine lv_iconst (v := (0 : Int32)) C.1 C.2.1 dX12_clear_61 (by decide) ?_
      refine lv_iconst (v := (0 : Int32)) C.1 C.2.1 dX12_clear_62 (by decide) ?_
      obtain ⟨g_3, hE⟩ := gd_e hE
      obtain ⟨h_4, eh_4, hE⟩ := nm_e2 hE
      refine y_iast C hW hZ k_r_2 g_3 eh_4 dX12_clear_63 (fun _ _ hW km hZ => ?_)
      replace hkm := hkm.tr km
      replace k_x0 := km.at k_x0 (by decide)
      refine lv_aload_n C.1 C.2.1 dX12_clear_64 rfl (lv_at hl 0 rfl) ?_
      obtain ⟨r_5, er_5, hE⟩ := cl_e hE
      refine gf_X12_21 C hW k_x0 er_5 dX12_clear_65 (fun k_r_5 => ?_)
      refine lv_iconst (v := (1 : Int32)) C.1 C.2.1 dX12_clear_68 (by decide) ?_
      refine lv_iconst (v := (0 : Int32)) C.1 C.2.1 dX12_clear_69 (by decide) ?_
      obtain ⟨g_6, hE⟩ := gd_e hE
      obtain ⟨h_7, eh_7, hE⟩ := nm_e2 hE
      refine y_iast C hW hZ k_r_5 g_6 eh_7 dX12_clear_70 (fun _ _ hW km hZ => ?_)
      replace hkm := hkm.tr km
      replace k_x0 := km.at k_x0 (by decide)
      refine lv_aload_n C.1 C.2.1 dX12_clear_71 rfl (lv_at hl 0 rfl) ?_
      refine lv_iconst (v := (0 : Int32)) C.1 C.2.1 dX12_clear_72 (by decide) ?_
      obtain ⟨h_8, eh_8, hE⟩ := nm_e2 hE
      refine pf_X12_41 C hW hZ k_x0 eh_8 dX12_clear_73 (fun _ _ hW km hZ => ?_)
      replace hkm := hkm.tr km
      replace k_x0 := km.at k_x0 (by decide)
      exact x_vret C rfl hW hZ hkm hE dX12_clear_76
    · have hE := br_n hE c_1
      refine lv_aload_n C.1 C.2.1 dX12_clear_44 rfl (lv_at hl 0 rfl) ?_
      obtain ⟨r_9, er_9, hE⟩ := cl_e hE
      refine gf_X12_18 C hW k_x0 er_9 dX12_clear_45 (fun k_r_9 => ?_)
      refine lv_iload_n C.1 C.2.1 dX12_clear_48 rfl (lv_at hl 1 rfl) ?_
      refine lv_iconst (v := (0 : Int32)) C.1 C.2.1 dX12_clear_49 (by decide) ?_
      obtain ⟨g_10, hE⟩ := gd_e hE
      obtain ⟨h_11, eh_11, hE⟩ := nm_e2 hE
      refine y_iast C hW hZ k_r_9 g_10 eh_11 dX12_clear_50 (fun _ _ hW km hZ => ?_)
      replace hkm := hkm.tr km
      replace k_x0 := km.at k_x0 (by decide)
      obtain ⟨v_12, ev_12, hE⟩ := nm_e2 hE
      refine lv_iinc (v := v_12) (lv' := [(1, .int v_12), (0, .ref x0)]) C.1 C.2.1 dX12_clear_51 hl (k := 1) rfl (by rw [ev_12]; rfl) (by decide) rfl (fun ls hl => ?_)
      refine lv_goto (tgt := 38) C.1 C.2.1 dX12_clear_54 (by decide) ?_
      exact hk_38 _ _ _ _ _ k_x0 hkm hW hZ _ (lv_sub hl [1, 0] rfl) hE
set_option maxRecDepth 20000 in
theorem bX12_clear_2 {p : Program} {l : Launch} {e : Env} {s : State} {m : MethodId} {args : Array Value} {below : List Frame} {meth : Method} {c : Code} {X : Ec} {h0 : Hp} {o : Hp} {F : Nat} (C : Cx X p s m args meth c RX12 cX12_clear 2 none "clear") : ∀ (f : Nat) {h : Hp} {x0 : Nat} {x1 : Int32} {H : Heap} {locs : List Loc} (k_x0 : hK h x0 = 12), Km h0 h → Wx X h H → va_S (aA (eB X)) s.heap H locs → ∀ (ls : Array Slot), lv_has ls 2 [(0, .ref x0), (1, .int x1)] → sX12_clear_2 F f h x0 x1 = some o → W p l e (rm 0 0) s m args below meth c H locs 0 0 (MQ below (QV X h0 o) args s 0 0 (aA (eB X))) (F0 m 2 ls []) := by
  intro f
  induction f with
  | zero =>
    intro h x0 x1 H locs k_x0 hkm hW hZ ls hl hE
    rw [sX12_clear_2] at hE
    cases hE
  | succ f ih =>
    intro h x0 x1 H locs k_x0 hkm hW hZ ls hl hE
    rw [sX12_clear_2] at hE
    have hk_2 : ∀ (h : Hp) (x0 : Nat) (x1 : Int32) (H : Heap) (locs : List Loc), hK h x0 = 12 → Km h0 h → Wx X h H → va_S (aA (eB X)) s.heap H locs → ∀ (ls : Array Slot), lv_has ls 2 [(0, .ref x0), (1, .int x1)] → sX12_clear_2 F f h x0 x1 = some o → W p l e (rm 0 0) s m args below meth c H locs 0 0 (MQ below (QV X h0 o) args s 0 0 (aA (eB X))) (F0 m 2 ls []) := fun h x0 x1 H locs k_x0 a b c ls hl hE => ih k_x0 a b c ls hl hE
    refine lv_iload_n C.1 C.2.1 dX12_clear_2 rfl (lv_at hl 1 rfl) ?_
    refine lv_bipush (v := (64 : Int32)) C.1 C.2.1 dX12_clear_3 (by decide) ?_
    refine lv_icmp_ge (tgt := 21) C.1 C.2.1 dX12_clear_5 (by decide) (fun c_1 => ?_) (fun c_1 => ?_)
    · have hE := br_p hE c_1
      refine lv_aload_n C.1 C.2.1 dX12_clear_21 rfl (lv_at hl 0 rfl) ?_
      refine lv_iconst (v := (0 : Int32)) C.1 C.2.1 dX12_clear_22 (by decide) ?_
      obtain ⟨h_2, eh_2, hE⟩ := nm_e2 hE
      refine pf_X12_30 C hW hZ k_x0 eh_2 dX12_clear_23 (fun _ _ hW km hZ => ?_)
      replace hkm := hkm.tr km
      replace k_x0 := km.at k_x0 (by decide)
      refine lv_aload_n C.1 C.2.1 dX12_clear_26 rfl (lv_at hl 0 rfl) ?_
      refine lv_lconst (v := (0 : Int64)) C.1 C.2.1 dX12_clear_27 (by decide) ?_
      obtain ⟨h_3, eh_3, hE⟩ := nm_e2 hE
      refine pf_X12_34 C hW hZ k_x0 eh_3 dX12_clear_28 (fun _ _ hW km hZ => ?_)
      replace hkm := hkm.tr km
      replace k_x0 := km.at k_x0 (by decide)
      refine lv_aload_n C.1 C.2.1 dX12_clear_31 rfl (lv_at hl 0 rfl) ?_
      refine lv_iconst (v := (0 : Int32)) C.1 C.2.1 dX12_clear_32 (by decide) ?_
      obtain ⟨h_4, eh_4, hE⟩ := nm_e2 hE
      refine pf_X12_38 C hW hZ k_x0 eh_4 dX12_clear_33 (fun _ _ hW km hZ => ?_)
      replace hkm := hkm.tr km
      replace k_x0 := km.at k_x0 (by decide)
      refine lv_iconst (v := (0 : Int32)) C.1 C.2.1 dX12_clear_36 (by decide) ?_
      refine lv_istore_n (lv' := [(1, .int (0 : Int32)), (0, .ref x0)]) C.1 C.2.1 dX12_clear_37 rfl hl (by decide) rfl (fun ls hl => ?_)
      exact bX12_clear_38 C F k_x0 hkm hW hZ _ (lv_sub hl [1, 0] rfl) hE
    · have hE := br_n hE c_1
      refine lv_aload_n C.1 C.2.1 dX12_clear_8 rfl (lv_at hl 0 rfl) ?_
      obtain ⟨r_5, er_5, hE⟩ := cl_e hE
      refine gf_X12_9 C hW k_x0 er_5 dX12_clear_9 (fun k_r_5 => ?_)
      refine lv_iload_n C.1 C.2.1 dX12_clear_12 rfl (lv_at hl 1 rfl) ?_
      refine lv_iconst (v := (0 : Int32)) C.1 C.2.1 dX12_clear_13 (by decide) ?_
      obtain ⟨g_6, hE⟩ := gd_e hE
      obtain ⟨h_7, eh_7, hE⟩ := nm_e2 hE
      refine y_iast C hW hZ k_r_5 g_6 eh_7 dX12_clear_14 (fun _ _ hW km hZ => ?_)
      replace hkm := hkm.tr km
      replace k_x0 := km.at k_x0 (by decide)
      obtain ⟨v_8, ev_8, hE⟩ := nm_e2 hE
      refine lv_iinc (v := v_8) (lv' := [(1, .int v_8), (0, .ref x0)]) C.1 C.2.1 dX12_clear_15 hl (k := 1) rfl (by rw [ev_8]; rfl) (by decide) rfl (fun ls hl => ?_)
      refine lv_goto (tgt := 2) C.1 C.2.1 dX12_clear_18 (by decide) ?_
      exact hk_2 _ _ _ _ _ k_x0 hkm hW hZ _ (lv_sub hl [1, 0] rfl) hE
set_option maxRecDepth 20000 in
theorem ct_X12_clear (l : Launch) (X : Ec) (F : Nat) {h : Hp} {x0 : Nat} {o : Hp} (k_x0 : hK h x0 = 12) (hE : sX12_clear F h x0 = some o) : MetV l yX12_clear cX12_clear 2 none 0 0 X [.ref x0] h o := by
  refine x_met (by decide) (Nat.le_of_ble_eq_true rfl) ?_
  intro p e s m below meth c ls C hl hW hZ
  have hl : lv_has ls 2 [(0, .ref x0)] := hl
  have hkm : Km h h := Km.rf h
  refine lv_iconst (v := (0 : Int32)) C.1 C.2.1 dX12_clear_0 (by decide) ?_
  refine lv_istore_n (lv' := [(1, .int (0 : Int32)), (0, .ref x0)]) C.1 C.2.1 dX12_clear_1 rfl hl (by decide) rfl (fun ls hl => ?_)
  exact bX12_clear_2 C F k_x0 hkm hW hZ _ (lv_sub hl [1, 0] rfl) hE
set_option maxRecDepth 100000 in
theorem m_2462 : Cond.methodLink RX12 24 arraycopyName ∈ W0 := w0_in (List.mem_append_right _ (List.mem_of_getElem? (i := 2462) rfl)) rfl
section
variable {p : Program} {l : Launch} {e : Env} {R : Room} {s : State} {m : MethodId} {args : Array Value} {below : List Frame} {meth : Method} {c : Code} {H : Heap} {locs : List Loc} {cells slots : Nat} {Q : State → Prop}
variable {cc : ByteArray} {pc : Nat} {ls : Array Slot} {rest : List Value} {X : Ec} {h h1 : Hp} {nL : Nat} {rt : Option FieldType} {mn : String}
theorem gf_X12_30 {a : Nat} (C : Cx X p s m args meth c RX12 cc nL rt mn) (hW : Wx X h H) (ha : hK h a = 12) (hdg : decode cc pc = .ok (.getfield 30, 3)) (kk : W p l e R s m args below meth c H locs cells slots Q (F0 m (pc + 3) ls (.int (hI h a 1) :: rest))) : W p l e R s m args below meth c H locs cells slots Q (F0 m pc ls (.ref a :: rest)) :=
  y_geti C hW ha i_X12 (by decide) rfl (by decide) m_1910 rfl hdg kk
theorem gf_X12_34 {a : Nat} (C : Cx X p s m args meth c RX12 cc nL rt mn) (hW : Wx X h H) (ha : hK h a = 12) (hdg : decode cc pc = .ok (.getfield 34, 3)) (kk : W p l e R s m args below meth c H locs cells slots Q (F0 m (pc + 3) ls (.long (hJ h a 2) :: rest))) : W p l e R s m args below meth c H locs cells slots Q (F0 m pc ls (.ref a :: rest)) :=
  y_getj C hW ha i_X12 (by decide) rfl (by decide) m_1912 rfl hdg kk
theorem gf_X12_38 {a : Nat} (C : Cx X p s m args meth c RX12 cc nL rt mn) (hW : Wx X h H) (ha : hK h a = 12) (hdg : decode cc pc = .ok (.getfield 38, 3)) (kk : W p l e R s m args below meth c H locs cells slots Q (F0 m (pc + 3) ls (.int (hI h a 3) :: rest))) : W p l e R s m args below meth c H locs cells slots Q (F0 m pc ls (.ref a :: rest)) :=
  y_geti C hW ha i_X12 (by decide) rfl (by decide) m_1914 rfl hdg kk
theorem gf_X12_15 {a r : Nat} (C : Cx X p s m args meth c RX12 cc nL rt mn) (hW : Wx X h H) (ha : hK h a = 12) (hr : hR h a 4 = some r) (hdg : decode cc pc = .ok (.getfield 15, 3)) (kk : hK h r = 17 → W p l e R s m args below meth c H locs cells slots Q (F0 m (pc + 3) ls (.ref r :: rest))) : W p l e R s m args below meth c H locs cells slots Q (F0 m pc ls (.ref a :: rest)) :=
  y_getr C hW ha i_X12 (by decide) rfl (by decide) m_1916 rfl rfl hr hdg kk
theorem gf_X12_41 {a : Nat} (C : Cx X p s m args meth c RX12 cc nL rt mn) (hW : Wx X h H) (ha : hK h a = 12) (hdg : decode cc pc = .ok (.getfield 41, 3)) (kk : W p l e R s m args below meth c H locs cells slots Q (F0 m (pc + 3) ls (.int (hI h a 7) :: rest))) : W p l e R s m args below meth c H locs cells slots Q (F0 m pc ls (.ref a :: rest)) :=
  y_geti C hW ha i_X12 (by decide) rfl (by decide) m_1922 rfl hdg kk
end
theorem dX12_copy_0 : decode cX12_copy 0 = .ok (.aload_n 1, 1) := by decide +kernel
theorem dX12_copy_1 : decode cX12_copy 1 = .ok (.getfield 9, 3) := by decide +kernel
theorem dX12_copy_4 : decode cX12_copy 4 = .ok (.iconst 0, 1) := by decide +kernel
theorem dX12_copy_5 : decode cX12_copy 5 = .ok (.aload_n 0, 1) := by decide +kernel
theorem dX12_copy_6 : decode cX12_copy 6 = .ok (.getfield 9, 3) := by decide +kernel
theorem dX12_copy_9 : decode cX12_copy 9 = .ok (.iconst 0, 1) := by decide +kernel
theorem dX12_copy_10 : decode cX12_copy 10 = .ok (.bipush 64, 2) := by decide +kernel
theorem dX12_copy_12 : decode cX12_copy 12 = .ok (.invokestatic 24, 3) := by decide +kernel
theorem dX12_copy_15 : decode cX12_copy 15 = .ok (.aload_n 0, 1) := by decide +kernel
theorem dX12_copy_16 : decode cX12_copy 16 = .ok (.aload_n 1, 1) := by decide +kernel
theorem dX12_copy_17 : decode cX12_copy 17 = .ok (.getfield 30, 3) := by decide +kernel
theorem dX12_copy_20 : decode cX12_copy 20 = .ok (.putfield 30, 3) := by decide +kernel
theorem dX12_copy_23 : decode cX12_copy 23 = .ok (.aload_n 0, 1) := by decide +kernel
theorem dX12_copy_24 : decode cX12_copy 24 = .ok (.aload_n 1, 1) := by decide +kernel
theorem dX12_copy_25 : decode cX12_copy 25 = .ok (.getfield 34, 3) := by decide +kernel
theorem dX12_copy_28 : decode cX12_copy 28 = .ok (.putfield 34, 3) := by decide +kernel
theorem dX12_copy_31 : decode cX12_copy 31 = .ok (.aload_n 0, 1) := by decide +kernel
theorem dX12_copy_32 : decode cX12_copy 32 = .ok (.aload_n 1, 1) := by decide +kernel
theorem dX12_copy_33 : decode cX12_copy 33 = .ok (.getfield 38, 3) := by decide +kernel
theorem dX12_copy_36 : decode cX12_copy 36 = .ok (.putfield 38, 3) := by decide +kernel
theorem dX12_copy_39 : decode cX12_copy 39 = .ok (.aload_n 1, 1) := by decide +kernel
theorem dX12_copy_40 : decode cX12_copy 40 = .ok (.getfield 15, 3) := by decide +kernel
theorem dX12_copy_43 : decode cX12_copy 43 = .ok (.iconst 0, 1) := by decide +kernel
theorem dX12_copy_44 : decode cX12_copy 44 = .ok (.aload_n 0, 1) := by decide +kernel
theorem dX12_copy_45 : decode cX12_copy 45 = .ok (.getfield 15, 3) := by decide +kernel
theorem dX12_copy_48 : decode cX12_copy 48 = .ok (.iconst 0, 1) := by decide +kernel
theorem dX12_copy_49 : decode cX12_copy 49 = .ok (.aload_n 0, 1) := by decide +kernel
theorem dX12_copy_50 : decode cX12_copy 50 = .ok (.getfield 38, 3) := by decide +kernel
theorem dX12_copy_53 : decode cX12_copy 53 = .ok (.invokestatic 24, 3) := by decide +kernel
theorem dX12_copy_56 : decode cX12_copy 56 = .ok (.aload_n 1, 1) := by decide +kernel
theorem dX12_copy_57 : decode cX12_copy 57 = .ok (.getfield 18, 3) := by decide +kernel
theorem dX12_copy_60 : decode cX12_copy 60 = .ok (.iconst 0, 1) := by decide +kernel
theorem dX12_copy_61 : decode cX12_copy 61 = .ok (.aload_n 0, 1) := by decide +kernel
theorem dX12_copy_62 : decode cX12_copy 62 = .ok (.getfield 18, 3) := by decide +kernel
theorem dX12_copy_65 : decode cX12_copy 65 = .ok (.iconst 0, 1) := by decide +kernel
theorem dX12_copy_66 : decode cX12_copy 66 = .ok (.bipush 24, 2) := by decide +kernel
theorem dX12_copy_68 : decode cX12_copy 68 = .ok (.invokestatic 24, 3) := by decide +kernel
theorem dX12_copy_71 : decode cX12_copy 71 = .ok (.aload_n 0, 1) := by decide +kernel
theorem dX12_copy_72 : decode cX12_copy 72 = .ok (.getfield 21, 3) := by decide +kernel
theorem dX12_copy_75 : decode cX12_copy 75 = .ok (.iconst 0, 1) := by decide +kernel
theorem dX12_copy_76 : decode cX12_copy 76 = .ok (.aload_n 1, 1) := by decide +kernel
theorem dX12_copy_77 : decode cX12_copy 77 = .ok (.getfield 21, 3) := by decide +kernel
theorem dX12_copy_80 : decode cX12_copy 80 = .ok (.iconst 0, 1) := by decide +kernel
theorem dX12_copy_81 : decode cX12_copy 81 = .ok (.iaload, 1) := by decide +kernel
theorem dX12_copy_82 : decode cX12_copy 82 = .ok (.iastore, 1) := by decide +kernel
theorem dX12_copy_83 : decode cX12_copy 83 = .ok (.aload_n 0, 1) := by decide +kernel
theorem dX12_copy_84 : decode cX12_copy 84 = .ok (.getfield 21, 3) := by decide +kernel
theorem dX12_copy_87 : decode cX12_copy 87 = .ok (.iconst 1, 1) := by decide +kernel
theorem dX12_copy_88 : decode cX12_copy 88 = .ok (.aload_n 1, 1) := by decide +kernel
theorem dX12_copy_89 : decode cX12_copy 89 = .ok (.getfield 21, 3) := by decide +kernel
theorem dX12_copy_92 : decode cX12_copy 92 = .ok (.iconst 1, 1) := by decide +kernel
theorem dX12_copy_93 : decode cX12_copy 93 = .ok (.iaload, 1) := by decide +kernel
theorem dX12_copy_94 : decode cX12_copy 94 = .ok (.iastore, 1) := by decide +kernel
theorem dX12_copy_95 : decode cX12_copy 95 = .ok (.aload_n 0, 1) := by decide +kernel
theorem dX12_copy_96 : decode cX12_copy 96 = .ok (.aload_n 1, 1) := by decide +kernel
theorem dX12_copy_97 : decode cX12_copy 97 = .ok (.getfield 41, 3) := by decide +kernel
theorem dX12_copy_100 : decode cX12_copy 100 = .ok (.putfield 41, 3) := by decide +kernel
theorem dX12_copy_103 : decode cX12_copy 103 = .ok (.return_, 1) := by decide +kernel
set_option maxRecDepth 20000 in
theorem moX12_copy {o : Hp} {h : Hp} {x0 : Nat} {x1 : Nat} (hE : sX12_copy h x0 x1 = some o) : Le h o := by
  obtain ⟨r_1, er_1, hE⟩ := cl_e hE
  obtain ⟨r_2, er_2, hE⟩ := cl_e hE
  obtain ⟨g_3, hE⟩ := gd_e hE
  obtain ⟨g_4, hE⟩ := gd_e hE
  obtain ⟨g_5, hE⟩ := gd_e hE
  obtain ⟨g_6, hE⟩ := gd_e hE
  obtain ⟨g_7, hE⟩ := gd_e hE
  obtain ⟨h_8, eh_8, hE⟩ := nm_e2 hE
  refine (le_cI eh_8).tr ?_
  obtain ⟨h_9, eh_9, hE⟩ := nm_e2 hE
  refine (le_I eh_9).tr ?_
  obtain ⟨h_10, eh_10, hE⟩ := nm_e2 hE
  refine (le_J eh_10).tr ?_
  obtain ⟨h_11, eh_11, hE⟩ := nm_e2 hE
  refine (le_I eh_11).tr ?_
  obtain ⟨r_12, er_12, hE⟩ := cl_e hE
  obtain ⟨r_13, er_13, hE⟩ := cl_e hE
  obtain ⟨g_14, hE⟩ := gd_e hE
  obtain ⟨g_15, hE⟩ := gd_e hE
  obtain ⟨g_16, hE⟩ := gd_e hE
  obtain ⟨g_17, hE⟩ := gd_e hE
  obtain ⟨g_18, hE⟩ := gd_e hE
  obtain ⟨h_19, eh_19, hE⟩ := nm_e2 hE
  refine (le_cI eh_19).tr ?_
  obtain ⟨r_20, er_20, hE⟩ := cl_e hE
  obtain ⟨r_21, er_21, hE⟩ := cl_e hE
  obtain ⟨g_22, hE⟩ := gd_e hE
  obtain ⟨g_23, hE⟩ := gd_e hE
  obtain ⟨g_24, hE⟩ := gd_e hE
  obtain ⟨g_25, hE⟩ := gd_e hE
  obtain ⟨g_26, hE⟩ := gd_e hE
  obtain ⟨h_27, eh_27, hE⟩ := nm_e2 hE
  refine (le_cI eh_27).tr ?_
  obtain ⟨r_28, er_28, hE⟩ := cl_e hE
  obtain ⟨r_29, er_29, hE⟩ := cl_e hE
  obtain ⟨g_30, hE⟩ := gd_e hE
  obtain ⟨g_31, hE⟩ := gd_e hE
  obtain ⟨h_32, eh_32, hE⟩ := nm_e2 hE
  refine (le_I eh_32).tr ?_
  obtain ⟨r_33, er_33, hE⟩ := cl_e hE
  obtain ⟨r_34, er_34, hE⟩ := cl_e hE
  obtain ⟨g_35, hE⟩ := gd_e hE
  obtain ⟨g_36, hE⟩ := gd_e hE
  obtain ⟨h_37, eh_37, hE⟩ := nm_e2 hE
  refine (le_I eh_37).tr ?_
  obtain ⟨h_38, eh_38, hE⟩ := nm_e2 hE
  refine (le_I eh_38).tr ?_
  exact le_some1 hE
set_option maxRecDepth 20000 in
theorem ct_X12_copy (l : Launch) (X : Ec) {h : Hp} {x0 : Nat} {x1 : Nat} {o : Hp} (k_x0 : hK h x0 = 12) (k_x1 : hK h x1 = 12) (hE : sX12_copy h x0 x1 = some o) : MetV l yX12_copy cX12_copy 2 none 1 64 X [.ref x0, .ref x1] h o := by
  refine x_met (by decide) (Nat.le_of_ble_eq_true rfl) ?_
  intro p e s m below meth c ls C hl hW hZ
  have hl : lv_has ls 2 [(0, .ref x0), (1, .ref x1)] := hl
  have hkm : Km h h := Km.rf h
  refine lv_aload_n C.1 C.2.1 dX12_copy_0 rfl (lv_at hl 1 rfl) ?_
  obtain ⟨r_1, er_1, hE⟩ := cl_e hE
  refine gf_X12_9 C hW k_x1 er_1 dX12_copy_1 (fun k_r_1 => ?_)
  refine lv_iconst (v := (0 : Int32)) C.1 C.2.1 dX12_copy_4 (by decide) ?_
  refine lv_aload_n C.1 C.2.1 dX12_copy_5 rfl (lv_at hl 0 rfl) ?_
  obtain ⟨r_2, er_2, hE⟩ := cl_e hE
  refine gf_X12_9 C hW k_x0 er_2 dX12_copy_6 (fun k_r_2 => ?_)
  refine lv_iconst (v := (0 : Int32)) C.1 C.2.1 dX12_copy_9 (by decide) ?_
  refine lv_bipush (v := (64 : Int32)) C.1 C.2.1 dX12_copy_10 (by decide) ?_
  obtain ⟨g_3, hE⟩ := gd_e hE
  obtain ⟨g_4, hE⟩ := gd_e hE
  obtain ⟨g_5, hE⟩ := gd_e hE
  obtain ⟨g_6, hE⟩ := gd_e hE
  obtain ⟨g_7, hE⟩ := gd_e hE
  obtain ⟨h_8, eh_8, hE⟩ := nm_e2 hE
  refine y_cpyI (ty := .int) C hW hZ hl.1 m_2462 m_1235 m_1234 m_23 k_r_1 k_r_2 (Or.inr (Or.inl ⟨rfl, rfl⟩)) g_3 g_4 g_5 g_6 g_7 (fun _ _ => rfl) (Nat.le_of_ble_eq_true rfl) (Nat.le_of_ble_eq_true rfl) eh_8 dX12_copy_12 (fun _ _ hW km hZ => ?_)
  replace hkm := hkm.tr km
  replace k_x0 := km.at k_x0 (by decide)
  replace k_x1 := km.at k_x1 (by decide)
  refine lv_aload_n C.1 C.2.1 dX12_copy_15 rfl (lv_at hl 0 rfl) ?_
  refine lv_aload_n C.1 C.2.1 dX12_copy_16 rfl (lv_at hl 1 rfl) ?_
  refine gf_X12_30 C hW k_x1 dX12_copy_17 ?_
  obtain ⟨h_9, eh_9, hE⟩ := nm_e2 hE
  refine pf_X12_30 C hW hZ k_x0 eh_9 dX12_copy_20 (fun _ _ hW km hZ => ?_)
  replace hkm := hkm.tr km
  replace k_x0 := km.at k_x0 (by decide)
  replace k_x1 := km.at k_x1 (by decide)
  refine lv_aload_n C.1 C.2.1 dX12_copy_23 rfl (lv_at hl 0 rfl) ?_
  refine lv_aload_n C.1 C.2.1 dX12_copy_24 rfl (lv_at hl 1 rfl) ?_
  refine gf_X12_34 C hW k_x1 dX12_copy_25 ?_
  obtain ⟨h_10, eh_10, hE⟩ := nm_e2 hE
  refine pf_X12_34 C hW hZ k_x0 eh_10 dX12_copy_28 (fun _ _ hW km hZ => ?_)
  replace hkm := hkm.tr km
  replace k_x0 := km.at k_x0 (by decide)
  replace k_x1 := km.at k_x1 (by decide)
  refine lv_aload_n C.1 C.2.1 dX12_copy_31 rfl (lv_at hl 0 rfl) ?_
  refine lv_aload_n C.1 C.2.1 dX12_copy_32 rfl (lv_at hl 1 rfl) ?_
  refine gf_X12_38 C hW k_x1 dX12_copy_33 ?_
  obtain ⟨h_11, eh_11, hE⟩ := nm_e2 hE
  refine pf_X12_38 C hW hZ k_x0 eh_11 dX12_copy_36 (fun _ _ hW km hZ => ?_)
  replace hkm := hkm.tr km
  replace k_x0 := km.at k_x0 (by decide)
  replace k_x1 := km.at k_x1 (by decide)
  refine lv_aload_n C.1 C.2.1 dX12_copy_39 rfl (lv_at hl 1 rfl) ?_
  obtain ⟨r_12, er_12, hE⟩ := cl_e hE
  refine gf_X12_15 C hW k_x1 er_12 dX12_copy_40 (fun k_r_12 => ?_)
  refine lv_iconst (v := (0 : Int32)) C.1 C.2.1 dX12_copy_43 (by decide) ?_
  refine lv_aload_n C.1 C.2.1 dX12_copy_44 rfl (lv_at hl 0 rfl) ?_
  obtain ⟨r_13, er_13, hE⟩ := cl_e hE
  refine gf_X12_15 C hW k_x0 er_13 dX12_copy_45 (fun k_r_13 => ?_)
  refine lv_iconst (v := (0 : Int32)) C.1 C.2.1 dX12_copy_48 (by decide) ?_
  refine lv_aload_n C.1 C.2.1 dX12_copy_49 rfl (lv_at hl 0 rfl) ?_
  refine gf_X12_38 C hW k_x0 dX12_copy_50 ?_
  obtain ⟨g_14, hE⟩ := gd_e hE
  obtain ⟨g_15, hE⟩ := gd_e hE
  obtain ⟨g_16, hE⟩ := gd_e hE
  obtain ⟨g_17, hE⟩ := gd_e hE
  obtain ⟨g_18, hE⟩ := gd_e hE
  obtain ⟨h_19, eh_19, hE⟩ := nm_e2 hE
  refine y_cpyI (ty := .int) C hW hZ hl.1 m_2462 m_1235 m_1234 m_23 k_r_12 k_r_13 (Or.inr (Or.inl ⟨rfl, rfl⟩)) g_14 g_15 g_16 g_17 g_18 (fun _ _ => rfl) (Nat.le_of_ble_eq_true rfl) (Nat.le_of_ble_eq_true rfl) eh_19 dX12_copy_53 (fun _ _ hW km hZ => ?_)
  replace hkm := hkm.tr km
  replace k_x0 := km.at k_x0 (by decide)
  replace k_x1 := km.at k_x1 (by decide)
  refine lv_aload_n C.1 C.2.1 dX12_copy_56 rfl (lv_at hl 1 rfl) ?_
  obtain ⟨r_20, er_20, hE⟩ := cl_e hE
  refine gf_X12_18 C hW k_x1 er_20 dX12_copy_57 (fun k_r_20 => ?_)
  refine lv_iconst (v := (0 : Int32)) C.1 C.2.1 dX12_copy_60 (by decide) ?_
  refine lv_aload_n C.1 C.2.1 dX12_copy_61 rfl (lv_at hl 0 rfl) ?_
  obtain ⟨r_21, er_21, hE⟩ := cl_e hE
  refine gf_X12_18 C hW k_x0 er_21 dX12_copy_62 (fun k_r_21 => ?_)
  refine lv_iconst (v := (0 : Int32)) C.1 C.2.1 dX12_copy_65 (by decide) ?_
  refine lv_bipush (v := (24 : Int32)) C.1 C.2.1 dX12_copy_66 (by decide) ?_
  obtain ⟨g_22, hE⟩ := gd_e hE
  obtain ⟨g_23, hE⟩ := gd_e hE
  obtain ⟨g_24, hE⟩ := gd_e hE
  obtain ⟨g_25, hE⟩ := gd_e hE
  obtain ⟨g_26, hE⟩ := gd_e hE
  obtain ⟨h_27, eh_27, hE⟩ := nm_e2 hE
  refine y_cpyI (ty := .int) C hW hZ hl.1 m_2462 m_1235 m_1234 m_23 k_r_20 k_r_21 (Or.inr (Or.inl ⟨rfl, rfl⟩)) g_22 g_23 g_24 g_25 g_26 (fun _ _ => rfl) (Nat.le_of_ble_eq_true rfl) (Nat.le_of_ble_eq_true rfl) eh_27 dX12_copy_68 (fun _ _ hW km hZ => ?_)
  replace hkm := hkm.tr km
  replace k_x0 := km.at k_x0 (by decide)
  replace k_x1 := km.at k_x1 (by decide)
  refine lv_aload_n C.1 C.2.1 dX12_copy_71 rfl (lv_at hl 0 rfl) ?_
  obtain ⟨r_28, er_28, hE⟩ := cl_e hE
  refine gf_X12_21 C hW k_x0 er_28 dX12_copy_72 (fun k_r_28 => ?_)
  refine lv_iconst (v := (0 : Int32)) C.1 C.2.1 dX12_copy_75 (by decide) ?_
  refine lv_aload_n C.1 C.2.1 dX12_copy_76 rfl (lv_at hl 1 rfl) ?_
  obtain ⟨r_29, er_29, hE⟩ := cl_e hE
  refine gf_X12_21 C hW k_x1 er_29 dX12_copy_77 (fun k_r_29 => ?_)
  refine lv_iconst (v := (0 : Int32)) C.1 C.2.1 dX12_copy_80 (by decide) ?_
  obtain ⟨g_30, hE⟩ := gd_e hE
  refine y_iald C hW k_r_29 g_30 dX12_copy_81 ?_
  obtain ⟨g_31, hE⟩ := gd_e hE
  obtain ⟨h_32, eh_32, hE⟩ := nm_e2 hE
  refine y_iast C hW hZ k_r_28 g_31 eh_32 dX12_copy_82 (fun _ _ hW km hZ => ?_)
  replace hkm := hkm.tr km
  replace k_x0 := km.at k_x0 (by decide)
  replace k_x1 := km.at k_x1 (by decide)
  refine lv_aload_n C.1 C.2.1 dX12_copy_83 rfl (lv_at hl 0 rfl) ?_
  obtain ⟨r_33, er_33, hE⟩ := cl_e hE
  refine gf_X12_21 C hW k_x0 er_33 dX12_copy_84 (fun k_r_33 => ?_)
  refine lv_iconst (v := (1 : Int32)) C.1 C.2.1 dX12_copy_87 (by decide) ?_
  refine lv_aload_n C.1 C.2.1 dX12_copy_88 rfl (lv_at hl 1 rfl) ?_
  obtain ⟨r_34, er_34, hE⟩ := cl_e hE
  refine gf_X12_21 C hW k_x1 er_34 dX12_copy_89 (fun k_r_34 => ?_)
  refine lv_iconst (v := (1 : Int32)) C.1 C.2.1 dX12_copy_92 (by decide) ?_
  obtain ⟨g_35, hE⟩ := gd_e hE
  refine y_iald C hW k_r_34 g_35 dX12_copy_93 ?_
  obtain ⟨g_36, hE⟩ := gd_e hE
  obtain ⟨h_37, eh_37, hE⟩ := nm_e2 hE
  refine y_iast C hW hZ k_r_33 g_36 eh_37 dX12_copy_94 (fun _ _ hW km hZ => ?_)
  replace hkm := hkm.tr km
  replace k_x0 := km.at k_x0 (by decide)
  replace k_x1 := km.at k_x1 (by decide)
  refine lv_aload_n C.1 C.2.1 dX12_copy_95 rfl (lv_at hl 0 rfl) ?_
  refine lv_aload_n C.1 C.2.1 dX12_copy_96 rfl (lv_at hl 1 rfl) ?_
  refine gf_X12_41 C hW k_x1 dX12_copy_97 ?_
  obtain ⟨h_38, eh_38, hE⟩ := nm_e2 hE
  refine pf_X12_41 C hW hZ k_x0 eh_38 dX12_copy_100 (fun _ _ hW km hZ => ?_)
  replace hkm := hkm.tr km
  replace k_x0 := km.at k_x0 (by decide)
  replace k_x1 := km.at k_x1 (by decide)
  exact x_vret C rfl hW hZ hkm hE dX12_copy_103
set_option maxRecDepth 100000 in
theorem m_1947 : Cond.fieldLink RX13 33 (TX13 0).1 (TX13 0).2.1 (TX13 0).2.2.1 ∈ W0 := w0_in (List.mem_append_right _ (List.mem_of_getElem? (i := 1947) rfl)) rfl
section
variable {p : Program} {l : Launch} {e : Env} {R : Room} {s : State} {m : MethodId} {args : Array Value} {below : List Frame} {meth : Method} {c : Code} {H : Heap} {locs : List Loc} {cells slots : Nat} {Q : State → Prop}
variable {cc : ByteArray} {pc : Nat} {ls : Array Slot} {rest : List Value} {X : Ec} {h h1 : Hp} {nL : Nat} {rt : Option FieldType} {mn : String}
theorem gf_X13_9 {a r : Nat} (C : Cx X p s m args meth c RX13 cc nL rt mn) (hW : Wx X h H) (ha : hK h a = 13) (hr : hR h a 1 = some r) (hdg : decode cc pc = .ok (.getfield 9, 3)) (kk : hK h r = 17 → W p l e R s m args below meth c H locs cells slots Q (F0 m (pc + 3) ls (.ref r :: rest))) : W p l e R s m args below meth c H locs cells slots Q (F0 m pc ls (.ref a :: rest)) :=
  y_getr C hW ha i_X13 (by decide) rfl (by decide) m_1949 rfl rfl hr hdg kk
theorem gf_X13_33 {a : Nat} (C : Cx X p s m args meth c RX13 cc nL rt mn) (hW : Wx X h H) (ha : hK h a = 13) (hdg : decode cc pc = .ok (.getfield 33, 3)) (kk : W p l e R s m args below meth c H locs cells slots Q (F0 m (pc + 3) ls (.int (hI h a 0) :: rest))) : W p l e R s m args below meth c H locs cells slots Q (F0 m pc ls (.ref a :: rest)) :=
  y_geti C hW ha i_X13 (by decide) rfl (by decide) m_1947 rfl hdg kk
theorem gf_X13_15 {a r : Nat} (C : Cx X p s m args meth c RX13 cc nL rt mn) (hW : Wx X h H) (ha : hK h a = 13) (hr : hR h a 2 = some r) (hdg : decode cc pc = .ok (.getfield 15, 3)) (kk : hK h r = 17 → W p l e R s m args below meth c H locs cells slots Q (F0 m (pc + 3) ls (.ref r :: rest))) : W p l e R s m args below meth c H locs cells slots Q (F0 m pc ls (.ref a :: rest)) :=
  y_getr C hW ha i_X13 (by decide) rfl (by decide) m_1951 rfl rfl hr hdg kk
theorem gf_X13_18 {a r : Nat} (C : Cx X p s m args meth c RX13 cc nL rt mn) (hW : Wx X h H) (ha : hK h a = 13) (hr : hR h a 3 = some r) (hdg : decode cc pc = .ok (.getfield 18, 3)) (kk : hK h r = 17 → W p l e R s m args below meth c H locs cells slots Q (F0 m (pc + 3) ls (.ref r :: rest))) : W p l e R s m args below meth c H locs cells slots Q (F0 m pc ls (.ref a :: rest)) :=
  y_getr C hW ha i_X13 (by decide) rfl (by decide) m_1953 rfl rfl hr hdg kk
theorem gf_X13_21 {a r : Nat} (C : Cx X p s m args meth c RX13 cc nL rt mn) (hW : Wx X h H) (ha : hK h a = 13) (hr : hR h a 4 = some r) (hdg : decode cc pc = .ok (.getfield 21, 3)) (kk : hK h r = 17 → W p l e R s m args below meth c H locs cells slots Q (F0 m (pc + 3) ls (.ref r :: rest))) : W p l e R s m args below meth c H locs cells slots Q (F0 m pc ls (.ref a :: rest)) :=
  y_getr C hW ha i_X13 (by decide) rfl (by decide) m_1955 rfl rfl hr hdg kk
theorem gf_X13_24 {a r : Nat} (C : Cx X p s m args meth c RX13 cc nL rt mn) (hW : Wx X h H) (ha : hK h a = 13) (hr : hR h a 5 = some r) (hdg : decode cc pc = .ok (.getfield 24, 3)) (kk : hK h r = 17 → W p l e R s m args below meth c H locs cells slots Q (F0 m (pc + 3) ls (.ref r :: rest))) : W p l e R s m args below meth c H locs cells slots Q (F0 m pc ls (.ref a :: rest)) :=
  y_getr C hW ha i_X13 (by decide) rfl (by decide) m_1957 rfl rfl hr hdg kk
theorem gf_X13_27 {a r : Nat} (C : Cx X p s m args meth c RX13 cc nL rt mn) (hW : Wx X h H) (ha : hK h a = 13) (hr : hR h a 6 = some r) (hdg : decode cc pc = .ok (.getfield 27, 3)) (kk : hK h r = 17 → W p l e R s m args below meth c H locs cells slots Q (F0 m (pc + 3) ls (.ref r :: rest))) : W p l e R s m args below meth c H locs cells slots Q (F0 m pc ls (.ref a :: rest)) :=
  y_getr C hW ha i_X13 (by decide) rfl (by decide) m_1959 rfl rfl hr hdg kk
theorem gf_X13_30 {a r : Nat} (C : Cx X p s m args meth c RX13 cc nL rt mn) (hW : Wx X h H) (ha : hK h a = 13) (hr : hR h a 7 = some r) (hdg : decode cc pc = .ok (.getfield 30, 3)) (kk : hK h r = 17 → W p l e R s m args below meth c H locs cells slots Q (F0 m (pc + 3) ls (.ref r :: rest))) : W p l e R s m args below meth c H locs cells slots Q (F0 m pc ls (.ref a :: rest)) :=
  y_getr C hW ha i_X13 (by decide) rfl (by decide) m_1961 rfl rfl hr hdg kk
theorem pf_X13_33 {a : Nat} {v : Int32} (C : Cx X p s m args meth c RX13 cc nL rt mn) (hW : Wx X h H) (hZ : va_S (aA (eB X)) s.heap H locs) (ha : hK h a = 13) (eh : h1 = wI h a 0 v) (hdg : decode cc pc = .ok (.putfield 33, 3)) (kk : ∀ (H1 : Heap) (locs1 : List Loc), Wx X h1 H1 → Km h h1 → va_S (aA (eB X)) s.heap H1 locs1 → W p l e R s m args below meth c H1 locs1 cells slots Q (F0 m (pc + 3) ls rest)) : W p l e R s m args below meth c H locs cells slots Q (F0 m pc ls (.int v :: .ref a :: rest)) :=
  y_puti (ty := .int) C hW hZ ha i_X13 tyX13 tyX13_ok nmX13 (by decide) rfl rfl (by decide) m_1947 rfl (by decide +kernel) rfl rfl rfl eh hdg kk
end
theorem dX13_add_0 : decode cX13_add 0 = .ok (.aload_n 0, 1) := by decide +kernel
theorem dX13_add_1 : decode cX13_add 1 = .ok (.getfield 9, 3) := by decide +kernel
theorem dX13_add_4 : decode cX13_add 4 = .ok (.aload_n 0, 1) := by decide +kernel
theorem dX13_add_5 : decode cX13_add 5 = .ok (.getfield 33, 3) := by decide +kernel
theorem dX13_add_8 : decode cX13_add 8 = .ok (.iload_n 1, 1) := by decide +kernel
theorem dX13_add_9 : decode cX13_add 9 = .ok (.iastore, 1) := by decide +kernel
theorem dX13_add_10 : decode cX13_add 10 = .ok (.aload_n 0, 1) := by decide +kernel
theorem dX13_add_11 : decode cX13_add 11 = .ok (.getfield 15, 3) := by decide +kernel
theorem dX13_add_14 : decode cX13_add 14 = .ok (.aload_n 0, 1) := by decide +kernel
theorem dX13_add_15 : decode cX13_add 15 = .ok (.getfield 33, 3) := by decide +kernel
theorem dX13_add_18 : decode cX13_add 18 = .ok (.iload_n 2, 1) := by decide +kernel
theorem dX13_add_19 : decode cX13_add 19 = .ok (.iastore, 1) := by decide +kernel
theorem dX13_add_20 : decode cX13_add 20 = .ok (.aload_n 0, 1) := by decide +kernel
theorem dX13_add_21 : decode cX13_add 21 = .ok (.getfield 18, 3) := by decide +kernel
theorem dX13_add_24 : decode cX13_add 24 = .ok (.aload_n 0, 1) := by decide +kernel
theorem dX13_add_25 : decode cX13_add 25 = .ok (.getfield 33, 3) := by decide +kernel
theorem dX13_add_28 : decode cX13_add 28 = .ok (.iload_n 3, 1) := by decide +kernel
theorem dX13_add_29 : decode cX13_add 29 = .ok (.iastore, 1) := by decide +kernel
theorem dX13_add_30 : decode cX13_add 30 = .ok (.aload_n 0, 1) := by decide +kernel
theorem dX13_add_31 : decode cX13_add 31 = .ok (.getfield 21, 3) := by decide +kernel
theorem dX13_add_34 : decode cX13_add 34 = .ok (.aload_n 0, 1) := by decide +kernel
theorem dX13_add_35 : decode cX13_add 35 = .ok (.getfield 33, 3) := by decide +kernel
theorem dX13_add_38 : decode cX13_add 38 = .ok (.iload 4, 2) := by decide +kernel
theorem dX13_add_40 : decode cX13_add 40 = .ok (.iastore, 1) := by decide +kernel
theorem dX13_add_41 : decode cX13_add 41 = .ok (.aload_n 0, 1) := by decide +kernel
theorem dX13_add_42 : decode cX13_add 42 = .ok (.getfield 24, 3) := by decide +kernel
theorem dX13_add_45 : decode cX13_add 45 = .ok (.aload_n 0, 1) := by decide +kernel
theorem dX13_add_46 : decode cX13_add 46 = .ok (.getfield 33, 3) := by decide +kernel
theorem dX13_add_49 : decode cX13_add 49 = .ok (.iload 5, 2) := by decide +kernel
theorem dX13_add_51 : decode cX13_add 51 = .ok (.iastore, 1) := by decide +kernel
theorem dX13_add_52 : decode cX13_add 52 = .ok (.aload_n 0, 1) := by decide +kernel
theorem dX13_add_53 : decode cX13_add 53 = .ok (.getfield 27, 3) := by decide +kernel
theorem dX13_add_56 : decode cX13_add 56 = .ok (.aload_n 0, 1) := by decide +kernel
theorem dX13_add_57 : decode cX13_add 57 = .ok (.getfield 33, 3) := by decide +kernel
theorem dX13_add_60 : decode cX13_add 60 = .ok (.iload 6, 2) := by decide +kernel
theorem dX13_add_62 : decode cX13_add 62 = .ok (.iastore, 1) := by decide +kernel
theorem dX13_add_63 : decode cX13_add 63 = .ok (.aload_n 0, 1) := by decide +kernel
theorem dX13_add_64 : decode cX13_add 64 = .ok (.getfield 30, 3) := by decide +kernel
theorem dX13_add_67 : decode cX13_add 67 = .ok (.aload_n 0, 1) := by decide +kernel
theorem dX13_add_68 : decode cX13_add 68 = .ok (.getfield 33, 3) := by decide +kernel
theorem dX13_add_71 : decode cX13_add 71 = .ok (.iload 7, 2) := by decide +kernel
theorem dX13_add_73 : decode cX13_add 73 = .ok (.iastore, 1) := by decide +kernel
theorem dX13_add_74 : decode cX13_add 74 = .ok (.aload_n 0, 1) := by decide +kernel
theorem dX13_add_75 : decode cX13_add 75 = .ok (.dup, 1) := by decide +kernel
theorem dX13_add_76 : decode cX13_add 76 = .ok (.getfield 33, 3) := by decide +kernel
theorem dX13_add_79 : decode cX13_add 79 = .ok (.iconst 1, 1) := by decide +kernel
theorem dX13_add_80 : decode cX13_add 80 = .ok (.iadd, 1) := by decide +kernel
theorem dX13_add_81 : decode cX13_add 81 = .ok (.putfield 33, 3) := by decide +kernel
theorem dX13_add_84 : decode cX13_add 84 = .ok (.return_, 1) := by decide +kernel
set_option maxRecDepth 20000 in
theorem moX13_add {o : Hp} {h : Hp} {x0 : Nat} {x1 : Int32} {x2 : Int32} {x3 : Int32} {x4 : Int32} {x5 : Int32} {x6 : Int32} {x7 : Int32} (hE : sX13_add h x0 x1 x2 x3 x4 x5 x6 x7 = some o) : Le h o := by
  obtain ⟨r_1, er_1, hE⟩ := cl_e hE
  obtain ⟨g_2, hE⟩ := gd_e hE
  obtain ⟨h_3, eh_3, hE⟩ := nm_e2 hE
  refine (le_I eh_3).tr ?_
  obtain ⟨r_4, er_4, hE⟩ := cl_e hE
  obtain ⟨g_5, hE⟩ := gd_e hE
  obtain ⟨h_6, eh_6, hE⟩ := nm_e2 hE
  refine (le_I eh_6).tr ?_
  obtain ⟨r_7, er_7, hE⟩ := cl_e hE
  obtain ⟨g_8, hE⟩ := gd_e hE
  obtain ⟨h_9, eh_9, hE⟩ := nm_e2 hE
  refine (le_I eh_9).tr ?_
  obtain ⟨r_10, er_10, hE⟩ := cl_e hE
  obtain ⟨g_11, hE⟩ := gd_e hE
  obtain ⟨h_12, eh_12, hE⟩ := nm_e2 hE
  refine (le_I eh_12).tr ?_
  obtain ⟨r_13, er_13, hE⟩ := cl_e hE
  obtain ⟨g_14, hE⟩ := gd_e hE
  obtain ⟨h_15, eh_15, hE⟩ := nm_e2 hE
  refine (le_I eh_15).tr ?_
  obtain ⟨r_16, er_16, hE⟩ := cl_e hE
  obtain ⟨g_17, hE⟩ := gd_e hE
  obtain ⟨h_18, eh_18, hE⟩ := nm_e2 hE
  refine (le_I eh_18).tr ?_
  obtain ⟨r_19, er_19, hE⟩ := cl_e hE
  obtain ⟨g_20, hE⟩ := gd_e hE
  obtain ⟨h_21, eh_21, hE⟩ := nm_e2 hE
  refine (le_I eh_21).tr ?_
  obtain ⟨h_22, eh_22, hE⟩ := nm_e2 hE
  refine (le_I eh_22).tr ?_
  exact le_some1 hE
set_option maxRecDepth 20000 in
theorem ct_X13_add (l : Launch) (X : Ec) {h : Hp} {x0 : Nat} {x1 : Int32} {x2 : Int32} {x3 : Int32} {x4 : Int32} {x5 : Int32} {x6 : Int32} {x7 : Int32} {o : Hp} (k_x0 : hK h x0 = 13) (hE : sX13_add h x0 x1 x2 x3 x4 x5 x6 x7 = some o) : MetV l yX13_add cX13_add 8 none 0 0 X [.ref x0, .int x1, .int x2, .int x3, .int x4, .int x5, .int x6, .int x7] h o := by
  refine x_met (by decide) (Nat.le_of_ble_eq_true rfl) ?_
  intro p e s m below meth c ls C hl hW hZ
  have hl : lv_has ls 8 [(0, .ref x0), (1, .int x1), (2, .int x2), (3, .int x3), (4, .int x4), (5, .int x5), (6, .int x6), (7, .int x7)] := hl
  have hkm : Km h h := Km.rf h
  refine lv_aload_n C.1 C.2.1 dX13_add_0 rfl (lv_at hl 0 rfl) ?_
  obtain ⟨r_1, er_1, hE⟩ := cl_e hE
  refine gf_X13_9 C hW k_x0 er_1 dX13_add_1 (fun k_r_1 => ?_)
  refine lv_aload_n C.1 C.2.1 dX13_add_4 rfl (lv_at hl 0 rfl) ?_
  refine gf_X13_33 C hW k_x0 dX13_add_5 ?_
  refine lv_iload_n C.1 C.2.1 dX13_add_8 rfl (lv_at hl 1 rfl) ?_
  obtain ⟨g_2, hE⟩ := gd_e hE
  obtain ⟨h_3, eh_3, hE⟩ := nm_e2 hE
  refine y_iast C hW hZ k_r_1 g_2 eh_3 dX13_add_9 (fun _ _ hW km hZ => ?_)
  replace hkm := hkm.tr km
  replace k_x0 := km.at k_x0 (by decide)
  refine lv_aload_n C.1 C.2.1 dX13_add_10 rfl (lv_at hl 0 rfl) ?_
  obtain ⟨r_4, er_4, hE⟩ := cl_e hE
  refine gf_X13_15 C hW k_x0 er_4 dX13_add_11 (fun k_r_4 => ?_)
  refine lv_aload_n C.1 C.2.1 dX13_add_14 rfl (lv_at hl 0 rfl) ?_
  refine gf_X13_33 C hW k_x0 dX13_add_15 ?_
  refine lv_iload_n C.1 C.2.1 dX13_add_18 rfl (lv_at hl 2 rfl) ?_
  obtain ⟨g_5, hE⟩ := gd_e hE
  obtain ⟨h_6, eh_6, hE⟩ := nm_e2 hE
  refine y_iast C hW hZ k_r_4 g_5 eh_6 dX13_add_19 (fun _ _ hW km hZ => ?_)
  replace hkm := hkm.tr km
  replace k_x0 := km.at k_x0 (by decide)
  refine lv_aload_n C.1 C.2.1 dX13_add_20 rfl (lv_at hl 0 rfl) ?_
  obtain ⟨r_7, er_7, hE⟩ := cl_e hE
  refine gf_X13_18 C hW k_x0 er_7 dX13_add_21 (fun k_r_7 => ?_)
  refine lv_aload_n C.1 C.2.1 dX13_add_24 rfl (lv_at hl 0 rfl) ?_
  refine gf_X13_33 C hW k_x0 dX13_add_25 ?_
  refine lv_iload_n C.1 C.2.1 dX13_add_28 rfl (lv_at hl 3 rfl) ?_
  obtain ⟨g_8, hE⟩ := gd_e hE
  obtain ⟨h_9, eh_9, hE⟩ := nm_e2 hE
  refine y_iast C hW hZ k_r_7 g_8 eh_9 dX13_add_29 (fun _ _ hW km hZ => ?_)
  replace hkm := hkm.tr km
  replace k_x0 := km.at k_x0 (by decide)
  refine lv_aload_n C.1 C.2.1 dX13_add_30 rfl (lv_at hl 0 rfl) ?_
  obtain ⟨r_10, er_10, hE⟩ := cl_e hE
  refine gf_X13_21 C hW k_x0 er_10 dX13_add_31 (fun k_r_10 => ?_)
  refine lv_aload_n C.1 C.2.1 dX13_add_34 rfl (lv_at hl 0 rfl) ?_
  refine gf_X13_33 C hW k_x0 dX13_add_35 ?_
  refine lv_iload C.1 C.2.1 dX13_add_38 (lv_at hl 4 rfl) ?_
  obtain ⟨g_11, hE⟩ := gd_e hE
  obtain ⟨h_12, eh_12, hE⟩ := nm_e2 hE
  refine y_iast C hW hZ k_r_10 g_11 eh_12 dX13_add_40 (fun _ _ hW km hZ => ?_)
  replace hkm := hkm.tr km
  replace k_x0 := km.at k_x0 (by decide)
  refine lv_aload_n C.1 C.2.1 dX13_add_41 rfl (lv_at hl 0 rfl) ?_
  obtain ⟨r_13, er_13, hE⟩ := cl_e hE
  refine gf_X13_24 C hW k_x0 er_13 dX13_add_42 (fun k_r_13 => ?_)
  refine lv_aload_n C.1 C.2.1 dX13_add_45 rfl (lv_at hl 0 rfl) ?_
  refine gf_X13_33 C hW k_x0 dX13_add_46 ?_
  refine lv_iload C.1 C.2.1 dX13_add_49 (lv_at hl 5 rfl) ?_
  obtain ⟨g_14, hE⟩ := gd_e hE
  obtain ⟨h_15, eh_15, hE⟩ := nm_e2 hE
  refine y_iast C hW hZ k_r_13 g_14 eh_15 dX13_add_51 (fun _ _ hW km hZ => ?_)
  replace hkm := hkm.tr km
  replace k_x0 := km.at k_x0 (by decide)
  refine lv_aload_n C.1 C.2.1 dX13_add_52 rfl (lv_at hl 0 rfl) ?_
  obtain ⟨r_16, er_16, hE⟩ := cl_e hE
  refine gf_X13_27 C hW k_x0 er_16 dX13_add_53 (fun k_r_16 => ?_)
  refine lv_aload_n C.1 C.2.1 dX13_add_56 rfl (lv_at hl 0 rfl) ?_
  refine gf_X13_33 C hW k_x0 dX13_add_57 ?_
  refine lv_iload C.1 C.2.1 dX13_add_60 (lv_at hl 6 rfl) ?_
  obtain ⟨g_17, hE⟩ := gd_e hE
  obtain ⟨h_18, eh_18, hE⟩ := nm_e2 hE
  refine y_iast C hW hZ k_r_16 g_17 eh_18 dX13_add_62 (fun _ _ hW km hZ => ?_)
  replace hkm := hkm.tr km
  replace k_x0 := km.at k_x0 (by decide)
  refine lv_aload_n C.1 C.2.1 dX13_add_63 rfl (lv_at hl 0 rfl) ?_
  obtain ⟨r_19, er_19, hE⟩ := cl_e hE
  refine gf_X13_30 C hW k_x0 er_19 dX13_add_64 (fun k_r_19 => ?_)
  refine lv_aload_n C.1 C.2.1 dX13_add_67 rfl (lv_at hl 0 rfl) ?_
  refine gf_X13_33 C hW k_x0 dX13_add_68 ?_
  refine lv_iload C.1 C.2.1 dX13_add_71 (lv_at hl 7 rfl) ?_
  obtain ⟨g_20, hE⟩ := gd_e hE
  obtain ⟨h_21, eh_21, hE⟩ := nm_e2 hE
  refine y_iast C hW hZ k_r_19 g_20 eh_21 dX13_add_73 (fun _ _ hW km hZ => ?_)
  replace hkm := hkm.tr km
  replace k_x0 := km.at k_x0 (by decide)
  refine lv_aload_n C.1 C.2.1 dX13_add_74 rfl (lv_at hl 0 rfl) ?_
  refine lv_dup C.1 C.2.1 dX13_add_75 rfl ?_
  refine gf_X13_33 C hW k_x0 dX13_add_76 ?_
  refine lv_iconst (v := (1 : Int32)) C.1 C.2.1 dX13_add_79 (by decide) ?_
  refine lv_iadd C.1 C.2.1 dX13_add_80 ?_
  obtain ⟨h_22, eh_22, hE⟩ := nm_e2 hE
  refine pf_X13_33 C hW hZ k_x0 eh_22 dX13_add_81 (fun _ _ hW km hZ => ?_)
  replace hkm := hkm.tr km
  replace k_x0 := km.at k_x0 (by decide)
  exact x_vret C rfl hW hZ hkm hE dX13_add_84
theorem dX13_set_0 : decode cX13_set 0 = .ok (.aload_n 0, 1) := by decide +kernel
theorem dX13_set_1 : decode cX13_set 1 = .ok (.getfield 9, 3) := by decide +kernel
theorem dX13_set_4 : decode cX13_set 4 = .ok (.iload_n 1, 1) := by decide +kernel
theorem dX13_set_5 : decode cX13_set 5 = .ok (.aload_n 2, 1) := by decide +kernel
theorem dX13_set_6 : decode cX13_set 6 = .ok (.getfield 9, 3) := by decide +kernel
theorem dX13_set_9 : decode cX13_set 9 = .ok (.iload_n 3, 1) := by decide +kernel
theorem dX13_set_10 : decode cX13_set 10 = .ok (.iaload, 1) := by decide +kernel
theorem dX13_set_11 : decode cX13_set 11 = .ok (.iastore, 1) := by decide +kernel
theorem dX13_set_12 : decode cX13_set 12 = .ok (.aload_n 0, 1) := by decide +kernel
theorem dX13_set_13 : decode cX13_set 13 = .ok (.getfield 15, 3) := by decide +kernel
theorem dX13_set_16 : decode cX13_set 16 = .ok (.iload_n 1, 1) := by decide +kernel
theorem dX13_set_17 : decode cX13_set 17 = .ok (.aload_n 2, 1) := by decide +kernel
theorem dX13_set_18 : decode cX13_set 18 = .ok (.getfield 15, 3) := by decide +kernel
theorem dX13_set_21 : decode cX13_set 21 = .ok (.iload_n 3, 1) := by decide +kernel
theorem dX13_set_22 : decode cX13_set 22 = .ok (.iaload, 1) := by decide +kernel
theorem dX13_set_23 : decode cX13_set 23 = .ok (.iastore, 1) := by decide +kernel
theorem dX13_set_24 : decode cX13_set 24 = .ok (.aload_n 0, 1) := by decide +kernel
theorem dX13_set_25 : decode cX13_set 25 = .ok (.getfield 18, 3) := by decide +kernel
theorem dX13_set_28 : decode cX13_set 28 = .ok (.iload_n 1, 1) := by decide +kernel
theorem dX13_set_29 : decode cX13_set 29 = .ok (.aload_n 2, 1) := by decide +kernel
theorem dX13_set_30 : decode cX13_set 30 = .ok (.getfield 18, 3) := by decide +kernel
theorem dX13_set_33 : decode cX13_set 33 = .ok (.iload_n 3, 1) := by decide +kernel
theorem dX13_set_34 : decode cX13_set 34 = .ok (.iaload, 1) := by decide +kernel
theorem dX13_set_35 : decode cX13_set 35 = .ok (.iastore, 1) := by decide +kernel
theorem dX13_set_36 : decode cX13_set 36 = .ok (.aload_n 0, 1) := by decide +kernel
theorem dX13_set_37 : decode cX13_set 37 = .ok (.getfield 21, 3) := by decide +kernel
theorem dX13_set_40 : decode cX13_set 40 = .ok (.iload_n 1, 1) := by decide +kernel
theorem dX13_set_41 : decode cX13_set 41 = .ok (.aload_n 2, 1) := by decide +kernel
theorem dX13_set_42 : decode cX13_set 42 = .ok (.getfield 21, 3) := by decide +kernel
theorem dX13_set_45 : decode cX13_set 45 = .ok (.iload_n 3, 1) := by decide +kernel
theorem dX13_set_46 : decode cX13_set 46 = .ok (.iaload, 1) := by decide +kernel
theorem dX13_set_47 : decode cX13_set 47 = .ok (.iastore, 1) := by decide +kernel
theorem dX13_set_48 : decode cX13_set 48 = .ok (.aload_n 0, 1) := by decide +kernel
theorem dX13_set_49 : decode cX13_set 49 = .ok (.getfield 24, 3) := by decide +kernel
theorem dX13_set_52 : decode cX13_set 52 = .ok (.iload_n 1, 1) := by decide +kernel
theorem dX13_set_53 : decode cX13_set 53 = .ok (.aload_n 2, 1) := by decide +kernel
theorem dX13_set_54 : decode cX13_set 54 = .ok (.getfield 24, 3) := by decide +kernel
theorem dX13_set_57 : decode cX13_set 57 = .ok (.iload_n 3, 1) := by decide +kernel
theorem dX13_set_58 : decode cX13_set 58 = .ok (.iaload, 1) := by decide +kernel
theorem dX13_set_59 : decode cX13_set 59 = .ok (.iastore, 1) := by decide +kernel
theorem dX13_set_60 : decode cX13_set 60 = .ok (.aload_n 0, 1) := by decide +kernel
theorem dX13_set_61 : decode cX13_set 61 = .ok (.getfield 27, 3) := by decide +kernel
theorem dX13_set_64 : decode cX13_set 64 = .ok (.iload_n 1, 1) := by decide +kernel
theorem dX13_set_65 : decode cX13_set 65 = .ok (.aload_n 2, 1) := by decide +kernel
theorem dX13_set_66 : decode cX13_set 66 = .ok (.getfield 27, 3) := by decide +kernel
theorem dX13_set_69 : decode cX13_set 69 = .ok (.iload_n 3, 1) := by decide +kernel
theorem dX13_set_70 : decode cX13_set 70 = .ok (.iaload, 1) := by decide +kernel
theorem dX13_set_71 : decode cX13_set 71 = .ok (.iastore, 1) := by decide +kernel
theorem dX13_set_72 : decode cX13_set 72 = .ok (.aload_n 0, 1) := by decide +kernel
theorem dX13_set_73 : decode cX13_set 73 = .ok (.getfield 30, 3) := by decide +kernel
theorem dX13_set_76 : decode cX13_set 76 = .ok (.iload_n 1, 1) := by decide +kernel
theorem dX13_set_77 : decode cX13_set 77 = .ok (.aload_n 2, 1) := by decide +kernel
theorem dX13_set_78 : decode cX13_set 78 = .ok (.getfield 30, 3) := by decide +kernel
theorem dX13_set_81 : decode cX13_set 81 = .ok (.iload_n 3, 1) := by decide +kernel
theorem dX13_set_82 : decode cX13_set 82 = .ok (.iaload, 1) := by decide +kernel
theorem dX13_set_83 : decode cX13_set 83 = .ok (.iastore, 1) := by decide +kernel
theorem dX13_set_84 : decode cX13_set 84 = .ok (.return_, 1) := by decide +kernel
set_option maxRecDepth 20000 in
theorem moX13_set {o : Hp} {h : Hp} {x0 : Nat} {x1 : Int32} {x2 : Nat} {x3 : Int32} (hE : sX13_set h x0 x1 x2 x3 = some o) : Le h o := by
  obtain ⟨r_1, er_1, hE⟩ := cl_e hE
  obtain ⟨r_2, er_2, hE⟩ := cl_e hE
  obtain ⟨g_3, hE⟩ := gd_e hE
  obtain ⟨g_4, hE⟩ := gd_e hE
  obtain ⟨h_5, eh_5, hE⟩ := nm_e2 hE
  refine (le_I eh_5).tr ?_
  obtain ⟨r_6, er_6, hE⟩ := cl_e hE
  obtain ⟨r_7, er_7, hE⟩ := cl_e hE
  obtain ⟨g_8, hE⟩ := gd_e hE
  obtain ⟨g_9, hE⟩ := gd_e hE
  obtain ⟨h_10, eh_10, hE⟩ := nm_e2 hE
  refine (le_I eh_10).tr ?_
  obtain ⟨r_11, er_11, hE⟩ := cl_e hE
  obtain ⟨r_12, er_12, hE⟩ := cl_e hE
  obtain ⟨g_13, hE⟩ := gd_e hE
  obtain ⟨g_14, hE⟩ := gd_e hE
  obtain ⟨h_15, eh_15, hE⟩ := nm_e2 hE
  refine (le_I eh_15).tr ?_
  obtain ⟨r_16, er_16, hE⟩ := cl_e hE
  obtain ⟨r_17, er_17, hE⟩ := cl_e hE
  obtain ⟨g_18, hE⟩ := gd_e hE
  obtain ⟨g_19, hE⟩ := gd_e hE
  obtain ⟨h_20, eh_20, hE⟩ := nm_e2 hE
  refine (le_I eh_20).tr ?_
  obtain ⟨r_21, er_21, hE⟩ := cl_e hE
  obtain ⟨r_22, er_22, hE⟩ := cl_e hE
  obtain ⟨g_23, hE⟩ := gd_e hE
  obtain ⟨g_24, hE⟩ := gd_e hE
  obtain ⟨h_25, eh_25, hE⟩ := nm_e2 hE
  refine (le_I eh_25).tr ?_
  obtain ⟨r_26, er_26, hE⟩ := cl_e hE
  obtain ⟨r_27, er_27, hE⟩ := cl_e hE
  obtain ⟨g_28, hE⟩ := gd_e hE
  obtain ⟨g_29, hE⟩ := gd_e hE
  obtain ⟨h_30, eh_30, hE⟩ := nm_e2 hE
  refine (le_I eh_30).tr ?_
  obtain ⟨r_31, er_31, hE⟩ := cl_e hE
  obtain ⟨r_32, er_32, hE⟩ := cl_e hE
  obtain ⟨g_33, hE⟩ := gd_e hE
  obtain ⟨g_34, hE⟩ := gd_e hE
  obtain ⟨h_35, eh_35, hE⟩ := nm_e2 hE
  refine (le_I eh_35).tr ?_
  exact le_some1 hE
set_option maxRecDepth 20000 in
theorem ct_X13_set (l : Launch) (X : Ec) {h : Hp} {x0 : Nat} {x1 : Int32} {x2 : Nat} {x3 : Int32} {o : Hp} (k_x0 : hK h x0 = 13) (k_x2 : hK h x2 = 13) (hE : sX13_set h x0 x1 x2 x3 = some o) : MetV l yX13_set cX13_set 4 none 0 0 X [.ref x0, .int x1, .ref x2, .int x3] h o := by
  refine x_met (by decide) (Nat.le_of_ble_eq_true rfl) ?_
  intro p e s m below meth c ls C hl hW hZ
  have hl : lv_has ls 4 [(0, .ref x0), (1, .int x1), (2, .ref x2), (3, .int x3)] := hl
  have hkm : Km h h := Km.rf h
  refine lv_aload_n C.1 C.2.1 dX13_set_0 rfl (lv_at hl 0 rfl) ?_
  obtain ⟨r_1, er_1, hE⟩ := cl_e hE
  refine gf_X13_9 C hW k_x0 er_1 dX13_set_1 (fun k_r_1 => ?_)
  refine lv_iload_n C.1 C.2.1 dX13_set_4 rfl (lv_at hl 1 rfl) ?_
  refine lv_aload_n C.1 C.2.1 dX13_set_5 rfl (lv_at hl 2 rfl) ?_
  obtain ⟨r_2, er_2, hE⟩ := cl_e hE
  refine gf_X13_9 C hW k_x2 er_2 dX13_set_6 (fun k_r_2 => ?_)
  refine lv_iload_n C.1 C.2.1 dX13_set_9 rfl (lv_at hl 3 rfl) ?_
  obtain ⟨g_3, hE⟩ := gd_e hE
  refine y_iald C hW k_r_2 g_3 dX13_set_10 ?_
  obtain ⟨g_4, hE⟩ := gd_e hE
  obtain ⟨h_5, eh_5, hE⟩ := nm_e2 hE
  refine y_iast C hW hZ k_r_1 g_4 eh_5 dX13_set_11 (fun _ _ hW km hZ => ?_)
  replace hkm := hkm.tr km
  replace k_x0 := km.at k_x0 (by decide)
  replace k_x2 := km.at k_x2 (by decide)
  refine lv_aload_n C.1 C.2.1 dX13_set_12 rfl (lv_at hl 0 rfl) ?_
  obtain ⟨r_6, er_6, hE⟩ := cl_e hE
  refine gf_X13_15 C hW k_x0 er_6 dX13_set_13 (fun k_r_6 => ?_)
  refine lv_iload_n C.1 C.2.1 dX13_set_16 rfl (lv_at hl 1 rfl) ?_
  refine lv_aload_n C.1 C.2.1 dX13_set_17 rfl (lv_at hl 2 rfl) ?_
  obtain ⟨r_7, er_7, hE⟩ := cl_e hE
  refine gf_X13_15 C hW k_x2 er_7 dX13_set_18 (fun k_r_7 => ?_)
  refine lv_iload_n C.1 C.2.1 dX13_set_21 rfl (lv_at hl 3 rfl) ?_
  obtain ⟨g_8, hE⟩ := gd_e hE
  refine y_iald C hW k_r_7 g_8 dX13_set_22 ?_
  obtain ⟨g_9, hE⟩ := gd_e hE
  obtain ⟨h_10, eh_10, hE⟩ := nm_e2 hE
  refine y_iast C hW hZ k_r_6 g_9 eh_10 dX13_set_23 (fun _ _ hW km hZ => ?_)
  replace hkm := hkm.tr km
  replace k_x0 := km.at k_x0 (by decide)
  replace k_x2 := km.at k_x2 (by decide)
  refine lv_aload_n C.1 C.2.1 dX13_set_24 rfl (lv_at hl 0 rfl) ?_
  obtain ⟨r_11, er_11, hE⟩ := cl_e hE
  refine gf_X13_18 C hW k_x0 er_11 dX13_set_25 (fun k_r_11 => ?_)
  refine lv_iload_n C.1 C.2.1 dX13_set_28 rfl (lv_at hl 1 rfl) ?_
  refine lv_aload_n C.1 C.2.1 dX13_set_29 rfl (lv_at hl 2 rfl) ?_
  obtain ⟨r_12, er_12, hE⟩ := cl_e hE
  refine gf_X13_18 C hW k_x2 er_12 dX13_set_30 (fun k_r_12 => ?_)
  refine lv_iload_n C.1 C.2.1 dX13_set_33 rfl (lv_at hl 3 rfl) ?_
  obtain ⟨g_13, hE⟩ := gd_e hE
  refine y_iald C hW k_r_12 g_13 dX13_set_34 ?_
  obtain ⟨g_14, hE⟩ := gd_e hE
  obtain ⟨h_15, eh_15, hE⟩ := nm_e2 hE
  refine y_iast C hW hZ k_r_11 g_14 eh_15 dX13_set_35 (fun _ _ hW km hZ => ?_)
  replace hkm := hkm.tr km
  replace k_x0 := km.at k_x0 (by decide)
  replace k_x2 := km.at k_x2 (by decide)
  refine lv_aload_n C.1 C.2.1 dX13_set_36 rfl (lv_at hl 0 rfl) ?_
  obtain ⟨r_16, er_16, hE⟩ := cl_e hE
  refine gf_X13_21 C hW k_x0 er_16 dX13_set_37 (fun k_r_16 => ?_)
  refine lv_iload_n C.1 C.2.1 dX13_set_40 rfl (lv_at hl 1 rfl) ?_
  refine lv_aload_n C.1 C.2.1 dX13_set_41 rfl (lv_at hl 2 rfl) ?_
  obtain ⟨r_17, er_17, hE⟩ := cl_e hE
  refine gf_X13_21 C hW k_x2 er_17 dX13_set_42 (fun k_r_17 => ?_)
  refine lv_iload_n C.1 C.2.1 dX13_set_45 rfl (lv_at hl 3 rfl) ?_
  obtain ⟨g_18, hE⟩ := gd_e hE
  refine y_iald C hW k_r_17 g_18 dX13_set_46 ?_
  obtain ⟨g_19, hE⟩ := gd_e hE
  obtain ⟨h_20, eh_20, hE⟩ := nm_e2 hE
  refine y_iast C hW hZ k_r_16 g_19 eh_20 dX13_set_47 (fun _ _ hW km hZ => ?_)
  replace hkm := hkm.tr km
  replace k_x0 := km.at k_x0 (by decide)
  replace k_x2 := km.at k_x2 (by decide)
  refine lv_aload_n C.1 C.2.1 dX13_set_48 rfl (lv_at hl 0 rfl) ?_
  obtain ⟨r_21, er_21, hE⟩ := cl_e hE
  refine gf_X13_24 C hW k_x0 er_21 dX13_set_49 (fun k_r_21 => ?_)
  refine lv_iload_n C.1 C.2.1 dX13_set_52 rfl (lv_at hl 1 rfl) ?_
  refine lv_aload_n C.1 C.2.1 dX13_set_53 rfl (lv_at hl 2 rfl) ?_
  obtain ⟨r_22, er_22, hE⟩ := cl_e hE
  refine gf_X13_24 C hW k_x2 er_22 dX13_set_54 (fun k_r_22 => ?_)
  refine lv_iload_n C.1 C.2.1 dX13_set_57 rfl (lv_at hl 3 rfl) ?_
  obtain ⟨g_23, hE⟩ := gd_e hE
  refine y_iald C hW k_r_22 g_23 dX13_set_58 ?_
  obtain ⟨g_24, hE⟩ := gd_e hE
  obtain ⟨h_25, eh_25, hE⟩ := nm_e2 hE
  refine y_iast C hW hZ k_r_21 g_24 eh_25 dX13_set_59 (fun _ _ hW km hZ => ?_)
  replace hkm := hkm.tr km
  replace k_x0 := km.at k_x0 (by decide)
  replace k_x2 := km.at k_x2 (by decide)
  refine lv_aload_n C.1 C.2.1 dX13_set_60 rfl (lv_at hl 0 rfl) ?_
  obtain ⟨r_26, er_26, hE⟩ := cl_e hE
  refine gf_X13_27 C hW k_x0 er_26 dX13_set_61 (fun k_r_26 => ?_)
  refine lv_iload_n C.1 C.2.1 dX13_set_64 rfl (lv_at hl 1 rfl) ?_
  refine lv_aload_n C.1 C.2.1 dX13_set_65 rfl (lv_at hl 2 rfl) ?_
  obtain ⟨r_27, er_27, hE⟩ := cl_e hE
  refine gf_X13_27 C hW k_x2 er_27 dX13_set_66 (fun k_r_27 => ?_)
  refine lv_iload_n C.1 C.2.1 dX13_set_69 rfl (lv_at hl 3 rfl) ?_
  obtain ⟨g_28, hE⟩ := gd_e hE
  refine y_iald C hW k_r_27 g_28 dX13_set_70 ?_
  obtain ⟨g_29, hE⟩ := gd_e hE
  obtain ⟨h_30, eh_30, hE⟩ := nm_e2 hE
  refine y_iast C hW hZ k_r_26 g_29 eh_30 dX13_set_71 (fun _ _ hW km hZ => ?_)
  replace hkm := hkm.tr km
  replace k_x0 := km.at k_x0 (by decide)
  replace k_x2 := km.at k_x2 (by decide)
  refine lv_aload_n C.1 C.2.1 dX13_set_72 rfl (lv_at hl 0 rfl) ?_
  obtain ⟨r_31, er_31, hE⟩ := cl_e hE
  refine gf_X13_30 C hW k_x0 er_31 dX13_set_73 (fun k_r_31 => ?_)
  refine lv_iload_n C.1 C.2.1 dX13_set_76 rfl (lv_at hl 1 rfl) ?_
  refine lv_aload_n C.1 C.2.1 dX13_set_77 rfl (lv_at hl 2 rfl) ?_
  obtain ⟨r_32, er_32, hE⟩ := cl_e hE
  refine gf_X13_30 C hW k_x2 er_32 dX13_set_78 (fun k_r_32 => ?_)
  refine lv_iload_n C.1 C.2.1 dX13_set_81 rfl (lv_at hl 3 rfl) ?_
  obtain ⟨g_33, hE⟩ := gd_e hE
  refine y_iald C hW k_r_32 g_33 dX13_set_82 ?_
  obtain ⟨g_34, hE⟩ := gd_e hE
  obtain ⟨h_35, eh_35, hE⟩ := nm_e2 hE
  refine y_iast C hW hZ k_r_31 g_34 eh_35 dX13_set_83 (fun _ _ hW km hZ => ?_)
  replace hkm := hkm.tr km
  replace k_x0 := km.at k_x0 (by decide)
  replace k_x2 := km.at k_x2 (by decide)
  exact x_vret C rfl hW hZ hkm hE dX13_set_84
