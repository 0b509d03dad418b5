set_option maxRecDepth 100000 in
theorem m_84 : Cond.fieldLink RX5 206 (TX1 3).1 (TX1 3).2.1 (TX1 3).2.2.1 ∈ W0 := w0_in (List.mem_append_right _ (List.mem_of_getElem? (i := 84) rfl)) rfl
section
variable {p : Program} {l : Launch} {e : Env} {R : Room} {s : State} {m : MethodId} {args : Array Value} {below : List Frame} {meth : Method} {c : Code} {H : Heap} {locs : List Loc} {cells slots : Nat} {Q : State → Prop}
variable {cc : ByteArray} {pc : Nat} {ls : Array Slot} {rest : List Value} {X : Ec} {h h1 : Hp} {nL : Nat} {rt : Option FieldType} {mn : String}
theorem gf_X5_206 {a : Nat} (C : Cx X p s m args meth c RX5 cc nL rt mn) (hW : Wx X h H) (ha : hK h a = 1) (hdg : decode cc pc = .ok (.getfield 206, 3)) (kk : W p l e R s m args below meth c H locs cells slots Q (F0 m (pc + 3) ls (.int (hI h a 3) :: rest))) : W p l e R s m args below meth c H locs cells slots Q (F0 m pc ls (.ref a :: rest)) :=
  y_geti C hW ha i_X1 (by decide) rfl (by decide) m_84 rfl hdg kk
end
theorem dX5_addDrops_0 : decode cX5_addDrops 0 = .ok (.aload_n 0, 1) := by decide +kernel
theorem dX5_addDrops_1 : decode cX5_addDrops 1 = .ok (.getfield 71, 3) := by decide +kernel
theorem dX5_addDrops_4 : decode cX5_addDrops 4 = .ok (.getfield 42, 3) := by decide +kernel
theorem dX5_addDrops_7 : decode cX5_addDrops 7 = .ok (.iload_n 1, 1) := by decide +kernel
theorem dX5_addDrops_8 : decode cX5_addDrops 8 = .ok (.baload, 1) := by decide +kernel
theorem dX5_addDrops_9 : decode cX5_addDrops 9 = .ok (.iconst (-1), 1) := by decide +kernel
theorem dX5_addDrops_10 : decode cX5_addDrops 10 = .ok (.if_icmp .eq 4, 3) := by decide +kernel
theorem dX5_addDrops_13 : decode cX5_addDrops 13 = .ok (.return_, 1) := by decide +kernel
theorem dX5_addDrops_14 : decode cX5_addDrops 14 = .ok (.aload_n 0, 1) := by decide +kernel
theorem dX5_addDrops_15 : decode cX5_addDrops 15 = .ok (.getfield 22, 3) := by decide +kernel
theorem dX5_addDrops_18 : decode cX5_addDrops 18 = .ok (.iload_n 1, 1) := by decide +kernel
theorem dX5_addDrops_19 : decode cX5_addDrops 19 = .ok (.iconst 0, 1) := by decide +kernel
theorem dX5_addDrops_20 : decode cX5_addDrops 20 = .ok (.invokevirtual 187, 3) := by decide +kernel
theorem dX5_addDrops_23 : decode cX5_addDrops 23 = .ok (.ifCond .ne 15, 3) := by decide +kernel
theorem dX5_addDrops_26 : decode cX5_addDrops 26 = .ok (.aload_n 0, 1) := by decide +kernel
theorem dX5_addDrops_27 : decode cX5_addDrops 27 = .ok (.getfield 22, 3) := by decide +kernel
theorem dX5_addDrops_30 : decode cX5_addDrops 30 = .ok (.iload_n 1, 1) := by decide +kernel
theorem dX5_addDrops_31 : decode cX5_addDrops 31 = .ok (.iconst 1, 1) := by decide +kernel
theorem dX5_addDrops_32 : decode cX5_addDrops 32 = .ok (.invokevirtual 187, 3) := by decide +kernel
theorem dX5_addDrops_35 : decode cX5_addDrops 35 = .ok (.ifCond .eq 7, 3) := by decide +kernel
theorem dX5_addDrops_38 : decode cX5_addDrops 38 = .ok (.iconst 1, 1) := by decide +kernel
theorem dX5_addDrops_39 : decode cX5_addDrops 39 = .ok (.goto 4, 3) := by decide +kernel
theorem dX5_addDrops_42 : decode cX5_addDrops 42 = .ok (.iconst 0, 1) := by decide +kernel
theorem dX5_addDrops_43 : decode cX5_addDrops 43 = .ok (.istore_n 2, 1) := by decide +kernel
theorem dX5_addDrops_44 : decode cX5_addDrops 44 = .ok (.iconst 0, 1) := by decide +kernel
theorem dX5_addDrops_45 : decode cX5_addDrops 45 = .ok (.istore_n 3, 1) := by decide +kernel
theorem dX5_addDrops_46 : decode cX5_addDrops 46 = .ok (.iload_n 3, 1) := by decide +kernel
theorem dX5_addDrops_47 : decode cX5_addDrops 47 = .ok (.aload_n 0, 1) := by decide +kernel
theorem dX5_addDrops_48 : decode cX5_addDrops 48 = .ok (.getfield 22, 3) := by decide +kernel
theorem dX5_addDrops_51 : decode cX5_addDrops 51 = .ok (.getfield 206, 3) := by decide +kernel
theorem dX5_addDrops_54 : decode cX5_addDrops 54 = .ok (.if_icmp .ge 53, 3) := by decide +kernel
theorem dX5_addDrops_57 : decode cX5_addDrops 57 = .ok (.aload_n 0, 1) := by decide +kernel
theorem dX5_addDrops_58 : decode cX5_addDrops 58 = .ok (.getfield 71, 3) := by decide +kernel
theorem dX5_addDrops_61 : decode cX5_addDrops 61 = .ok (.aload_n 0, 1) := by decide +kernel
theorem dX5_addDrops_62 : decode cX5_addDrops 62 = .ok (.getfield 71, 3) := by decide +kernel
theorem dX5_addDrops_65 : decode cX5_addDrops 65 = .ok (.getfield 78, 3) := by decide +kernel
theorem dX5_addDrops_68 : decode cX5_addDrops 68 = .ok (.iload_n 3, 1) := by decide +kernel
theorem dX5_addDrops_69 : decode cX5_addDrops 69 = .ok (.invokevirtual 209, 3) := by decide +kernel
theorem dX5_addDrops_72 : decode cX5_addDrops 72 = .ok (.ifCond .le 29, 3) := by decide +kernel
theorem dX5_addDrops_75 : decode cX5_addDrops 75 = .ok (.iload_n 2, 1) := by decide +kernel
theorem dX5_addDrops_76 : decode cX5_addDrops 76 = .ok (.ifCond .eq 14, 3) := by decide +kernel
theorem dX5_addDrops_79 : decode cX5_addDrops 79 = .ok (.aload_n 0, 1) := by decide +kernel
theorem dX5_addDrops_80 : decode cX5_addDrops 80 = .ok (.getfield 22, 3) := by decide +kernel
theorem dX5_addDrops_83 : decode cX5_addDrops 83 = .ok (.iload_n 3, 1) := by decide +kernel
theorem dX5_addDrops_84 : decode cX5_addDrops 84 = .ok (.invokevirtual 212, 3) := by decide +kernel
theorem dX5_addDrops_87 : decode cX5_addDrops 87 = .ok (.ifCond .ne 14, 3) := by decide +kernel
theorem dX5_addDrops_90 : decode cX5_addDrops 90 = .ok (.aload_n 0, 1) := by decide +kernel
theorem dX5_addDrops_91 : decode cX5_addDrops 91 = .ok (.iconst 0, 1) := by decide +kernel
theorem dX5_addDrops_92 : decode cX5_addDrops 92 = .ok (.iload_n 1, 1) := by decide +kernel
theorem dX5_addDrops_93 : decode cX5_addDrops 93 = .ok (.iload_n 3, 1) := by decide +kernel
theorem dX5_addDrops_94 : decode cX5_addDrops 94 = .ok (.iconst 3, 1) := by decide +kernel
theorem dX5_addDrops_95 : decode cX5_addDrops 95 = .ok (.invokestatic 176, 3) := by decide +kernel
theorem dX5_addDrops_98 : decode cX5_addDrops 98 = .ok (.invokevirtual 170, 3) := by decide +kernel
theorem dX5_addDrops_101 : decode cX5_addDrops 101 = .ok (.iinc 3 1, 3) := by decide +kernel
theorem dX5_addDrops_104 : decode cX5_addDrops 104 = .ok (.goto (-58), 3) := by decide +kernel
theorem dX5_addDrops_107 : decode cX5_addDrops 107 = .ok (.return_, 1) := by decide +kernel
def sX5_addDrops_101 (F : Nat) (k_46 : Hp → Nat → Int32 → Int32 → Int32 → Option (Hp)) (h : Hp) (x0 : Nat) (x1 : Int32) (x2 : Int32) (x3 : Int32) : Option (Hp) := nm (x3 + (1 : Int32)) fun v_1 => k_46 h x0 x1 x2 v_1
def sX5_addDrops_90 (F : Nat) (k_46 : Hp → Nat → Int32 → Int32 → Int32 → Option (Hp)) (h : Hp) (x0 : Nat) (x1 : Int32) (x2 : Int32) (x3 : Int32) : Option (Hp) := cl (sX5_plainMove h (0 : Int32) x1 x3 (3 : Int32)) fun o_1 => cl (sX5_addMove o_1.2 x0 o_1.1) fun o_2 => sX5_addDrops_101 F k_46 o_2 x0 x1 x2 x3
def sX5_addDrops_46 (F : Nat) : Nat → Hp → Nat → Int32 → Int32 → Int32 → Option (Hp)
  | 0, _, _, _, _, _ => none
  | f + 1, h, x0, x1, x2, x3 => cl (hR h x0 0) fun r_1 => br ((hI h r_1 3) ≤ x3) (some h) (cl (hR h x0 4) fun r_3 => cl (hR h x0 4) fun r_4 => cl (sX3_inHand h r_3 (hI h r_4 5) x3) fun o_5 => br (o_5.1 ≤ 0) (sX5_addDrops_101 F (sX5_addDrops_46 F f) o_5.2 x0 x1 x2 x3) (br (x2 = 0) (sX5_addDrops_90 F (sX5_addDrops_46 F f) o_5.2 x0 x1 x2 x3) (cl (hR o_5.2 x0 0) fun r_8 => cl (sX1_becomesOthers o_5.2 r_8 x3) fun o_9 => br (o_9.1 = 0) (sX5_addDrops_90 F (sX5_addDrops_46 F f) o_9.2 x0 x1 x2 x3) (sX5_addDrops_101 F (sX5_addDrops_46 F f) o_9.2 x0 x1 x2 x3))))
def sX5_addDrops_43 (F : Nat) (h : Hp) (x0 : Nat) (x1 : Int32) (t0 : Int32) : Option (Hp) := sX5_addDrops_46 F F h x0 x1 t0 (0 : Int32)
def sX5_addDrops_38 (F : Nat) (h : Hp) (x0 : Nat) (x1 : Int32) : Option (Hp) := sX5_addDrops_43 F h x0 x1 (1 : Int32)
def sX5_addDrops (F : Nat) (h : Hp) (x0 : Nat) (x1 : Int32) : Option (Hp) := cl (hR h x0 4) fun r_1 => cl (hR h r_1 0) fun r_2 => gd (inB x1 (hN h r_2)) <| br ((hI h r_2 x1.toNatClampNeg) = (-1 : Int32)) (cl (hR h x0 0) fun r_5 => cl (sX1_isLast h r_5 x1 (0 : Int32)) fun o_6 => br (o_6.1 = 0) (cl (hR o_6.2 x0 0) fun r_8 => cl (sX1_isLast o_6.2 r_8 x1 (1 : Int32)) fun o_9 => br (o_9.1 = 0) (sX5_addDrops_43 F o_9.2 x0 x1 (0 : Int32)) (sX5_addDrops_38 F o_9.2 x0 x1)) (sX5_addDrops_38 F o_6.2 x0 x1)) (some h)
set_option maxRecDepth 20000 in
theorem moX5_addDrops_101 {o : Hp} {k_46 : Hp → Nat → Int32 → Int32 → Int32 → Option (Hp)} {F : Nat} (mk_46 : ∀ (h : Hp) (x0 : Nat) (x1 : Int32) (x2 : Int32) (x3 : Int32), k_46 h x0 x1 x2 x3 = some o → Le h o) {h : Hp} {x0 : Nat} {x1 : Int32} {x2 : Int32} {x3 : Int32} (hE : sX5_addDrops_101 F k_46 h x0 x1 x2 x3 = some o) : Le h o := by
  obtain ⟨v_1, ev_1, hE⟩ := nm_e2 hE
  exact mk_46 _ _ _ _ _ hE
set_option maxRecDepth 20000 in
theorem moX5_addDrops_90 {o : Hp} {k_46 : Hp → Nat → Int32 → Int32 → Int32 → Option (Hp)} {F : Nat} (mk_46 : ∀ (h : Hp) (x0 : Nat) (x1 : Int32) (x2 : Int32) (x3 : Int32), k_46 h x0 x1 x2 x3 = some o → Le h o) {h : Hp} {x0 : Nat} {x1 : Int32} {x2 : Int32} {x3 : Int32} (hE : sX5_addDrops_90 F k_46 h x0 x1 x2 x3 = some o) : Le h o := by
  obtain ⟨o_1, eo_1, hE⟩ := cl_e hE
  refine (moX5_plainMove eo_1).tr ?_
  obtain ⟨o_2, eo_2, hE⟩ := cl_e hE
  refine (moX5_addMove eo_2).tr ?_
  exact moX5_addDrops_101 mk_46 hE
set_option maxRecDepth 20000 in
theorem moX5_addDrops_46 {o : Hp} {F : Nat} : ∀ (f : Nat) {h : Hp} {x0 : Nat} {x1 : Int32} {x2 : Int32} {x3 : Int32}, sX5_addDrops_46 F f h x0 x1 x2 x3 = some o → Le h o := by
  intro f
  induction f with
  | zero =>
    intro h x0 x1 x2 x3 hE
    rw [sX5_addDrops_46] at hE
    cases hE
  | succ f ih =>
    intro h x0 x1 x2 x3 hE
    rw [sX5_addDrops_46] at hE
    have mk_46 : ∀ (h : Hp) (x0 : Nat) (x1 : Int32) (x2 : Int32) (x3 : Int32), sX5_addDrops_46 F f h x0 x1 x2 x3 = some o → Le h o := fun h x0 x1 x2 x3 hE => ih hE
    obtain ⟨r_1, er_1, hE⟩ := cl_e hE
    rcases br_e hE with ⟨_, hE⟩ | ⟨_, hE⟩
    · exact le_some1 hE
    · obtain ⟨r_3, er_3, hE⟩ := cl_e hE
      obtain ⟨r_4, er_4, hE⟩ := cl_e hE
      obtain ⟨o_5, eo_5, hE⟩ := cl_e hE
      refine (moX3_inHand eo_5).tr ?_
      rcases br_e hE with ⟨_, hE⟩ | ⟨_, hE⟩
      · exact moX5_addDrops_101 mk_46 hE
      · rcases br_e hE with ⟨_, hE⟩ | ⟨_, hE⟩
        · exact moX5_addDrops_90 mk_46 hE
        · obtain ⟨r_8, er_8, hE⟩ := cl_e hE
          obtain ⟨o_9, eo_9, hE⟩ := cl_e hE
          refine (moX1_becomesOthers eo_9).tr ?_
          rcases br_e hE with ⟨_, hE⟩ | ⟨_, hE⟩
          · exact moX5_addDrops_90 mk_46 hE
          · exact moX5_addDrops_101 mk_46 hE
set_option maxRecDepth 20000 in
theorem moX5_addDrops_43 {o : Hp} {F : Nat} {h : Hp} {x0 : Nat} {x1 : Int32} {t0 : Int32} (hE : sX5_addDrops_43 F h x0 x1 t0 = some o) : Le h o := by
  exact moX5_addDrops_46 _ hE
set_option maxRecDepth 20000 in
theorem moX5_addDrops_38 {o : Hp} {F : Nat} {h : Hp} {x0 : Nat} {x1 : Int32} (hE : sX5_addDrops_38 F h x0 x1 = some o) : Le h o := by
  exact moX5_addDrops_43 hE
set_option maxRecDepth 20000 in
theorem moX5_addDrops {o : Hp} {F : Nat} {h : Hp} {x0 : Nat} {x1 : Int32} (hE : sX5_addDrops F h x0 x1 = some o) : Le h o := by
  obtain ⟨r_1, er_1, hE⟩ := cl_e hE
  obtain ⟨r_2, er_2, hE⟩ := cl_e hE
  obtain ⟨g_3, hE⟩ := gd_e hE
  rcases br_e hE with ⟨_, hE⟩ | ⟨_, hE⟩
  · obtain ⟨r_5, er_5, hE⟩ := cl_e hE
    obtain ⟨o_6, eo_6, hE⟩ := cl_e hE
    refine (moX1_isLast eo_6).tr ?_
    rcases br_e hE with ⟨_, hE⟩ | ⟨_, hE⟩
    · obtain ⟨r_8, er_8, hE⟩ := cl_e hE
      obtain ⟨o_9, eo_9, hE⟩ := cl_e hE
      refine (moX1_isLast eo_9).tr ?_
      rcases br_e hE with ⟨_, hE⟩ | ⟨_, hE⟩
      · exact moX5_addDrops_43 hE
      · exact moX5_addDrops_38 hE
    · exact moX5_addDrops_38 hE
  · exact le_some1 hE
set_option maxRecDepth 20000 in
theorem bX5_addDrops_101 {p : Program} {l : Launch} {e : Env} {s : State} {m : MethodId} {args : Array Value} {below : List Frame} {meth : Method} {c : Code} {X : Ec} {h0 : Hp} {o : Hp} {k_46 : Hp → Nat → Int32 → Int32 → Int32 → Option (Hp)} {F : Nat} (C : Cx X p s m args meth c RX5 cX5_addDrops 4 none "addDrops") (hk_46 : ∀ (h : Hp) (x0 : Nat) (x1 : Int32) (x2 : Int32) (x3 : Int32) (H : Heap) (locs : List Loc), hK h x0 = 5 → Km h0 h → Wx X h H → va_S (aA (eB X)) s.heap H locs → ∀ (ls : Array Slot), lv_has ls 4 [(0, .ref x0), (1, .int x1), (2, .int x2), (3, .int x3)] → k_46 h x0 x1 x2 x3 = some o → W p l e (rm 1 23) s m args below meth c H locs 0 0 (MQ below (QV X h0 o) args s 0 0 (aA (eB X))) (F0 m 46 ls [])) {h : Hp} {x0 : Nat} {x1 : Int32} {x2 : Int32} {x3 : Int32} {H : Heap} {locs : List Loc} (k_x0 : hK h x0 = 5) (hkm : Km h0 h) (hW : Wx X h H) (hZ : va_S (aA (eB X)) s.heap H locs) (ls : Array Slot) (hl : lv_has ls 4 [(0, .ref x0), (1, .int x1), (2, .int x2), (3, .int x3)]) (hE : sX5_addDrops_101 F k_46 h x0 x1 x2 x3 = some o) : W p l e (rm 1 23) s m args below meth c H locs 0 0 (MQ below (QV X h0 o) args s 0 0 (aA (eB X))) (F0 m 101 ls []) := by
  obtain ⟨v_1, ev_1, hE⟩ := nm_e2 hE
  refine lv_iinc (v := v_1) (lv' := [(3, .int v_1), (0, .ref x0), (1, .int x1), (2, .int x2)]) C.1 C.2.1 dX5_addDrops_101 hl (k := 3) rfl (by rw [ev_1]; rfl) (by decide) rfl (fun ls hl => ?_)
  refine lv_goto (tgt := 46) C.1 C.2.1 dX5_addDrops_104 (by decide) ?_
  exact hk_46 _ _ _ _ _ _ _ k_x0 hkm hW hZ _ (lv_sub hl [1, 2, 3, 0] rfl) hE
set_option maxRecDepth 20000 in
theorem bX5_addDrops_90 {p : Program} {l : Launch} {e : Env} {s : State} {m : MethodId} {args : Array Value} {below : List Frame} {meth : Method} {c : Code} {X : Ec} {h0 : Hp} {o : Hp} {k_46 : Hp → Nat → Int32 → Int32 → Int32 → Option (Hp)} {F : Nat} (C : Cx X p s m args meth c RX5 cX5_addDrops 4 none "addDrops") (hk_46 : ∀ (h : Hp) (x0 : Nat) (x1 : Int32) (x2 : Int32) (x3 : Int32) (H : Heap) (locs : List Loc), hK h x0 = 5 → Km h0 h → Wx X h H → va_S (aA (eB X)) s.heap H locs → ∀ (ls : Array Slot), lv_has ls 4 [(0, .ref x0), (1, .int x1), (2, .int x2), (3, .int x3)] → k_46 h x0 x1 x2 x3 = some o → W p l e (rm 1 23) s m args below meth c H locs 0 0 (MQ below (QV X h0 o) args s 0 0 (aA (eB X))) (F0 m 46 ls [])) {h : Hp} {x0 : Nat} {x1 : Int32} {x2 : Int32} {x3 : Int32} {H : Heap} {locs : List Loc} (k_x0 : hK h x0 = 5) (hkm : Km h0 h) (hW : Wx X h H) (hZ : va_S (aA (eB X)) s.heap H locs) (ls : Array Slot) (hl : lv_has ls 4 [(0, .ref x0), (1, .int x1), (2, .int x2), (3, .int x3)]) (hE : sX5_addDrops_90 F k_46 h x0 x1 x2 x3 = some o) : W p l e (rm 1 23) s m args below meth c H locs 0 0 (MQ below (QV X h0 o) args s 0 0 (aA (eB X))) (F0 m 90 ls []) := by
  refine lv_aload_n C.1 C.2.1 dX5_addDrops_90 rfl (lv_at hl 0 rfl) ?_
  refine lv_iconst (v := (0 : Int32)) C.1 C.2.1 dX5_addDrops_91 (by decide) ?_
  refine lv_iload_n C.1 C.2.1 dX5_addDrops_92 rfl (lv_at hl 1 rfl) ?_
  refine lv_iload_n C.1 C.2.1 dX5_addDrops_93 rfl (lv_at hl 3 rfl) ?_
  refine lv_iconst (v := (3 : Int32)) C.1 C.2.1 dX5_addDrops_94 (by decide) ?_
  obtain ⟨o_1, eo_1, hE⟩ := cl_e hE
  refine x_kI (o := o_1) (z_runS (As := [.int (0 : Int32), .int x1, .int x3, .int (3 : Int32)]) (rest := [.ref x0]) C (ct_X5_plainMove l X eo_1) cw_X5_176 hW hZ rfl hl.1 (Nat.le_of_ble_eq_true rfl) rfl dX5_addDrops_95 ⟨Nat.le_of_ble_eq_true rfl, Nat.le_of_ble_eq_true rfl⟩ ⟨Nat.le_refl _, Nat.le_refl _⟩) hZ (fun _ _ hW km hZ => ?_)
  replace hkm := hkm.tr km
  replace k_x0 := km.at k_x0 (by decide)
  obtain ⟨o_2, eo_2, hE⟩ := cl_e hE
  refine x_kV (o := o_2) (z_runV (As := [.int o_1.1]) (rest := []) C (ct_X5_addMove l X k_x0 eo_2) cw_X5_170 hW hZ k_x0 (by decide) rfl rfl rfl hl.1 (Nat.le_of_ble_eq_true rfl) rfl dX5_addDrops_98 ⟨Nat.le_of_ble_eq_true rfl, Nat.le_of_ble_eq_true rfl⟩ ⟨Nat.le_refl _, Nat.le_refl _⟩) hZ (fun _ _ hW km hZ => ?_)
  replace hkm := hkm.tr km
  replace k_x0 := km.at k_x0 (by decide)
  exact bX5_addDrops_101 C hk_46 k_x0 hkm hW hZ _ (lv_sub hl [0, 1, 2, 3] rfl) hE
set_option maxRecDepth 20000 in
theorem bX5_addDrops_46 {p : Program} {l : Launch} {e : Env} {s : State} {m : MethodId} {args : Array Value} {below : List Frame} {meth : Method} {c : Code} {X : Ec} {h0 : Hp} {o : Hp} {F : Nat} (C : Cx X p s m args meth c RX5 cX5_addDrops 4 none "addDrops") : ∀ (f : Nat) {h : Hp} {x0 : Nat} {x1 : Int32} {x2 : Int32} {x3 : Int32} {H : Heap} {locs : List Loc} (k_x0 : hK h x0 = 5), Km h0 h → Wx X h H → va_S (aA (eB X)) s.heap H locs → ∀ (ls : Array Slot), lv_has ls 4 [(0, .ref x0), (1, .int x1), (2, .int x2), (3, .int x3)] → sX5_addDrops_46 F f h x0 x1 x2 x3 = some o → W p l e (rm 1 23) s m args below meth c H locs 0 0 (MQ below (QV X h0 o) args s 0 0 (aA (eB X))) (F0 m 46 ls []) := by
  intro f
  induction f with
  | zero =>
    intro h x0 x1 x2 x3 H locs k_x0 hkm hW hZ ls hl hE
    rw [sX5_addDrops_46] at hE
    cases hE
  | succ f ih =>
    intro h x0 x1 x2 x3 H locs k_x0 hkm hW hZ ls hl hE
    rw [sX5_addDrops_46] at hE
    have hk_46 : ∀ (h : Hp) (x0 : Nat) (x1 : Int32) (x2 : Int32) (x3 : Int32) (H : Heap) (locs : List Loc), hK h x0 = 5 → Km h0 h → Wx X h H → va_S (aA (eB X)) s.heap H locs → ∀ (ls : Array Slot), lv_has ls 4 [(0, .ref x0), (1, .int x1), (2, .int x2), (3, .int x3)] → sX5_addDrops_46 F f h x0 x1 x2 x3 = some o → W p l e (rm 1 23) s m args below meth c H locs 0 0 (MQ below (QV X h0 o) args s 0 0 (aA (eB X))) (F0 m 46 ls []) := fun h x0 x1 x2 x3 H locs k_x0 a b c ls hl hE => ih k_x0 a b c ls hl hE
    refine lv_iload_n C.1 C.2.1 dX5_addDrops_46 rfl (lv_at hl 3 rfl) ?_
    refine lv_aload_n C.1 C.2.1 dX5_addDrops_47 rfl (lv_at hl 0 rfl) ?_
    obtain ⟨r_1, er_1, hE⟩ := cl_e hE
    refine gf_X5_22 C hW k_x0 er_1 dX5_addDrops_48 (fun k_r_1 => ?_)
    refine gf_X5_206 C hW k_r_1 dX5_addDrops_51 ?_
    refine lv_icmp_ge (tgt := 107) C.1 C.2.1 dX5_addDrops_54 (by decide) (fun c_2 => ?_) (fun c_2 => ?_)
    · have hE := br_p hE c_2
      exact x_vret C rfl hW hZ hkm hE dX5_addDrops_107
    · have hE := br_n hE c_2
      refine lv_aload_n C.1 C.2.1 dX5_addDrops_57 rfl (lv_at hl 0 rfl) ?_
      obtain ⟨r_3, er_3, hE⟩ := cl_e hE
      refine gf_X5_71 C hW k_x0 er_3 dX5_addDrops_58 (fun k_r_3 => ?_)
      refine lv_aload_n C.1 C.2.1 dX5_addDrops_61 rfl (lv_at hl 0 rfl) ?_
      obtain ⟨r_4, er_4, hE⟩ := cl_e hE
      refine gf_X5_71 C hW k_x0 er_4 dX5_addDrops_62 (fun k_r_4 => ?_)
      refine gf_X5_78 C hW k_r_4 dX5_addDrops_65 ?_
      refine lv_iload_n C.1 C.2.1 dX5_addDrops_68 rfl (lv_at hl 3 rfl) ?_
      obtain ⟨o_5, eo_5, hE⟩ := cl_e hE
      refine x_kI (o := o_5) (z_runV (As := [.int (hI h r_4 5), .int x3]) (rest := []) C (ct_X3_inHand l X k_r_3 eo_5) cw_X5_209 hW hZ k_r_3 (by decide) rfl rfl rfl hl.1 (Nat.le_of_ble_eq_true rfl) rfl dX5_addDrops_69 ⟨Nat.le_of_ble_eq_true rfl, Nat.le_of_ble_eq_true rfl⟩ ⟨Nat.le_refl _, Nat.le_refl _⟩) hZ (fun _ _ hW km hZ => ?_)
      replace hkm := hkm.tr km
      replace k_x0 := km.at k_x0 (by decide)
      refine lv_if_le (tgt := 101) C.1 C.2.1 dX5_addDrops_72 (by decide) (fun c_6 => ?_) (fun c_6 => ?_)
      · have hE := br_p hE c_6
        exact bX5_addDrops_101 C hk_46 k_x0 hkm hW hZ _ (lv_sub hl [0, 1, 2, 3] rfl) hE
      · have hE := br_n hE c_6
        refine lv_iload_n C.1 C.2.1 dX5_addDrops_75 rfl (lv_at hl 2 rfl) ?_
        refine lv_if_eq (tgt := 90) C.1 C.2.1 dX5_addDrops_76 (by decide) (fun c_7 => ?_) (fun c_7 => ?_)
        · have hE := br_p hE c_7
          exact bX5_addDrops_90 C hk_46 k_x0 hkm hW hZ _ (lv_sub hl [0, 1, 2, 3] rfl) hE
        · have hE := br_n hE c_7
          refine lv_aload_n C.1 C.2.1 dX5_addDrops_79 rfl (lv_at hl 0 rfl) ?_
          obtain ⟨r_8, er_8, hE⟩ := cl_e hE
          refine gf_X5_22 C hW k_x0 er_8 dX5_addDrops_80 (fun k_r_8 => ?_)
          refine lv_iload_n C.1 C.2.1 dX5_addDrops_83 rfl (lv_at hl 3 rfl) ?_
          obtain ⟨o_9, eo_9, hE⟩ := cl_e hE
          refine x_kI (o := o_9) (z_runV (As := [.int x3]) (rest := []) C (ct_X1_becomesOthers l X k_r_8 eo_9) cw_X5_212 hW hZ k_r_8 (by decide) rfl rfl rfl hl.1 (Nat.le_of_ble_eq_true rfl) rfl dX5_addDrops_84 ⟨Nat.le_of_ble_eq_true rfl, Nat.le_of_ble_eq_true rfl⟩ ⟨Nat.le_refl _, Nat.le_refl _⟩) hZ (fun _ _ hW km hZ => ?_)
          replace hkm := hkm.tr km
          replace k_x0 := km.at k_x0 (by decide)
          refine lv_if_ne (tgt := 101) C.1 C.2.1 dX5_addDrops_87 (by decide) (fun c_10 => ?_) (fun c_10 => ?_)
          · have hE := br_n hE c_10
            exact bX5_addDrops_101 C hk_46 k_x0 hkm hW hZ _ (lv_sub hl [0, 1, 2, 3] rfl) hE
          · have hE := br_p hE c_10
            exact bX5_addDrops_90 C hk_46 k_x0 hkm hW hZ _ (lv_sub hl [0, 1, 2, 3] rfl) hE
set_option maxRecDepth 20000 in
theorem bX5_addDrops_43 {p : Program} {l : Launch} {e : Env} {s : State} {m : MethodId} {args : Array Value} {below : List Frame} {meth : Method} {c : Code} {X : Ec} {h0 : Hp} {o : Hp} {F : Nat} (C : Cx X p s m args meth c RX5 cX5_addDrops 4 none "addDrops") {h : Hp} {x0 : Nat} {x1 : Int32} {t0 : Int32} {H : Heap} {locs : List Loc} (k_x0 : hK h x0 = 5) (hkm : Km h0 h) (hW : Wx X h H) (hZ : va_S (aA (eB X)) s.heap H locs) (ls : Array Slot) (hl : lv_has ls 4 [(0, .ref x0), (1, .int x1)]) (hE : sX5_addDrops_43 F h x0 x1 t0 = some o) : W p l e (rm 1 23) s m args below meth c H locs 0 0 (MQ below (QV X h0 o) args s 0 0 (aA (eB X))) (F0 m 43 ls [.int t0]) := by
  refine lv_istore_n (lv' := [(2, .int t0), (0, .ref x0), (1, .int x1)]) C.1 C.2.1 dX5_addDrops_43 rfl hl (by decide) rfl (fun ls hl => ?_)
  refine lv_iconst (v := (0 : Int32)) C.1 C.2.1 dX5_addDrops_44 (by decide) ?_
  refine lv_istore_n (lv' := [(3, .int (0 : Int32)), (2, .int t0), (0, .ref x0), (1, .int x1)]) C.1 C.2.1 dX5_addDrops_45 rfl hl (by decide) rfl (fun ls hl => ?_)
  exact bX5_addDrops_46 C F k_x0 hkm hW hZ _ (lv_sub hl [2, 3, 1, 0] rfl) hE
set_option maxRecDepth 20000 in
theorem bX5_addDrops_38 {p : Program} {l : Launch} {e : Env} {s : State} {m : MethodId} {args : Array Value} {below : List Frame} {meth : Method} {c : Code} {X : Ec} {h0 : Hp} {o : Hp} {F : Nat} (C : Cx X p s m args meth c RX5 cX5_addDrops 4 none "addDrops") {h : Hp} {x0 : Nat} {x1 : Int32} {H : Heap} {locs : List Loc} (k_x0 : hK h x0 = 5) (hkm : Km h0 h) (hW : Wx X h H) (hZ : va_S (aA (eB X)) s.heap H locs) (ls : Array Slot) (hl : lv_has ls 4 [(0, .ref x0), (1, .int x1)]) (hE : sX5_addDrops_38 F h x0 x1 = some o) : W p l e (rm 1 23) s m args below meth c H locs 0 0 (MQ below (QV X h0 o) args s 0 0 (aA (eB X))) (F0 m 38 ls []) := by
  refine lv_iconst (v := (1 : Int32)) C.1 C.2.1 dX5_addDrops_38 (by decide) ?_
  refine lv_goto (tgt := 43) C.1 C.2.1 dX5_addDrops_39 (by decide) ?_
  exact bX5_addDrops_43 C k_x0 hkm hW hZ _ (lv_sub hl [0, 1] rfl) hE
set_option maxRecDepth 20000 in
theorem ct_X5_addDrops (l : Launch) (X : Ec) (F : Nat) {h : Hp} {x0 : Nat} {x1 : Int32} {o : Hp} (k_x0 : hK h x0 = 5) (hE : sX5_addDrops F h x0 x1 = some o) : MetV l yX5_addDrops cX5_addDrops 4 none 1 23 X [.ref x0, .int x1] h o := by
  refine x_met (by decide) (Nat.le_of_ble_eq_true rfl) ?_
  intro p e s m below meth c ls C hl hW hZ
  have hl : lv_has ls 4 [(0, .ref x0), (1, .int x1)] := hl
  have hkm : Km h h := Km.rf h
  refine lv_aload_n C.1 C.2.1 dX5_addDrops_0 rfl (lv_at hl 0 rfl) ?_
  obtain ⟨r_1, er_1, hE⟩ := cl_e hE
  refine gf_X5_71 C hW k_x0 er_1 dX5_addDrops_1 (fun k_r_1 => ?_)
  obtain ⟨r_2, er_2, hE⟩ := cl_e hE
  refine gf_X5_42 C hW k_r_1 er_2 dX5_addDrops_4 (fun k_r_2 => ?_)
  refine lv_iload_n C.1 C.2.1 dX5_addDrops_7 rfl (lv_at hl 1 rfl) ?_
  obtain ⟨g_3, hE⟩ := gd_e hE
  refine y_bald C hW k_r_2 g_3 dX5_addDrops_8 ?_
  refine lv_iconst (v := (-1 : Int32)) C.1 C.2.1 dX5_addDrops_9 (by decide) ?_
  refine lv_icmp_eq (tgt := 14) C.1 C.2.1 dX5_addDrops_10 (by decide) (fun c_4 => ?_) (fun c_4 => ?_)
  · have hE := br_p hE c_4
    refine lv_aload_n C.1 C.2.1 dX5_addDrops_14 rfl (lv_at hl 0 rfl) ?_
    obtain ⟨r_5, er_5, hE⟩ := cl_e hE
    refine gf_X5_22 C hW k_x0 er_5 dX5_addDrops_15 (fun k_r_5 => ?_)
    refine lv_iload_n C.1 C.2.1 dX5_addDrops_18 rfl (lv_at hl 1 rfl) ?_
    refine lv_iconst (v := (0 : Int32)) C.1 C.2.1 dX5_addDrops_19 (by decide) ?_
    obtain ⟨o_6, eo_6, hE⟩ := cl_e hE
    refine x_kI (o := o_6) (z_runV (As := [.int x1, .int (0 : Int32)]) (rest := []) C (ct_X1_isLast l X k_r_5 eo_6) cw_X5_187 hW hZ k_r_5 (by decide) rfl rfl rfl hl.1 (Nat.le_of_ble_eq_true rfl) rfl dX5_addDrops_20 ⟨Nat.le_of_ble_eq_true rfl, Nat.le_of_ble_eq_true rfl⟩ ⟨Nat.le_refl _, Nat.le_refl _⟩) hZ (fun _ _ hW km hZ => ?_)
    replace hkm := hkm.tr km
    replace k_x0 := km.at k_x0 (by decide)
    refine lv_if_ne (tgt := 38) C.1 C.2.1 dX5_addDrops_23 (by decide) (fun c_7 => ?_) (fun c_7 => ?_)
    · have hE := br_n hE c_7
      exact bX5_addDrops_38 C k_x0 hkm hW hZ _ (lv_sub hl [0, 1] rfl) hE
    · have hE := br_p hE c_7
      refine lv_aload_n C.1 C.2.1 dX5_addDrops_26 rfl (lv_at hl 0 rfl) ?_
      obtain ⟨r_8, er_8, hE⟩ := cl_e hE
      refine gf_X5_22 C hW k_x0 er_8 dX5_addDrops_27 (fun k_r_8 => ?_)
      refine lv_iload_n C.1 C.2.1 dX5_addDrops_30 rfl (lv_at hl 1 rfl) ?_
      refine lv_iconst (v := (1 : Int32)) C.1 C.2.1 dX5_addDrops_31 (by decide) ?_
      obtain ⟨o_9, eo_9, hE⟩ := cl_e hE
      refine x_kI (o := o_9) (z_runV (As := [.int x1, .int (1 : Int32)]) (rest := []) C (ct_X1_isLast l X k_r_8 eo_9) cw_X5_187 hW hZ k_r_8 (by decide) rfl rfl rfl hl.1 (Nat.le_of_ble_eq_true rfl) rfl dX5_addDrops_32 ⟨Nat.le_of_ble_eq_true rfl, Nat.le_of_ble_eq_true rfl⟩ ⟨Nat.le_refl _, Nat.le_refl _⟩) hZ (fun _ _ hW km hZ => ?_)
      replace hkm := hkm.tr km
      replace k_x0 := km.at k_x0 (by decide)
      refine lv_if_eq (tgt := 42) C.1 C.2.1 dX5_addDrops_35 (by decide) (fun c_10 => ?_) (fun c_10 => ?_)
      · have hE := br_p hE c_10
        refine lv_iconst (v := (0 : Int32)) C.1 C.2.1 dX5_addDrops_42 (by decide) ?_
        exact bX5_addDrops_43 C k_x0 hkm hW hZ _ (lv_sub hl [0, 1] rfl) hE
      · have hE := br_n hE c_10
        exact bX5_addDrops_38 C k_x0 hkm hW hZ _ (lv_sub hl [0, 1] rfl) hE
  · have hE := br_n hE c_4
    exact x_vret C rfl hW hZ hkm hE dX5_addDrops_13
theorem dX5_keepTakes_0 : decode cX5_keepTakes 0 = .ok (.iconst 0, 1) := by decide +kernel
theorem dX5_keepTakes_1 : decode cX5_keepTakes 1 = .ok (.istore_n 1, 1) := by decide +kernel
theorem dX5_keepTakes_2 : decode cX5_keepTakes 2 = .ok (.iconst 0, 1) := by decide +kernel
theorem dX5_keepTakes_3 : decode cX5_keepTakes 3 = .ok (.istore_n 2, 1) := by decide +kernel
theorem dX5_keepTakes_4 : decode cX5_keepTakes 4 = .ok (.iload_n 2, 1) := by decide +kernel
theorem dX5_keepTakes_5 : decode cX5_keepTakes 5 = .ok (.aload_n 0, 1) := by decide +kernel
theorem dX5_keepTakes_6 : decode cX5_keepTakes 6 = .ok (.getfield 82, 3) := by decide +kernel
theorem dX5_keepTakes_9 : decode cX5_keepTakes 9 = .ok (.if_icmp .ge 37, 3) := by decide +kernel
theorem dX5_keepTakes_12 : decode cX5_keepTakes 12 = .ok (.aload_n 0, 1) := by decide +kernel
theorem dX5_keepTakes_13 : decode cX5_keepTakes 13 = .ok (.getfield 123, 3) := by decide +kernel
theorem dX5_keepTakes_16 : decode cX5_keepTakes 16 = .ok (.iload_n 2, 1) := by decide +kernel
theorem dX5_keepTakes_17 : decode cX5_keepTakes 17 = .ok (.iaload, 1) := by decide +kernel
theorem dX5_keepTakes_18 : decode cX5_keepTakes 18 = .ok (.invokestatic 181, 3) := by decide +kernel
theorem dX5_keepTakes_21 : decode cX5_keepTakes 21 = .ok (.iconst (-1), 1) := by decide +kernel
theorem dX5_keepTakes_22 : decode cX5_keepTakes 22 = .ok (.if_icmp .eq 18, 3) := by decide +kernel
theorem dX5_keepTakes_25 : decode cX5_keepTakes 25 = .ok (.aload_n 0, 1) := by decide +kernel
theorem dX5_keepTakes_26 : decode cX5_keepTakes 26 = .ok (.getfield 123, 3) := by decide +kernel
theorem dX5_keepTakes_29 : decode cX5_keepTakes 29 = .ok (.iload_n 1, 1) := by decide +kernel
theorem dX5_keepTakes_30 : decode cX5_keepTakes 30 = .ok (.aload_n 0, 1) := by decide +kernel
theorem dX5_keepTakes_31 : decode cX5_keepTakes 31 = .ok (.getfield 123, 3) := by decide +kernel
theorem dX5_keepTakes_34 : decode cX5_keepTakes 34 = .ok (.iload_n 2, 1) := by decide +kernel
theorem dX5_keepTakes_35 : decode cX5_keepTakes 35 = .ok (.iaload, 1) := by decide +kernel
theorem dX5_keepTakes_36 : decode cX5_keepTakes 36 = .ok (.iastore, 1) := by decide +kernel
theorem dX5_keepTakes_37 : decode cX5_keepTakes 37 = .ok (.iinc 1 1, 3) := by decide +kernel
theorem dX5_keepTakes_40 : decode cX5_keepTakes 40 = .ok (.iinc 2 1, 3) := by decide +kernel
theorem dX5_keepTakes_43 : decode cX5_keepTakes 43 = .ok (.goto (-39), 3) := by decide +kernel
theorem dX5_keepTakes_46 : decode cX5_keepTakes 46 = .ok (.aload_n 0, 1) := by decide +kernel
theorem dX5_keepTakes_47 : decode cX5_keepTakes 47 = .ok (.iload_n 1, 1) := by decide +kernel
theorem dX5_keepTakes_48 : decode cX5_keepTakes 48 = .ok (.putfield 82, 3) := by decide +kernel
theorem dX5_keepTakes_51 : decode cX5_keepTakes 51 = .ok (.return_, 1) := by decide +kernel
def sX5_keepTakes_40 (F : Nat) (k_4 : Hp → Nat → Int32 → Int32 → Option (Hp)) (h : Hp) (x0 : Nat) (x1 : Int32) (x2 : Int32) : Option (Hp) := nm (x2 + (1 : Int32)) fun v_1 => k_4 h x0 x1 v_1
def sX5_keepTakes_4 (F : Nat) : Nat → Hp → Nat → Int32 → Int32 → Option (Hp)
  | 0, _, _, _, _ => none
  | f + 1, h, x0, x1, x2 => br ((hI h x0 6) ≤ x2) (nm (wI h x0 6 x1) fun h_2 => some h_2) (cl (hR h x0 5) fun r_3 => gd (inB x2 (hN h r_3)) <| cl (sX5_takenBy h (hI h r_3 x2.toNatClampNeg)) fun o_5 => br (o_5.1 = (-1 : Int32)) (sX5_keepTakes_40 F (sX5_keepTakes_4 F f) o_5.2 x0 x1 x2) (cl (hR o_5.2 x0 5) fun r_7 => cl (hR o_5.2 x0 5) fun r_8 => gd (inB x2 (hN o_5.2 r_8)) <| gd (inB x1 (hN o_5.2 r_7)) <| nm (wI o_5.2 r_7 x1.toNatClampNeg (hI o_5.2 r_8 x2.toNatClampNeg)) fun h_11 => nm (x1 + (1 : Int32)) fun v_12 => sX5_keepTakes_40 F (sX5_keepTakes_4 F f) h_11 x0 v_12 x2))
def sX5_keepTakes (F : Nat) (h : Hp) (x0 : Nat) : Option (Hp) := sX5_keepTakes_4 F F h x0 (0 : Int32) (0 : Int32)
set_option maxRecDepth 20000 in
theorem moX5_keepTakes_40 {o : Hp} {k_4 : Hp → Nat → Int32 → Int32 → Option (Hp)} {F : Nat} (mk_4 : ∀ (h : Hp) (x0 : Nat) (x1 : Int32) (x2 : Int32), k_4 h x0 x1 x2 = some o → Le h o) {h : Hp} {x0 : Nat} {x1 : Int32} {x2 : Int32} (hE : sX5_keepTakes_40 F k_4 h x0 x1 x2 = some o) : Le h o := by
  obtain ⟨v_1, ev_1, hE⟩ := nm_e2 hE
  exact mk_4 _ _ _ _ hE
set_option maxRecDepth 20000 in
theorem moX5_keepTakes_4 {o : Hp} {F : Nat} : ∀ (f : Nat) {h : Hp} {x0 : Nat} {x1 : Int32} {x2 : Int32}, sX5_keepTakes_4 F f h x0 x1 x2 = some o → Le h o := by
  intro f
  induction f with
  | zero =>
    intro h x0 x1 x2 hE
    rw [sX5_keepTakes_4] at hE
    cases hE
  | succ f ih =>
    intro h x0 x1 x2 hE
    rw [sX5_keepTakes_4] at hE
    have mk_4 : ∀ (h : Hp) (x0 : Nat) (x1 : Int32) (x2 : Int32), sX5_keepTakes_4 F f h x0 x1 x2 = some o → Le h o := fun h x0 x1 x2 hE => ih hE
    rcases br_e hE with ⟨_, hE⟩ | ⟨_, hE⟩
    · obtain ⟨h_2, eh_2, hE⟩ := nm_e2 hE
      refine (le_I eh_2).tr ?_
      exact le_some1 hE
    · obtain ⟨r_3, er_3, hE⟩ := cl_e hE
      obtain ⟨g_4, hE⟩ := gd_e hE
      obtain ⟨o_5, eo_5, hE⟩ := cl_e hE
      refine (moX5_takenBy eo_5).tr ?_
      rcases br_e hE with ⟨_, hE⟩ | ⟨_, hE⟩
      · exact moX5_keepTakes_40 mk_4 hE
      · obtain ⟨r_7, er_7, hE⟩ := cl_e hE
        obtain ⟨r_8, er_8, hE⟩ := cl_e hE
        obtain ⟨g_9, hE⟩ := gd_e hE
        obtain ⟨g_10, hE⟩ := gd_e hE
        obtain ⟨h_11, eh_11, hE⟩ := nm_e2 hE
        refine (le_I eh_11).tr ?_
        obtain ⟨v_12, ev_12, hE⟩ := nm_e2 hE
        exact moX5_keepTakes_40 mk_4 hE
set_option maxRecDepth 20000 in
theorem moX5_keepTakes {o : Hp} {F : Nat} {h : Hp} {x0 : Nat} (hE : sX5_keepTakes F h x0 = some o) : Le h o := by
  exact moX5_keepTakes_4 _ hE
set_option maxRecDepth 20000 in
theorem bX5_keepTakes_40 {p : Program} {l : Launch} {e : Env} {s : State} {m : MethodId} {args : Array Value} {below : List Frame} {meth : Method} {c : Code} {X : Ec} {h0 : Hp} {o : Hp} {k_4 : Hp → Nat → Int32 → Int32 → Option (Hp)} {F : Nat} (C : Cx X p s m args meth c RX5 cX5_keepTakes 3 none "keepTakes") (hk_4 : ∀ (h : Hp) (x0 : Nat) (x1 : Int32) (x2 : Int32) (H : Heap) (locs : List Loc), hK h x0 = 5 → Km h0 h → Wx X h H → va_S (aA (eB X)) s.heap H locs → ∀ (ls : Array Slot), lv_has ls 3 [(0, .ref x0), (1, .int x1), (2, .int x2)] → k_4 h x0 x1 x2 = some o → W p l e (rm 1 21) s m args below meth c H locs 0 0 (MQ below (QV X h0 o) args s 0 0 (aA (eB X))) (F0 m 4 ls [])) {h : Hp} {x0 : Nat} {x1 : Int32} {x2 : Int32} {H : Heap} {locs : List Loc} (k_x0 : hK h x0 = 5) (hkm : Km h0 h) (hW : Wx X h H) (hZ : va_S (aA (eB X)) s.heap H locs) (ls : Array Slot) (hl : lv_has ls 3 [(0, .ref x0), (1, .int x1), (2, .int x2)]) (hE : sX5_keepTakes_40 F k_4 h x0 x1 x2 = some o) : W p l e (rm 1 21) s m args below meth c H locs 0 0 (MQ below (QV X h0 o) args s 0 0 (aA (eB X))) (F0 m 40 ls []) := by
  obtain ⟨v_1, ev_1, hE⟩ := nm_e2 hE
  refine lv_iinc (v := v_1) (lv' := [(2, .int v_1), (0, .ref x0), (1, .int x1)]) C.1 C.2.1 dX5_keepTakes_40 hl (k := 2) rfl (by rw [ev_1]; rfl) (by decide) rfl (fun ls hl => ?_)
  refine lv_goto (tgt := 4) C.1 C.2.1 dX5_keepTakes_43 (by decide) ?_
  exact hk_4 _ _ _ _ _ _ k_x0 hkm hW hZ _ (lv_sub hl [1, 2, 0] rfl) hE
set_option maxRecDepth 20000 in
theorem bX5_keepTakes_4 {p : Program} {l : Launch} {e : Env} {s : State} {m : MethodId} {args : Array Value} {below : List Frame} {meth : Method} {c : Code} {X : Ec} {h0 : Hp} {o : Hp} {F : Nat} (C : Cx X p s m args meth c RX5 cX5_keepTakes 3 none "keepTakes") : ∀ (f : Nat) {h : Hp} {x0 : Nat} {x1 : Int32} {x2 : Int32} {H : Heap} {locs : List Loc} (k_x0 : hK h x0 = 5), Km h0 h → Wx X h H → va_S (aA (eB X)) s.heap H locs → ∀ (ls : Array Slot), lv_has ls 3 [(0, .ref x0), (1, .int x1), (2, .int x2)] → sX5_keepTakes_4 F f h x0 x1 x2 = some o → W p l e (rm 1 21) s m args below meth c H locs 0 0 (MQ below (QV X h0 o) args s 0 0 (aA (eB X))) (F0 m 4 ls []) := by
  intro f
  induction f with
  | zero =>
    intro h x0 x1 x2 H locs k_x0 hkm hW hZ ls hl hE
    rw [sX5_keepTakes_4] at hE
    cases hE
  | succ f ih =>
    intro h x0 x1 x2 H locs k_x0 hkm hW hZ ls hl hE
    rw [sX5_keepTakes_4] at hE
    have hk_4 : ∀ (h : Hp) (x0 : Nat) (x1 : Int32) (x2 : Int32) (H : Heap) (locs : List Loc), hK h x0 = 5 → Km h0 h → Wx X h H → va_S (aA (eB X)) s.heap H locs → ∀ (ls : Array Slot), lv_has ls 3 [(0, .ref x0), (1, .int x1), (2, .int x2)] → sX5_keepTakes_4 F f h x0 x1 x2 = some o → W p l e (rm 1 21) s m args below meth c H locs 0 0 (MQ below (QV X h0 o) args s 0 0 (aA (eB X))) (F0 m 4 ls []) := fun h x0 x1 x2 H locs k_x0 a b c ls hl hE => ih k_x0 a b c ls hl hE
    refine lv_iload_n C.1 C.2.1 dX5_keepTakes_4 rfl (lv_at hl 2 rfl) ?_
    refine lv_aload_n C.1 C.2.1 dX5_keepTakes_5 rfl (lv_at hl 0 rfl) ?_
    refine gf_X5_82 C hW k_x0 dX5_keepTakes_6 ?_
    refine lv_icmp_ge (tgt := 46) C.1 C.2.1 dX5_keepTakes_9 (by decide) (fun c_1 => ?_) (fun c_1 => ?_)
    · have hE := br_p hE c_1
      refine lv_aload_n C.1 C.2.1 dX5_keepTakes_46 rfl (lv_at hl 0 rfl) ?_
      refine lv_iload_n C.1 C.2.1 dX5_keepTakes_47 rfl (lv_at hl 1 rfl) ?_
      obtain ⟨h_2, eh_2, hE⟩ := nm_e2 hE
      refine pf_X5_82 C hW hZ k_x0 eh_2 dX5_keepTakes_48 (fun _ _ hW km hZ => ?_)
      replace hkm := hkm.tr km
      replace k_x0 := km.at k_x0 (by decide)
      exact x_vret C rfl hW hZ hkm hE dX5_keepTakes_51
    · have hE := br_n hE c_1
      refine lv_aload_n C.1 C.2.1 dX5_keepTakes_12 rfl (lv_at hl 0 rfl) ?_
      obtain ⟨r_3, er_3, hE⟩ := cl_e hE
      refine gf_X5_123 C hW k_x0 er_3 dX5_keepTakes_13 (fun k_r_3 => ?_)
      refine lv_iload_n C.1 C.2.1 dX5_keepTakes_16 rfl (lv_at hl 2 rfl) ?_
      obtain ⟨g_4, hE⟩ := gd_e hE
      refine y_iald C hW k_r_3 g_4 dX5_keepTakes_17 ?_
      obtain ⟨o_5, eo_5, hE⟩ := cl_e hE
      refine x_kI (o := o_5) (z_runS (As := [.int (hI h r_3 x2.toNatClampNeg)]) (rest := []) C (ct_X5_takenBy l X eo_5) cw_X5_181 hW hZ rfl hl.1 (Nat.le_of_ble_eq_true rfl) rfl dX5_keepTakes_18 ⟨Nat.le_of_ble_eq_true rfl, Nat.le_of_ble_eq_true rfl⟩ ⟨Nat.le_refl _, Nat.le_refl _⟩) hZ (fun _ _ hW km hZ => ?_)
      replace hkm := hkm.tr km
      replace k_x0 := km.at k_x0 (by decide)
      refine lv_iconst (v := (-1 : Int32)) C.1 C.2.1 dX5_keepTakes_21 (by decide) ?_
      refine lv_icmp_eq (tgt := 40) C.1 C.2.1 dX5_keepTakes_22 (by decide) (fun c_6 => ?_) (fun c_6 => ?_)
      · have hE := br_p hE c_6
        exact bX5_keepTakes_40 C hk_4 k_x0 hkm hW hZ _ (lv_sub hl [0, 1, 2] rfl) hE
      · have hE := br_n hE c_6
        refine lv_aload_n C.1 C.2.1 dX5_keepTakes_25 rfl (lv_at hl 0 rfl) ?_
        obtain ⟨r_7, er_7, hE⟩ := cl_e hE
        refine gf_X5_123 C hW k_x0 er_7 dX5_keepTakes_26 (fun k_r_7 => ?_)
        refine lv_iload_n C.1 C.2.1 dX5_keepTakes_29 rfl (lv_at hl 1 rfl) ?_
        refine lv_aload_n C.1 C.2.1 dX5_keepTakes_30 rfl (lv_at hl 0 rfl) ?_
        obtain ⟨r_8, er_8, hE⟩ := cl_e hE
        refine gf_X5_123 C hW k_x0 er_8 dX5_keepTakes_31 (fun k_r_8 => ?_)
        refine lv_iload_n C.1 C.2.1 dX5_keepTakes_34 rfl (lv_at hl 2 rfl) ?_
        obtain ⟨g_9, hE⟩ := gd_e hE
        refine y_iald C hW k_r_8 g_9 dX5_keepTakes_35 ?_
        obtain ⟨g_10, hE⟩ := gd_e hE
        obtain ⟨h_11, eh_11, hE⟩ := nm_e2 hE
        refine y_iast C hW hZ k_r_7 g_10 eh_11 dX5_keepTakes_36 (fun _ _ hW km hZ => ?_)
        replace hkm := hkm.tr km
        replace k_x0 := km.at k_x0 (by decide)
        obtain ⟨v_12, ev_12, hE⟩ := nm_e2 hE
        refine lv_iinc (v := v_12) (lv' := [(1, .int v_12), (0, .ref x0), (2, .int x2)]) C.1 C.2.1 dX5_keepTakes_37 hl (k := 1) rfl (by rw [ev_12]; rfl) (by decide) rfl (fun ls hl => ?_)
        exact bX5_keepTakes_40 C hk_4 k_x0 hkm hW hZ _ (lv_sub hl [1, 0, 2] rfl) hE
set_option maxRecDepth 20000 in
theorem ct_X5_keepTakes (l : Launch) (X : Ec) (F : Nat) {h : Hp} {x0 : Nat} {o : Hp} (k_x0 : hK h x0 = 5) (hE : sX5_keepTakes F h x0 = some o) : MetV l yX5_keepTakes cX5_keepTakes 3 none 1 21 X [.ref x0] h o := by
  refine x_met (by decide) (Nat.le_of_ble_eq_true rfl) ?_
  intro p e s m below meth c ls C hl hW hZ
  have hl : lv_has ls 3 [(0, .ref x0)] := hl
  have hkm : Km h h := Km.rf h
  refine lv_iconst (v := (0 : Int32)) C.1 C.2.1 dX5_keepTakes_0 (by decide) ?_
  refine lv_istore_n (lv' := [(1, .int (0 : Int32)), (0, .ref x0)]) C.1 C.2.1 dX5_keepTakes_1 rfl hl (by decide) rfl (fun ls hl => ?_)
  refine lv_iconst (v := (0 : Int32)) C.1 C.2.1 dX5_keepTakes_2 (by decide) ?_
  refine lv_istore_n (lv' := [(2, .int (0 : Int32)), (1, .int (0 : Int32)), (0, .ref x0)]) C.1 C.2.1 dX5_keepTakes_3 rfl hl (by decide) rfl (fun ls hl => ?_)
  exact bX5_keepTakes_4 C F k_x0 hkm hW hZ _ (lv_sub hl [2, 1, 0] rfl) hE
set_option maxRecDepth 100000 in
theorem ms_66 : Cond.selects RX5 yX5_keepTakes yX5_keepTakes ∈ W0 := w0_in (List.mem_append_left _ (List.mem_of_getElem? (i := 66) rfl)) rfl
set_option maxRecDepth 100000 in
theorem ms_65 : Cond.selects RX5 yX5_addDrops yX5_addDrops ∈ W0 := w0_in (List.mem_append_left _ (List.mem_of_getElem? (i := 65) rfl)) rfl
set_option maxRecDepth 100000 in
theorem ms_60 : Cond.selects RX5 yX5_keepLawful yX5_keepLawful ∈ W0 := w0_in (List.mem_append_left _ (List.mem_of_getElem? (i := 60) rfl)) rfl
set_option maxRecDepth 100000 in
theorem ms_58 : Cond.selects RX5 yX5_addCastling yX5_addCastling ∈ W0 := w0_in (List.mem_append_left _ (List.mem_of_getElem? (i := 58) rfl)) rfl
set_option maxRecDepth 100000 in
theorem ms_53 : Cond.selects RX5 yX5_addSteps yX5_addSteps ∈ W0 := w0_in (List.mem_append_left _ (List.mem_of_getElem? (i := 53) rfl)) rfl
set_option maxRecDepth 100000 in
theorem ms_49 : Cond.selects RX5 yX5_begin yX5_begin ∈ W0 := w0_in (List.mem_append_left _ (List.mem_of_getElem? (i := 49) rfl)) rfl
set_option maxRecDepth 100000 in
theorem m_1141 : Cond.methodLink RX5 67 yX5_begin ∈ W0 := w0_in (List.mem_append_right _ (List.mem_of_getElem? (i := 1141) rfl)) rfl
set_option maxRecDepth 100000 in
theorem m_1143 : Cond.instanceMethod yX5_begin ∈ W0 := w0_in (List.mem_append_right _ (List.mem_of_getElem? (i := 1143) rfl)) rfl
set_option maxRecDepth 100000 in
theorem m_1144 : Cond.code yX5_begin cX5_begin 3 none ∈ W0 := w0_in (List.mem_append_right _ (List.mem_of_getElem? (i := 1144) rfl)) rfl
set_option maxRecDepth 100000 in
theorem m_1153 : Cond.methodLink RX5 74 yX5_earlyEnd ∈ W0 := w0_in (List.mem_append_right _ (List.mem_of_getElem? (i := 1153) rfl)) rfl
set_option maxRecDepth 100000 in
theorem m_1154 : Cond.instanceMethod yX5_earlyEnd ∈ W0 := w0_in (List.mem_append_right _ (List.mem_of_getElem? (i := 1154) rfl)) rfl
set_option maxRecDepth 100000 in
theorem m_1155 : Cond.selects RX5 yX5_earlyEnd yX5_earlyEnd ∈ W0 := w0_in (List.mem_append_right _ (List.mem_of_getElem? (i := 1155) rfl)) rfl
set_option maxRecDepth 100000 in
theorem m_1156 : Cond.code yX5_earlyEnd cX5_earlyEnd 2 (some .int) ∈ W0 := w0_in (List.mem_append_right _ (List.mem_of_getElem? (i := 1156) rfl)) rfl
set_option maxRecDepth 100000 in
theorem m_1165 : Cond.methodLink RX5 89 yX5_addSteps ∈ W0 := w0_in (List.mem_append_right _ (List.mem_of_getElem? (i := 1165) rfl)) rfl
set_option maxRecDepth 100000 in
theorem m_1167 : Cond.instanceMethod yX5_addSteps ∈ W0 := w0_in (List.mem_append_right _ (List.mem_of_getElem? (i := 1167) rfl)) rfl
set_option maxRecDepth 100000 in
theorem m_1168 : Cond.code yX5_addSteps cX5_addSteps 10 none ∈ W0 := w0_in (List.mem_append_right _ (List.mem_of_getElem? (i := 1168) rfl)) rfl
set_option maxRecDepth 100000 in
theorem m_1204 : Cond.methodLink RX5 97 yX5_addCastling ∈ W0 := w0_in (List.mem_append_right _ (List.mem_of_getElem? (i := 1204) rfl)) rfl
set_option maxRecDepth 100000 in
theorem m_1206 : Cond.instanceMethod yX5_addCastling ∈ W0 := w0_in (List.mem_append_right _ (List.mem_of_getElem? (i := 1206) rfl)) rfl
set_option maxRecDepth 100000 in
theorem m_1207 : Cond.code yX5_addCastling cX5_addCastling 8 none ∈ W0 := w0_in (List.mem_append_right _ (List.mem_of_getElem? (i := 1207) rfl)) rfl
set_option maxRecDepth 100000 in
theorem m_1215 : Cond.methodLink RX5 101 yX5_keepLawful ∈ W0 := w0_in (List.mem_append_right _ (List.mem_of_getElem? (i := 1215) rfl)) rfl
set_option maxRecDepth 100000 in
theorem m_1217 : Cond.instanceMethod yX5_keepLawful ∈ W0 := w0_in (List.mem_append_right _ (List.mem_of_getElem? (i := 1217) rfl)) rfl
set_option maxRecDepth 100000 in
theorem m_1218 : Cond.code yX5_keepLawful cX5_keepLawful 6 none ∈ W0 := w0_in (List.mem_append_right _ (List.mem_of_getElem? (i := 1218) rfl)) rfl
set_option maxRecDepth 100000 in
theorem m_1252 : Cond.methodLink RX5 113 yX5_addDrops ∈ W0 := w0_in (List.mem_append_right _ (List.mem_of_getElem? (i := 1252) rfl)) rfl
set_option maxRecDepth 100000 in
theorem m_1254 : Cond.instanceMethod yX5_addDrops ∈ W0 := w0_in (List.mem_append_right _ (List.mem_of_getElem? (i := 1254) rfl)) rfl
set_option maxRecDepth 100000 in
theorem m_1255 : Cond.code yX5_addDrops cX5_addDrops 4 none ∈ W0 := w0_in (List.mem_append_right _ (List.mem_of_getElem? (i := 1255) rfl)) rfl
set_option maxRecDepth 100000 in
theorem m_1256 : Cond.methodLink RX5 120 yX5_keepTakes ∈ W0 := w0_in (List.mem_append_right _ (List.mem_of_getElem? (i := 1256) rfl)) rfl
set_option maxRecDepth 100000 in
theorem m_1258 : Cond.instanceMethod yX5_keepTakes ∈ W0 := w0_in (List.mem_append_right _ (List.mem_of_getElem? (i := 1258) rfl)) rfl
set_option maxRecDepth 100000 in
theorem m_1259 : Cond.code yX5_keepTakes cX5_keepTakes 3 none ∈ W0 := w0_in (List.mem_append_right _ (List.mem_of_getElem? (i := 1259) rfl)) rfl
theorem cw_X5_120 : cwd RX5 120 yX5_keepTakes cX5_keepTakes 3 none false 0 := ⟨m_1259, m_1256, m_7, ⟨m_1258, ms_66⟩, by decide, by decide, by decide +kernel⟩
theorem cw_X5_113 : cwd RX5 113 yX5_addDrops cX5_addDrops 4 none false 1 := ⟨m_1255, m_1252, m_7, ⟨m_1254, ms_65⟩, by decide, by decide, by decide +kernel⟩
theorem cw_X5_101 : cwd RX5 101 yX5_keepLawful cX5_keepLawful 6 none false 1 := ⟨m_1218, m_1215, m_7, ⟨m_1217, ms_60⟩, by decide, by decide, by decide +kernel⟩
theorem cw_X5_89 : cwd RX5 89 yX5_addSteps cX5_addSteps 10 none false 1 := ⟨m_1168, m_1165, m_7, ⟨m_1167, ms_53⟩, by decide, by decide, by decide +kernel⟩
theorem cw_X5_97 : cwd RX5 97 yX5_addCastling cX5_addCastling 8 none false 3 := ⟨m_1207, m_1204, m_7, ⟨m_1206, ms_58⟩, by decide, by decide, by decide +kernel⟩
theorem cw_X5_67 : cwd RX5 67 yX5_begin cX5_begin 3 none false 2 := ⟨m_1144, m_1141, m_7, ⟨m_1143, ms_49⟩, by decide, by decide, by decide +kernel⟩
theorem cw_X5_74 : cwd RX5 74 yX5_earlyEnd cX5_earlyEnd 2 (some .int) false 1 := ⟨m_1156, m_1153, m_7, ⟨m_1154, m_1155⟩, by decide, by decide, by decide +kernel⟩
theorem dX5_collect_0 : decode cX5_collect 0 = .ok (.aload_n 0, 1) := by decide +kernel
theorem dX5_collect_1 : decode cX5_collect 1 = .ok (.aload_n 1, 1) := by decide +kernel
theorem dX5_collect_2 : decode cX5_collect 2 = .ok (.aload_n 2, 1) := by decide +kernel
theorem dX5_collect_3 : decode cX5_collect 3 = .ok (.invokevirtual 67, 3) := by decide +kernel
theorem dX5_collect_6 : decode cX5_collect 6 = .ok (.aload_n 0, 1) := by decide +kernel
theorem dX5_collect_7 : decode cX5_collect 7 = .ok (.aload_n 0, 1) := by decide +kernel
theorem dX5_collect_8 : decode cX5_collect 8 = .ok (.getfield 71, 3) := by decide +kernel
theorem dX5_collect_11 : decode cX5_collect 11 = .ok (.invokevirtual 74, 3) := by decide +kernel
theorem dX5_collect_14 : decode cX5_collect 14 = .ok (.ifCond .eq 5, 3) := by decide +kernel
theorem dX5_collect_17 : decode cX5_collect 17 = .ok (.iconst 0, 1) := by decide +kernel
theorem dX5_collect_18 : decode cX5_collect 18 = .ok (.ireturn, 1) := by decide +kernel
theorem dX5_collect_19 : decode cX5_collect 19 = .ok (.aload_n 0, 1) := by decide +kernel
theorem dX5_collect_20 : decode cX5_collect 20 = .ok (.getfield 71, 3) := by decide +kernel
theorem dX5_collect_23 : decode cX5_collect 23 = .ok (.getfield 33, 3) := by decide +kernel
theorem dX5_collect_26 : decode cX5_collect 26 = .ok (.aload_n 0, 1) := by decide +kernel
theorem dX5_collect_27 : decode cX5_collect 27 = .ok (.getfield 71, 3) := by decide +kernel
theorem dX5_collect_30 : decode cX5_collect 30 = .ok (.getfield 78, 3) := by decide +kernel
theorem dX5_collect_33 : decode cX5_collect 33 = .ok (.laload, 1) := by decide +kernel
theorem dX5_collect_34 : decode cX5_collect 34 = .ok (.lstore 4, 2) := by decide +kernel
theorem dX5_collect_36 : decode cX5_collect 36 = .ok (.iconst 0, 1) := by decide +kernel
theorem dX5_collect_37 : decode cX5_collect 37 = .ok (.istore 6, 2) := by decide +kernel
theorem dX5_collect_39 : decode cX5_collect 39 = .ok (.iload 6, 2) := by decide +kernel
theorem dX5_collect_41 : decode cX5_collect 41 = .ok (.bipush 64, 2) := by decide +kernel
theorem dX5_collect_43 : decode cX5_collect 43 = .ok (.if_icmp .ge 108, 3) := by decide +kernel
theorem dX5_collect_46 : decode cX5_collect 46 = .ok (.lload 4, 2) := by decide +kernel
theorem dX5_collect_48 : decode cX5_collect 48 = .ok (.lconst 0, 1) := by decide +kernel
theorem dX5_collect_49 : decode cX5_collect 49 = .ok (.lcmp, 1) := by decide +kernel
theorem dX5_collect_50 : decode cX5_collect 50 = .ok (.ifCond .eq 101, 3) := by decide +kernel
theorem dX5_collect_53 : decode cX5_collect 53 = .ok (.aload_n 0, 1) := by decide +kernel
theorem dX5_collect_54 : decode cX5_collect 54 = .ok (.getfield 82, 3) := by decide +kernel
theorem dX5_collect_57 : decode cX5_collect 57 = .ok (.iload_n 3, 1) := by decide +kernel
theorem dX5_collect_58 : decode cX5_collect 58 = .ok (.if_icmp .ge 93, 3) := by decide +kernel
theorem dX5_collect_61 : decode cX5_collect 61 = .ok (.lload 4, 2) := by decide +kernel
theorem dX5_collect_63 : decode cX5_collect 63 = .ok (.invokestatic 85, 3) := by decide +kernel
theorem dX5_collect_66 : decode cX5_collect 66 = .ok (.istore 7, 2) := by decide +kernel
theorem dX5_collect_68 : decode cX5_collect 68 = .ok (.lload 4, 2) := by decide +kernel
theorem dX5_collect_70 : decode cX5_collect 70 = .ok (.lload 4, 2) := by decide +kernel
theorem dX5_collect_72 : decode cX5_collect 72 = .ok (.lconst 1, 1) := by decide +kernel
theorem dX5_collect_73 : decode cX5_collect 73 = .ok (.lsub, 1) := by decide +kernel
theorem dX5_collect_74 : decode cX5_collect 74 = .ok (.land, 1) := by decide +kernel
theorem dX5_collect_75 : decode cX5_collect 75 = .ok (.lstore 4, 2) := by decide +kernel
theorem dX5_collect_77 : decode cX5_collect 77 = .ok (.aload_n 0, 1) := by decide +kernel
theorem dX5_collect_78 : decode cX5_collect 78 = .ok (.getfield 82, 3) := by decide +kernel
theorem dX5_collect_81 : decode cX5_collect 81 = .ok (.istore 8, 2) := by decide +kernel
theorem dX5_collect_83 : decode cX5_collect 83 = .ok (.aload_n 0, 1) := by decide +kernel
theorem dX5_collect_84 : decode cX5_collect 84 = .ok (.iload 7, 2) := by decide +kernel
theorem dX5_collect_86 : decode cX5_collect 86 = .ok (.invokevirtual 89, 3) := by decide +kernel
theorem dX5_collect_89 : decode cX5_collect 89 = .ok (.iload 7, 2) := by decide +kernel
theorem dX5_collect_91 : decode cX5_collect 91 = .ok (.aload_n 0, 1) := by decide +kernel
theorem dX5_collect_92 : decode cX5_collect 92 = .ok (.getfield 71, 3) := by decide +kernel
theorem dX5_collect_95 : decode cX5_collect 95 = .ok (.getfield 60, 3) := by decide +kernel
theorem dX5_collect_98 : decode cX5_collect 98 = .ok (.aload_n 0, 1) := by decide +kernel
theorem dX5_collect_99 : decode cX5_collect 99 = .ok (.getfield 71, 3) := by decide +kernel
theorem dX5_collect_102 : decode cX5_collect 102 = .ok (.getfield 78, 3) := by decide +kernel
theorem dX5_collect_105 : decode cX5_collect 105 = .ok (.iaload, 1) := by decide +kernel
theorem dX5_collect_106 : decode cX5_collect 106 = .ok (.if_icmp .ne 33, 3) := by decide +kernel
theorem dX5_collect_109 : decode cX5_collect 109 = .ok (.aload_n 0, 1) := by decide +kernel
theorem dX5_collect_110 : decode cX5_collect 110 = .ok (.getfield 71, 3) := by decide +kernel
theorem dX5_collect_113 : decode cX5_collect 113 = .ok (.getfield 93, 3) := by decide +kernel
theorem dX5_collect_116 : decode cX5_collect 116 = .ok (.lconst 0, 1) := by decide +kernel
theorem dX5_collect_117 : decode cX5_collect 117 = .ok (.lcmp, 1) := by decide +kernel
theorem dX5_collect_118 : decode cX5_collect 118 = .ok (.ifCond .eq 21, 3) := by decide +kernel
theorem dX5_collect_121 : decode cX5_collect 121 = .ok (.aload_n 0, 1) := by decide +kernel
theorem dX5_collect_122 : decode cX5_collect 122 = .ok (.iload 7, 2) := by decide +kernel
theorem dX5_collect_124 : decode cX5_collect 124 = .ok (.iconst (-1), 1) := by decide +kernel
theorem dX5_collect_125 : decode cX5_collect 125 = .ok (.iload 8, 2) := by decide +kernel
theorem dX5_collect_127 : decode cX5_collect 127 = .ok (.invokevirtual 97, 3) := by decide +kernel
theorem dX5_collect_130 : decode cX5_collect 130 = .ok (.aload_n 0, 1) := by decide +kernel
theorem dX5_collect_131 : decode cX5_collect 131 = .ok (.iload 7, 2) := by decide +kernel
theorem dX5_collect_133 : decode cX5_collect 133 = .ok (.iconst 1, 1) := by decide +kernel
theorem dX5_collect_134 : decode cX5_collect 134 = .ok (.iload 8, 2) := by decide +kernel
theorem dX5_collect_136 : decode cX5_collect 136 = .ok (.invokevirtual 97, 3) := by decide +kernel
theorem dX5_collect_139 : decode cX5_collect 139 = .ok (.aload_n 0, 1) := by decide +kernel
theorem dX5_collect_140 : decode cX5_collect 140 = .ok (.iload 8, 2) := by decide +kernel
theorem dX5_collect_142 : decode cX5_collect 142 = .ok (.invokevirtual 101, 3) := by decide +kernel
theorem dX5_collect_145 : decode cX5_collect 145 = .ok (.iinc 6 1, 3) := by decide +kernel
theorem dX5_collect_148 : decode cX5_collect 148 = .ok (.goto (-109), 3) := by decide +kernel
theorem dX5_collect_151 : decode cX5_collect 151 = .ok (.aload_n 0, 1) := by decide +kernel
theorem dX5_collect_152 : decode cX5_collect 152 = .ok (.getfield 22, 3) := by decide +kernel
theorem dX5_collect_155 : decode cX5_collect 155 = .ok (.iconst 1, 1) := by decide +kernel
theorem dX5_collect_156 : decode cX5_collect 156 = .ok (.invokevirtual 104, 3) := by decide +kernel
theorem dX5_collect_159 : decode cX5_collect 159 = .ok (.ifCond .eq 13, 3) := by decide +kernel
theorem dX5_collect_162 : decode cX5_collect 162 = .ok (.aload_n 0, 1) := by decide +kernel
theorem dX5_collect_163 : decode cX5_collect 163 = .ok (.getfield 22, 3) := by decide +kernel
theorem dX5_collect_166 : decode cX5_collect 166 = .ok (.getfield 110, 3) := by decide +kernel
theorem dX5_collect_169 : decode cX5_collect 169 = .ok (.goto 4, 3) := by decide +kernel
theorem dX5_collect_172 : decode cX5_collect 172 = .ok (.iconst 0, 1) := by decide +kernel
theorem dX5_collect_173 : decode cX5_collect 173 = .ok (.istore 6, 2) := by decide +kernel
theorem dX5_collect_175 : decode cX5_collect 175 = .ok (.iconst 0, 1) := by decide +kernel
theorem dX5_collect_176 : decode cX5_collect 176 = .ok (.istore 7, 2) := by decide +kernel
theorem dX5_collect_178 : decode cX5_collect 178 = .ok (.iload 7, 2) := by decide +kernel
theorem dX5_collect_180 : decode cX5_collect 180 = .ok (.iload 6, 2) := by decide +kernel
theorem dX5_collect_182 : decode cX5_collect 182 = .ok (.if_icmp .ge 35, 3) := by decide +kernel
theorem dX5_collect_185 : decode cX5_collect 185 = .ok (.aload_n 0, 1) := by decide +kernel
theorem dX5_collect_186 : decode cX5_collect 186 = .ok (.getfield 82, 3) := by decide +kernel
theorem dX5_collect_189 : decode cX5_collect 189 = .ok (.iload_n 3, 1) := by decide +kernel
theorem dX5_collect_190 : decode cX5_collect 190 = .ok (.if_icmp .ge 27, 3) := by decide +kernel
theorem dX5_collect_193 : decode cX5_collect 193 = .ok (.aload_n 0, 1) := by decide +kernel
theorem dX5_collect_194 : decode cX5_collect 194 = .ok (.getfield 82, 3) := by decide +kernel
theorem dX5_collect_197 : decode cX5_collect 197 = .ok (.istore 8, 2) := by decide +kernel
theorem dX5_collect_199 : decode cX5_collect 199 = .ok (.aload_n 0, 1) := by decide +kernel
theorem dX5_collect_200 : decode cX5_collect 200 = .ok (.iload 7, 2) := by decide +kernel
theorem dX5_collect_202 : decode cX5_collect 202 = .ok (.invokevirtual 113, 3) := by decide +kernel
theorem dX5_collect_205 : decode cX5_collect 205 = .ok (.aload_n 0, 1) := by decide +kernel
theorem dX5_collect_206 : decode cX5_collect 206 = .ok (.iload 8, 2) := by decide +kernel
theorem dX5_collect_208 : decode cX5_collect 208 = .ok (.invokevirtual 101, 3) := by decide +kernel
theorem dX5_collect_211 : decode cX5_collect 211 = .ok (.iinc 7 1, 3) := by decide +kernel
theorem dX5_collect_214 : decode cX5_collect 214 = .ok (.goto (-36), 3) := by decide +kernel
theorem dX5_collect_217 : decode cX5_collect 217 = .ok (.aload_n 0, 1) := by decide +kernel
theorem dX5_collect_218 : decode cX5_collect 218 = .ok (.getfield 22, 3) := by decide +kernel
theorem dX5_collect_221 : decode cX5_collect 221 = .ok (.iconst 2, 1) := by decide +kernel
theorem dX5_collect_222 : decode cX5_collect 222 = .ok (.invokevirtual 104, 3) := by decide +kernel
theorem dX5_collect_225 : decode cX5_collect 225 = .ok (.ifCond .eq 14, 3) := by decide +kernel
theorem dX5_collect_228 : decode cX5_collect 228 = .ok (.aload_n 0, 1) := by decide +kernel
theorem dX5_collect_229 : decode cX5_collect 229 = .ok (.getfield 116, 3) := by decide +kernel
theorem dX5_collect_232 : decode cX5_collect 232 = .ok (.ifCond .eq 7, 3) := by decide +kernel
theorem dX5_collect_235 : decode cX5_collect 235 = .ok (.aload_n 0, 1) := by decide +kernel
theorem dX5_collect_236 : decode cX5_collect 236 = .ok (.invokevirtual 120, 3) := by decide +kernel
theorem dX5_collect_239 : decode cX5_collect 239 = .ok (.aload_n 0, 1) := by decide +kernel
theorem dX5_collect_240 : decode cX5_collect 240 = .ok (.getfield 82, 3) := by decide +kernel
theorem dX5_collect_243 : decode cX5_collect 243 = .ok (.ireturn, 1) := by decide +kernel
def sX5_collect_239 (F : Nat) (h : Hp) (x0 : Nat) : Option (Int32 × Hp) := some (hI h x0 6, h)
def sX5_collect_217 (F : Nat) (h : Hp) (x0 : Nat) : Option (Int32 × Hp) := cl (hR h x0 0) fun r_1 => cl (sX1_has h r_1 (2 : Int32)) fun o_2 => br (o_2.1 = 0) (sX5_collect_239 F o_2.2 x0) (br ((hI o_2.2 x0 7) = 0) (sX5_collect_239 F o_2.2 x0) (cl (sX5_keepTakes F o_2.2 x0) fun o_5 => sX5_collect_239 F o_5 x0))
def sX5_collect_178 (F : Nat) : Nat → Hp → Nat → Int32 → Int32 → Int32 → Option (Int32 × Hp)
  | 0, _, _, _, _, _ => none
  | f + 1, h, x0, x3, x6, x7 => br (x6 ≤ x7) (sX5_collect_217 F h x0) (br (x3 ≤ (hI h x0 6)) (sX5_collect_217 F h x0) (nm (hI h x0 6) fun v_3 => cl (sX5_addDrops F h x0 x7) fun o_4 => cl (sX5_keepLawful F o_4 x0 v_3) fun o_5 => nm (x7 + (1 : Int32)) fun v_6 => sX5_collect_178 F f o_5 x0 x3 x6 v_6))
def sX5_collect_173 (F : Nat) (h : Hp) (x0 : Nat) (x3 : Int32) (t0 : Int32) : Option (Int32 × Hp) := sX5_collect_178 F F h x0 x3 t0 (0 : Int32)
def sX5_collect_151 (F : Nat) (h : Hp) (x0 : Nat) (x3 : Int32) : Option (Int32 × Hp) := cl (hR h x0 0) fun r_1 => cl (sX1_has h r_1 (1 : Int32)) fun o_2 => br (o_2.1 = 0) (sX5_collect_173 F o_2.2 x0 x3 (0 : Int32)) (cl (hR o_2.2 x0 0) fun r_4 => sX5_collect_173 F o_2.2 x0 x3 (hI o_2.2 r_4 2))
def sX5_collect_139 (F : Nat) (k_39 : Hp → Nat → Int32 → Int64 → Int32 → Option (Int32 × Hp)) (h : Hp) (x0 : Nat) (x3 : Int32) (x4 : Int64) (x6 : Int32) (x8 : Int32) : Option (Int32 × Hp) := cl (sX5_keepLawful F h x0 x8) fun o_1 => nm (x6 + (1 : Int32)) fun v_2 => k_39 o_1 x0 x3 x4 v_2
def sX5_collect_39 (F : Nat) : Nat → Hp → Nat → Int32 → Int64 → Int32 → Option (Int32 × Hp)
  | 0, _, _, _, _, _ => none
  | f + 1, h, x0, x3, x4, x6 => br ((64 : Int32) ≤ x6) (sX5_collect_151 F h x0 x3) (br ((lg_cmp x4 (0 : Int64)) = 0) (sX5_collect_151 F h x0 x3) (br (x3 ≤ (hI h x0 6)) (sX5_collect_151 F h x0 x3) (cl (sX11_lowest h x4) fun o_4 => nm (x4 &&& (x4 - (1 : Int64))) fun v_5 => nm (hI o_4.2 x0 6) fun v_6 => cl (sX5_addSteps F o_4.2 x0 o_4.1) fun o_7 => cl (hR o_7 x0 4) fun r_8 => cl (hR o_7 r_8 2) fun r_9 => cl (hR o_7 x0 4) fun r_10 => gd (inB (hI o_7 r_10 5) (hN o_7 r_9)) <| br (o_4.1 = (hI o_7 r_9 (hI o_7 r_10 5).toNatClampNeg)) (cl (hR o_7 x0 4) fun r_13 => br ((lg_cmp (hJ o_7 r_13 8) (0 : Int64)) = 0) (sX5_collect_139 F (sX5_collect_39 F f) o_7 x0 x3 v_5 x6 v_6) (cl (sX5_addCastling F o_7 x0 o_4.1 (-1 : Int32) v_6) fun o_15 => cl (sX5_addCastling F o_15 x0 o_4.1 (1 : Int32) v_6) fun o_16 => sX5_collect_139 F (sX5_collect_39 F f) o_16 x0 x3 v_5 x6 v_6)) (sX5_collect_139 F (sX5_collect_39 F f) o_7 x0 x3 v_5 x6 v_6))))
def sX5_collect (F : Nat) (h : Hp) (x0 : Nat) (x1 : Nat) (x2 : Nat) (x3 : Int32) : Option (Int32 × Hp) := cl (sX5_begin F h x0 x1 x2) fun o_1 => cl (hR o_1 x0 4) fun r_2 => cl (sX5_earlyEnd o_1 x0 r_2) fun o_3 => br (o_3.1 = 0) (cl (hR o_3.2 x0 4) fun r_5 => cl (hR o_3.2 r_5 1) fun r_6 => cl (hR o_3.2 x0 4) fun r_7 => gd (inB (hI o_3.2 r_7 5) (hN o_3.2 r_6)) <| nm (hJ o_3.2 r_6 (hI o_3.2 r_7 5).toNatClampNeg) fun v_9 => sX5_collect_39 F F o_3.2 x0 x3 v_9 (0 : Int32)) (some ((0 : Int32), o_3.2))
set_option maxRecDepth 20000 in
theorem moX5_collect_239 {o : Int32 × Hp} {F : Nat} {h : Hp} {x0 : Nat} (hE : sX5_collect_239 F h x0 = some o) : Le h o.2 := by
  exact le_some2 hE
set_option maxRecDepth 20000 in
theorem moX5_collect_217 {o : Int32 × Hp} {F : Nat} {h : Hp} {x0 : Nat} (hE : sX5_collect_217 F h x0 = some o) : Le h o.2 := by
  obtain ⟨r_1, er_1, hE⟩ := cl_e hE
  obtain ⟨o_2, eo_2, hE⟩ := cl_e hE
  refine (moX1_has eo_2).tr ?_
  rcases br_e hE with ⟨_, hE⟩ | ⟨_, hE⟩
  · exact moX5_collect_239 hE
  · rcases br_e hE with ⟨_, hE⟩ | ⟨_, hE⟩
    · exact moX5_collect_239 hE
    · obtain ⟨o_5, eo_5, hE⟩ := cl_e hE
      refine (moX5_keepTakes eo_5).tr ?_
      exact moX5_collect_239 hE
set_option maxRecDepth 20000 in
theorem moX5_collect_178 {o : Int32 × Hp} {F : Nat} : ∀ (f : Nat) {h : Hp} {x0 : Nat} {x3 : Int32} {x6 : Int32} {x7 : Int32}, sX5_collect_178 F f h x0 x3 x6 x7 = some o → Le h o.2 := by
  intro f
  induction f with
  | zero =>
    intro h x0 x3 x6 x7 hE
    rw [sX5_collect_178] at hE
    cases hE
  | succ f ih =>
    intro h x0 x3 x6 x7 hE
    rw [sX5_collect_178] at hE
    have mk_178 : ∀ (h : Hp) (x0 : Nat) (x3 : Int32) (x6 : Int32) (x7 : Int32), sX5_collect_178 F f h x0 x3 x6 x7 = some o → Le h o.2 := fun h x0 x3 x6 x7 hE => ih hE
    rcases br_e hE with ⟨_, hE⟩ | ⟨_, hE⟩
    · exact moX5_collect_217 hE
    · rcases br_e hE with ⟨_, hE⟩ | ⟨_, hE⟩
      · exact moX5_collect_217 hE
      · obtain ⟨v_3, ev_3, hE⟩ := nm_e2 hE
        obtain ⟨o_4, eo_4, hE⟩ := cl_e hE
        refine (moX5_addDrops eo_4).tr ?_
        obtain ⟨o_5, eo_5, hE⟩ := cl_e hE
        refine (moX5_keepLawful eo_5).tr ?_
        obtain ⟨v_6, ev_6, hE⟩ := nm_e2 hE
        exact mk_178 _ _ _ _ _ hE
set_option maxRecDepth 20000 in
theorem moX5_collect_173 {o : Int32 × Hp} {F : Nat} {h : Hp} {x0 : Nat} {x3 : Int32} {t0 : Int32} (hE : sX5_collect_173 F h x0 x3 t0 = some o) : Le h o.2 := by
  exact moX5_collect_178 _ hE
set_option maxRecDepth 20000 in
theorem moX5_collect_151 {o : Int32 × Hp} {F : Nat} {h : Hp} {x0 : Nat} {x3 : Int32} (hE : sX5_collect_151 F h x0 x3 = some o) : Le h o.2 := by
  obtain ⟨r_1, er_1, hE⟩ := cl_e hE
  obtain ⟨o_2, eo_2, hE⟩ := cl_e hE
  refine (moX1_has eo_2).tr ?_
  rcases br_e hE with ⟨_, hE⟩ | ⟨_, hE⟩
  · exact moX5_collect_173 hE
  · obtain ⟨r_4, er_4, hE⟩ := cl_e hE
    exact moX5_collect_173 hE
set_option maxRecDepth 20000 in
theorem moX5_collect_139 {o : Int32 × Hp} {k_39 : Hp → Nat → Int32 → Int64 → Int32 → Option (Int32 × Hp)} {F : Nat} (mk_39 : ∀ (h : Hp) (x0 : Nat) (x3 : Int32) (x4 : Int64) (x6 : Int32), k_39 h x0 x3 x4 x6 = some o → Le h o.2) {h : Hp} {x0 : Nat} {x3 : Int32} {x4 : Int64} {x6 : Int32} {x8 : Int32} (hE : sX5_collect_139 F k_39 h x0 x3 x4 x6 x8 = some o) : Le h o.2 := by
  obtain ⟨o_1, eo_1, hE⟩ := cl_e hE
  refine (moX5_keepLawful eo_1).tr ?_
  obtain ⟨v_2, ev_2, hE⟩ := nm_e2 hE
  exact mk_39 _ _ _ _ _ hE
set_option maxRecDepth 20000 in
theorem moX5_collect_39 {o : Int32 × Hp} {F : Nat} : ∀ (f : Nat) {h : Hp} {x0 : Nat} {x3 : Int32} {x4 : Int64} {x6 : Int32}, sX5_collect_39 F f h x0 x3 x4 x6 = some o → Le h o.2 := by
  intro f
  induction f with
  | zero =>
    intro h x0 x3 x4 x6 hE
    rw [sX5_collect_39] at hE
    cases hE
  | succ f ih =>
    intro h x0 x3 x4 x6 hE
    rw [sX5_collect_39] at hE
    have mk_39 : ∀ (h : Hp) (x0 : Nat) (x3 : Int32) (x4 : Int64) (x6 : Int32), sX5_collect_39 F f h x0 x3 x4 x6 = some o → Le h o.2 := fun h x0 x3 x4 x6 hE => ih hE
    rcases br_e hE with ⟨_, hE⟩ | ⟨_, hE⟩
    · exact moX5_collect_151 hE
    · rcases br_e hE with ⟨_, hE⟩ | ⟨_, hE⟩
      · exact moX5_collect_151 hE
      · rcases br_e hE with ⟨_, hE⟩ | ⟨_, hE⟩
        · exact moX5_collect_151 hE
        · obtain ⟨o_4, eo_4, hE⟩ := cl_e hE
          refine (moX11_lowest eo_4).tr ?_
          obtain ⟨v_5, ev_5, hE⟩ := nm_e2 hE
          obtain ⟨v_6, ev_6, hE⟩ := nm_e2 hE
          obtain ⟨o_7, eo_7, hE⟩ := cl_e hE
          refine (moX5_addSteps eo_7).tr ?_
          obtain ⟨r_8, er_8, hE⟩ := cl_e hE
          obtain ⟨r_9, er_9, hE⟩ := cl_e hE
          obtain ⟨r_10, er_10, hE⟩ := cl_e hE
          obtain ⟨g_11, hE⟩ := gd_e hE
          rcases br_e hE with ⟨_, hE⟩ | ⟨_, hE⟩
          · obtain ⟨r_13, er_13, hE⟩ := cl_e hE
            rcases br_e hE with ⟨_, hE⟩ | ⟨_, hE⟩
            · exact moX5_collect_139 mk_39 hE
            · obtain ⟨o_15, eo_15, hE⟩ := cl_e hE
              refine (moX5_addCastling eo_15).tr ?_
              obtain ⟨o_16, eo_16, hE⟩ := cl_e hE
              refine (moX5_addCastling eo_16).tr ?_
              exact moX5_collect_139 mk_39 hE
          · exact moX5_collect_139 mk_39 hE
set_option maxRecDepth 20000 in
theorem moX5_collect {o : Int32 × Hp} {F : Nat} {h : Hp} {x0 : Nat} {x1 : Nat} {x2 : Nat} {x3 : Int32} (hE : sX5_collect F h x0 x1 x2 x3 = some o) : Le h o.2 := by
  obtain ⟨o_1, eo_1, hE⟩ := cl_e hE
  refine (moX5_begin eo_1).tr ?_
  obtain ⟨r_2, er_2, hE⟩ := cl_e hE
  obtain ⟨o_3, eo_3, hE⟩ := cl_e hE
  refine (moX5_earlyEnd eo_3).tr ?_
  rcases br_e hE with ⟨_, hE⟩ | ⟨_, hE⟩
  · obtain ⟨r_5, er_5, hE⟩ := cl_e hE
    obtain ⟨r_6, er_6, hE⟩ := cl_e hE
    obtain ⟨r_7, er_7, hE⟩ := cl_e hE
    obtain ⟨g_8, hE⟩ := gd_e hE
    obtain ⟨v_9, ev_9, hE⟩ := nm_e2 hE
    exact moX5_collect_39 _ hE
  · exact le_some2 hE
set_option maxRecDepth 20000 in
theorem bX5_collect_239 {p : Program} {l : Launch} {e : Env} {s : State} {m : MethodId} {args : Array Value} {below : List Frame} {meth : Method} {c : Code} {X : Ec} {h0 : Hp} {o : Int32 × Hp} {F : Nat} (C : Cx X p s m args meth c RX5 cX5_collect 9 (some .int) "collect") {h : Hp} {x0 : Nat} {H : Heap} {locs : List Loc} (k_x0 : hK h x0 = 5) (hkm : Km h0 h) (hW : Wx X h H) (hZ : va_S (aA (eB X)) s.heap H locs) (ls : Array Slot) (hl : lv_has ls 9 [(0, .ref x0)]) (hE : sX5_collect_239 F h x0 = some o) : W p l e (rm 3 111) s m args below meth c H locs 0 0 (MQ below (QI X h0 o.1 o.2) args s 0 0 (aA (eB X))) (F0 m 239 ls []) := by
  refine lv_aload_n C.1 C.2.1 dX5_collect_239 rfl (lv_at hl 0 rfl) ?_
  refine gf_X5_82 C hW k_x0 dX5_collect_240 ?_
  exact x_iret C rfl rfl hW hZ hkm hE dX5_collect_243
set_option maxRecDepth 20000 in
theorem bX5_collect_217 {p : Program} {l : Launch} {e : Env} {s : State} {m : MethodId} {args : Array Value} {below : List Frame} {meth : Method} {c : Code} {X : Ec} {h0 : Hp} {o : Int32 × Hp} {F : Nat} (C : Cx X p s m args meth c RX5 cX5_collect 9 (some .int) "collect") {h : Hp} {x0 : Nat} {H : Heap} {locs : List Loc} (k_x0 : hK h x0 = 5) (hkm : Km h0 h) (hW : Wx X h H) (hZ : va_S (aA (eB X)) s.heap H locs) (ls : Array Slot) (hl : lv_has ls 9 [(0, .ref x0)]) (hE : sX5_collect_217 F h x0 = some o) : W p l e (rm 3 111) s m args below meth c H locs 0 0 (MQ below (QI X h0 o.1 o.2) args s 0 0 (aA (eB X))) (F0 m 217 ls []) := by
  refine lv_aload_n C.1 C.2.1 dX5_collect_217 rfl (lv_at hl 0 rfl) ?_
  obtain ⟨r_1, er_1, hE⟩ := cl_e hE
  refine gf_X5_22 C hW k_x0 er_1 dX5_collect_218 (fun k_r_1 => ?_)
  refine lv_iconst (v := (2 : Int32)) C.1 C.2.1 dX5_collect_221 (by decide) ?_
  obtain ⟨o_2, eo_2, hE⟩ := cl_e hE
  refine x_kI (o := o_2) (z_runV (As := [.int (2 : Int32)]) (rest := []) C (ct_X1_has l X k_r_1 eo_2) cw_X5_104 hW hZ k_r_1 (by decide) rfl rfl rfl hl.1 (Nat.le_of_ble_eq_true rfl) rfl dX5_collect_222 ⟨Nat.le_of_ble_eq_true rfl, Nat.le_of_ble_eq_true rfl⟩ ⟨Nat.le_refl _, Nat.le_refl _⟩) hZ (fun _ _ hW km hZ => ?_)
  replace hkm := hkm.tr km
  replace k_x0 := km.at k_x0 (by decide)
  refine lv_if_eq (tgt := 239) C.1 C.2.1 dX5_collect_225 (by decide) (fun c_3 => ?_) (fun c_3 => ?_)
  · have hE := br_p hE c_3
    exact bX5_collect_239 C k_x0 hkm hW hZ _ (lv_sub hl [0] rfl) hE
  · have hE := br_n hE c_3
    refine lv_aload_n C.1 C.2.1 dX5_collect_228 rfl (lv_at hl 0 rfl) ?_
    refine gf_X5_116 C hW k_x0 dX5_collect_229 ?_
    refine lv_if_eq (tgt := 239) C.1 C.2.1 dX5_collect_232 (by decide) (fun c_4 => ?_) (fun c_4 => ?_)
    · have hE := br_p hE c_4
      exact bX5_collect_239 C k_x0 hkm hW hZ _ (lv_sub hl [0] rfl) hE
    · have hE := br_n hE c_4
      refine lv_aload_n C.1 C.2.1 dX5_collect_235 rfl (lv_at hl 0 rfl) ?_
      obtain ⟨o_5, eo_5, hE⟩ := cl_e hE
      refine x_kV (o := o_5) (z_runV (As := []) (rest := []) C (ct_X5_keepTakes l X F k_x0 eo_5) cw_X5_120 hW hZ k_x0 (by decide) rfl rfl rfl hl.1 (Nat.le_of_ble_eq_true rfl) rfl dX5_collect_236 ⟨Nat.le_of_ble_eq_true rfl, Nat.le_of_ble_eq_true rfl⟩ ⟨Nat.le_refl _, Nat.le_refl _⟩) hZ (fun _ _ hW km hZ => ?_)
      replace hkm := hkm.tr km
      replace k_x0 := km.at k_x0 (by decide)
      exact bX5_collect_239 C k_x0 hkm hW hZ _ (lv_sub hl [0] rfl) hE
set_option maxRecDepth 20000 in
theorem bX5_collect_178 {p : Program} {l : Launch} {e : Env} {s : State} {m : MethodId} {args : Array Value} {below : List Frame} {meth : Method} {c : Code} {X : Ec} {h0 : Hp} {o : Int32 × Hp} {F : Nat} (C : Cx X p s m args meth c RX5 cX5_collect 9 (some .int) "collect") : ∀ (f : Nat) {h : Hp} {x0 : Nat} {x3 : Int32} {x6 : Int32} {x7 : Int32} {H : Heap} {locs : List Loc} (k_x0 : hK h x0 = 5), Km h0 h → Wx X h H → va_S (aA (eB X)) s.heap H locs → ∀ (ls : Array Slot), lv_has ls 9 [(0, .ref x0), (3, .int x3), (6, .int x6), (7, .int x7)] → sX5_collect_178 F f h x0 x3 x6 x7 = some o → W p l e (rm 3 111) s m args below meth c H locs 0 0 (MQ below (QI X h0 o.1 o.2) args s 0 0 (aA (eB X))) (F0 m 178 ls []) := by
  intro f
  induction f with
  | zero =>
    intro h x0 x3 x6 x7 H locs k_x0 hkm hW hZ ls hl hE
    rw [sX5_collect_178] at hE
    cases hE
  | succ f ih =>
    intro h x0 x3 x6 x7 H locs k_x0 hkm hW hZ ls hl hE
    rw [sX5_collect_178] at hE
    have hk_178 : ∀ (h : Hp) (x0 : Nat) (x3 : Int32) (x6 : Int32) (x7 : Int32) (H : Heap) (locs : List Loc), hK h x0 = 5 → Km h0 h → Wx X h H → va_S (aA (eB X)) s.heap H locs → ∀ (ls : Array Slot), lv_has ls 9 [(0, .ref x0), (3, .int x3), (6, .int x6), (7, .int x7)] → sX5_collect_178 F f h x0 x3 x6 x7 = some o → W p l e (rm 3 111) s m args below meth c H locs 0 0 (MQ below (QI X h0 o.1 o.2) args s 0 0 (aA (eB X))) (F0 m 178 ls []) := fun h x0 x3 x6 x7 H locs k_x0 a b c ls hl hE => ih k_x0 a b c ls hl hE
    refine lv_iload C.1 C.2.1 dX5_collect_178 (lv_at hl 3 rfl) ?_
    refine lv_iload C.1 C.2.1 dX5_collect_180 (lv_at hl 2 rfl) ?_
    refine lv_icmp_ge (tgt := 217) C.1 C.2.1 dX5_collect_182 (by decide) (fun c_1 => ?_) (fun c_1 => ?_)
    · have hE := br_p hE c_1
      exact bX5_collect_217 C k_x0 hkm hW hZ _ (lv_sub hl [0] rfl) hE
    · have hE := br_n hE c_1
      refine lv_aload_n C.1 C.2.1 dX5_collect_185 rfl (lv_at hl 0 rfl) ?_
      refine gf_X5_82 C hW k_x0 dX5_collect_186 ?_
      refine lv_iload_n C.1 C.2.1 dX5_collect_189 rfl (lv_at hl 1 rfl) ?_
      refine lv_icmp_ge (tgt := 217) C.1 C.2.1 dX5_collect_190 (by decide) (fun c_2 => ?_) (fun c_2 => ?_)
      · have hE := br_p hE c_2
        exact bX5_collect_217 C k_x0 hkm hW hZ _ (lv_sub hl [0] rfl) hE
      · have hE := br_n hE c_2
        refine lv_aload_n C.1 C.2.1 dX5_collect_193 rfl (lv_at hl 0 rfl) ?_
        refine gf_X5_82 C hW k_x0 dX5_collect_194 ?_
        obtain ⟨v_3, ev_3, hE⟩ := nm_e2 hE
        refine x_nmI ev_3 ?_
        refine lv_istore (lv' := [(8, .int v_3), (0, .ref x0), (3, .int x3), (6, .int x6), (7, .int x7)]) C.1 C.2.1 dX5_collect_197 hl (by decide) rfl (fun ls hl => ?_)
        refine lv_aload_n C.1 C.2.1 dX5_collect_199 rfl (lv_at hl 1 rfl) ?_
        refine lv_iload C.1 C.2.1 dX5_collect_200 (lv_at hl 4 rfl) ?_
        obtain ⟨o_4, eo_4, hE⟩ := cl_e hE
        refine x_kV (o := o_4) (z_runV (As := [.int x7]) (rest := []) C (ct_X5_addDrops l X F k_x0 eo_4) cw_X5_113 hW hZ k_x0 (by decide) rfl rfl rfl hl.1 (Nat.le_of_ble_eq_true rfl) rfl dX5_collect_202 ⟨Nat.le_of_ble_eq_true rfl, Nat.le_of_ble_eq_true rfl⟩ ⟨Nat.le_refl _, Nat.le_refl _⟩) hZ (fun _ _ hW km hZ => ?_)
        replace hkm := hkm.tr km
        replace k_x0 := km.at k_x0 (by decide)
        refine lv_aload_n C.1 C.2.1 dX5_collect_205 rfl (lv_at hl 1 rfl) ?_
        refine lv_iload C.1 C.2.1 dX5_collect_206 (lv_at hl 0 rfl) ?_
        obtain ⟨o_5, eo_5, hE⟩ := cl_e hE
        refine x_kV (o := o_5) (z_runV (As := [.int v_3]) (rest := []) C (ct_X5_keepLawful l X F k_x0 eo_5) cw_X5_101 hW hZ k_x0 (by decide) rfl rfl rfl hl.1 (Nat.le_of_ble_eq_true rfl) rfl dX5_collect_208 ⟨Nat.le_of_ble_eq_true rfl, Nat.le_of_ble_eq_true rfl⟩ ⟨Nat.le_refl _, Nat.le_refl _⟩) hZ (fun _ _ hW km hZ => ?_)
        replace hkm := hkm.tr km
        replace k_x0 := km.at k_x0 (by decide)
        obtain ⟨v_6, ev_6, hE⟩ := nm_e2 hE
        refine lv_iinc (v := v_6) (lv' := [(7, .int v_6), (8, .int v_3), (0, .ref x0), (3, .int x3), (6, .int x6)]) C.1 C.2.1 dX5_collect_211 hl (k := 4) rfl (by rw [ev_6]; rfl) (by decide) rfl (fun ls hl => ?_)
        refine lv_goto (tgt := 178) C.1 C.2.1 dX5_collect_214 (by decide) ?_
        exact hk_178 _ _ _ _ _ _ _ k_x0 hkm hW hZ _ (lv_sub hl [2, 3, 4, 0] rfl) hE
set_option maxRecDepth 20000 in
theorem bX5_collect_173 {p : Program} {l : Launch} {e : Env} {s : State} {m : MethodId} {args : Array Value} {below : List Frame} {meth : Method} {c : Code} {X : Ec} {h0 : Hp} {o : Int32 × Hp} {F : Nat} (C : Cx X p s m args meth c RX5 cX5_collect 9 (some .int) "collect") {h : Hp} {x0 : Nat} {x3 : Int32} {t0 : Int32} {H : Heap} {locs : List Loc} (k_x0 : hK h x0 = 5) (hkm : Km h0 h) (hW : Wx X h H) (hZ : va_S (aA (eB X)) s.heap H locs) (ls : Array Slot) (hl : lv_has ls 9 [(0, .ref x0), (3, .int x3)]) (hE : sX5_collect_173 F h x0 x3 t0 = some o) : W p l e (rm 3 111) s m args below meth c H locs 0 0 (MQ below (QI X h0 o.1 o.2) args s 0 0 (aA (eB X))) (F0 m 173 ls [.int t0]) := by
  refine lv_istore (lv' := [(6, .int t0), (0, .ref x0), (3, .int x3)]) C.1 C.2.1 dX5_collect_173 hl (by decide) rfl (fun ls hl => ?_)
  refine lv_iconst (v := (0 : Int32)) C.1 C.2.1 dX5_collect_175 (by decide) ?_
  refine lv_istore (lv' := [(7, .int (0 : Int32)), (6, .int t0), (0, .ref x0), (3, .int x3)]) C.1 C.2.1 dX5_collect_176 hl (by decide) rfl (fun ls hl => ?_)
  exact bX5_collect_178 C F k_x0 hkm hW hZ _ (lv_sub hl [2, 3, 1, 0] rfl) hE
set_option maxRecDepth 20000 in
theorem bX5_collect_151 {p : Program} {l : Launch} {e : Env} {s : State} {m : MethodId} {args : Array Value} {below : List Frame} {meth : Method} {c : Code} {X : Ec} {h0 : Hp} {o : Int32 × Hp} {F : Nat} (C : Cx X p s m args meth c RX5 cX5_collect 9 (some .int) "collect") {h : Hp} {x0 : Nat} {x3 : Int32} {H : Heap} {locs : List Loc} (k_x0 : hK h x0 = 5) (hkm : Km h0 h) (hW : Wx X h H) (hZ : va_S (aA (eB X)) s.heap H locs) (ls : Array Slot) (hl : lv_has ls 9 [(0, .ref x0), (3, .int x3)]) (hE : sX5_collect_151 F h x0 x3 = some o) : W p l e (rm 3 111) s m args below meth c H locs 0 0 (MQ below (QI X h0 o.1 o.2) args s 0 0 (aA (eB X))) (F0 m 151 ls []) := by
  refine lv_aload_n C.1 C.2.1 dX5_collect_151 rfl (lv_at hl 0 rfl) ?_
  obtain ⟨r_1, er_1, hE⟩ := cl_e hE
  refine gf_X5_22 C hW k_x0 er_1 dX5_collect_152 (fun k_r_1 => ?_)
  refine lv_iconst (v := (1 : Int32)) C.1 C.2.1 dX5_collect_155 (by decide) ?_
  obtain ⟨o_2, eo_2, hE⟩ := cl_e hE
  refine x_kI (o := o_2) (z_runV (As := [.int (1 : Int32)]) (rest := []) C (ct_X1_has l X k_r_1 eo_2) cw_X5_104 hW hZ k_r_1 (by decide) rfl rfl rfl hl.1 (Nat.le_of_ble_eq_true rfl) rfl dX5_collect_156 ⟨Nat.le_of_ble_eq_true rfl, Nat.le_of_ble_eq_true rfl⟩ ⟨Nat.le_refl _, Nat.le_refl _⟩) hZ (fun _ _ hW km hZ => ?_)
  replace hkm := hkm.tr km
  replace k_x0 := km.at k_x0 (by decide)
  refine lv_if_eq (tgt := 172) C.1 C.2.1 dX5_collect_159 (by decide) (fun c_3 => ?_) (fun c_3 => ?_)
  · have hE := br_p hE c_3
    refine lv_iconst (v := (0 : Int32)) C.1 C.2.1 dX5_collect_172 (by decide) ?_
    exact bX5_collect_173 C k_x0 hkm hW hZ _ (lv_sub hl [0, 1] rfl) hE
  · have hE := br_n hE c_3
    refine lv_aload_n C.1 C.2.1 dX5_collect_162 rfl (lv_at hl 0 rfl) ?_
    obtain ⟨r_4, er_4, hE⟩ := cl_e hE
    refine gf_X5_22 C hW k_x0 er_4 dX5_collect_163 (fun k_r_4 => ?_)
    refine gf_X5_110 C hW k_r_4 dX5_collect_166 ?_
    refine lv_goto (tgt := 173) C.1 C.2.1 dX5_collect_169 (by decide) ?_
    exact bX5_collect_173 C k_x0 hkm hW hZ _ (lv_sub hl [0, 1] rfl) hE
set_option maxRecDepth 20000 in
theorem bX5_collect_139 {p : Program} {l : Launch} {e : Env} {s : State} {m : MethodId} {args : Array Value} {below : List Frame} {meth : Method} {c : Code} {X : Ec} {h0 : Hp} {o : Int32 × Hp} {k_39 : Hp → Nat → Int32 → Int64 → Int32 → Option (Int32 × Hp)} {F : Nat} (C : Cx X p s m args meth c RX5 cX5_collect 9 (some .int) "collect") (hk_39 : ∀ (h : Hp) (x0 : Nat) (x3 : Int32) (x4 : Int64) (x6 : Int32) (H : Heap) (locs : List Loc), hK h x0 = 5 → Km h0 h → Wx X h H → va_S (aA (eB X)) s.heap H locs → ∀ (ls : Array Slot), lv_has ls 9 [(0, .ref x0), (3, .int x3), (4, .long x4), (6, .int x6)] → k_39 h x0 x3 x4 x6 = some o → W p l e (rm 3 111) s m args below meth c H locs 0 0 (MQ below (QI X h0 o.1 o.2) args s 0 0 (aA (eB X))) (F0 m 39 ls [])) {h : Hp} {x0 : Nat} {x3 : Int32} {x4 : Int64} {x6 : Int32} {x8 : Int32} {H : Heap} {locs : List Loc} (k_x0 : hK h x0 = 5) (hkm : Km h0 h) (hW : Wx X h H) (hZ : va_S (aA (eB X)) s.heap H locs) (ls : Array Slot) (hl : lv_has ls 9 [(0, .ref x0), (3, .int x3), (4, .long x4), (6, .int x6), (8, .int x8)]) (hE : sX5_collect_139 F k_39 h x0 x3 x4 x6 x8 = some o) : W p l e (rm 3 111) s m args below meth c H locs 0 0 (MQ below (QI X h0 o.1 o.2) args s 0 0 (aA (eB X))) (F0 m 139 ls []) := by
  refine lv_aload_n C.1 C.2.1 dX5_collect_139 rfl (lv_at hl 0 rfl) ?_
  refine lv_iload C.1 C.2.1 dX5_collect_140 (lv_at hl 4 rfl) ?_
  obtain ⟨o_1, eo_1, hE⟩ := cl_e hE
  refine x_kV (o := o_1) (z_runV (As := [.int x8]) (rest := []) C (ct_X5_keepLawful l X F k_x0 eo_1) cw_X5_101 hW hZ k_x0 (by decide) rfl rfl rfl hl.1 (Nat.le_of_ble_eq_true rfl) rfl dX5_collect_142 ⟨Nat.le_of_ble_eq_true rfl, Nat.le_of_ble_eq_true rfl⟩ ⟨Nat.le_refl _, Nat.le_refl _⟩) hZ (fun _ _ hW km hZ => ?_)
  replace hkm := hkm.tr km
  replace k_x0 := km.at k_x0 (by decide)
  obtain ⟨v_2, ev_2, hE⟩ := nm_e2 hE
  refine lv_iinc (v := v_2) (lv' := [(6, .int v_2), (0, .ref x0), (3, .int x3), (4, .long x4), (8, .int x8)]) C.1 C.2.1 dX5_collect_145 hl (k := 3) rfl (by rw [ev_2]; rfl) (by decide) rfl (fun ls hl => ?_)
  refine lv_goto (tgt := 39) C.1 C.2.1 dX5_collect_148 (by decide) ?_
  exact hk_39 _ _ _ _ _ _ _ k_x0 hkm hW hZ _ (lv_sub hl [1, 2, 3, 0] rfl) hE
set_option maxRecDepth 20000 in
theorem bX5_collect_39 {p : Program} {l : Launch} {e : Env} {s : State} {m : MethodId} {args : Array Value} {below : List Frame} {meth : Method} {c : Code} {X : Ec} {h0 : Hp} {o : Int32 × Hp} {F : Nat} (C : Cx X p s m args meth c RX5 cX5_collect 9 (some .int) "collect") : ∀ (f : Nat) {h : Hp} {x0 : Nat} {x3 : Int32} {x4 : Int64} {x6 : Int32} {H : Heap} {locs : List Loc} (k_x0 : hK h x0 = 5), Km h0 h → Wx X h H → va_S (aA (eB X)) s.heap H locs → ∀ (ls : Array Slot), lv_has ls 9 [(0, .ref x0), (3, .int x3), (4, .long x4), (6, .int x6)] → sX5_collect_39 F f h x0 x3 x4 x6 = some o → W p l e (rm 3 111) s m args below meth c H locs 0 0 (MQ below (QI X h0 o.1 o.2) args s 0 0 (aA (eB X))) (F0 m 39 ls []) := by
  intro f
  induction f with
  | zero =>
    intro h x0 x3 x4 x6 H locs k_x0 hkm hW hZ ls hl hE
    rw [sX5_collect_39] at hE
    cases hE
  | succ f ih =>
    intro h x0 x3 x4 x6 H locs k_x0 hkm hW hZ ls hl hE
    rw [sX5_collect_39] at hE
    have hk_39 : ∀ (h : Hp) (x0 : Nat) (x3 : Int32) (x4 : Int64) (x6 : Int32) (H : Heap) (locs : List Loc), hK h x0 = 5 → Km h0 h → Wx X h H → va_S (aA (eB X)) s.heap H locs → ∀ (ls : Array Slot), lv_has ls 9 [(0, .ref x0), (3, .int x3), (4, .long x4), (6, .int x6)] → sX5_collect_39 F f h x0 x3 x4 x6 = some o → W p l e (rm 3 111) s m args below meth c H locs 0 0 (MQ below (QI X h0 o.1 o.2) args s 0 0 (aA (eB X))) (F0 m 39 ls []) := fun h x0 x3 x4 x6 H locs k_x0 a b c ls hl hE => ih k_x0 a b c ls hl hE
    refine lv_iload C.1 C.2.1 dX5_collect_39 (lv_at hl 3 rfl) ?_
    refine lv_bipush (v := (64 : Int32)) C.1 C.2.1 dX5_collect_41 (by decide) ?_
    refine lv_icmp_ge (tgt := 151) C.1 C.2.1 dX5_collect_43 (by decide) (fun c_1 => ?_) (fun c_1 => ?_)
    · have hE := br_p hE c_1
      exact bX5_collect_151 C k_x0 hkm hW hZ _ (lv_sub hl [0, 1] rfl) hE
    · have hE := br_n hE c_1
      refine lv_lload C.1 C.2.1 dX5_collect_46 (lv_at hl 2 rfl) ?_
      refine lv_lconst (v := (0 : Int64)) C.1 C.2.1 dX5_collect_48 (by decide) ?_
      refine W.lcmp C.1 C.2.1 dX5_collect_49 ?_
      refine lv_if_eq (tgt := 151) C.1 C.2.1 dX5_collect_50 (by decide) (fun c_2 => ?_) (fun c_2 => ?_)
      · have hE := br_p hE c_2
        exact bX5_collect_151 C k_x0 hkm hW hZ _ (lv_sub hl [0, 1] rfl) hE
      · have hE := br_n hE c_2
        refine lv_aload_n C.1 C.2.1 dX5_collect_53 rfl (lv_at hl 0 rfl) ?_
        refine gf_X5_82 C hW k_x0 dX5_collect_54 ?_
        refine lv_iload_n C.1 C.2.1 dX5_collect_57 rfl (lv_at hl 1 rfl) ?_
        refine lv_icmp_ge (tgt := 151) C.1 C.2.1 dX5_collect_58 (by decide) (fun c_3 => ?_) (fun c_3 => ?_)
        · have hE := br_p hE c_3
          exact bX5_collect_151 C k_x0 hkm hW hZ _ (lv_sub hl [0, 1] rfl) hE
        · have hE := br_n hE c_3
          refine lv_lload C.1 C.2.1 dX5_collect_61 (lv_at hl 2 rfl) ?_
          obtain ⟨o_4, eo_4, hE⟩ := cl_e hE
          refine x_kI (o := o_4) (x_runSN (As := [.long x4]) (rest := []) C (ct_X11_lowest l X eo_4) cn_X5_85 hW hZ rfl hl.1 (Nat.le_of_ble_eq_true rfl) rfl dX5_collect_63 ⟨Nat.le_of_ble_eq_true rfl, Nat.le_of_ble_eq_true rfl⟩ ⟨Nat.le_refl _, Nat.le_refl _⟩) hZ (fun _ _ hW km hZ => ?_)
          replace hkm := hkm.tr km
          replace k_x0 := km.at k_x0 (by decide)
          refine lv_istore (lv' := [(7, .int o_4.1), (0, .ref x0), (3, .int x3), (4, .long x4), (6, .int x6)]) C.1 C.2.1 dX5_collect_66 hl (by decide) rfl (fun ls hl => ?_)
          refine lv_lload C.1 C.2.1 dX5_collect_68 (lv_at hl 3 rfl) ?_
          refine lv_lload C.1 C.2.1 dX5_collect_70 (lv_at hl 3 rfl) ?_
          refine lv_lconst (v := (1 : Int64)) C.1 C.2.1 dX5_collect_72 (by decide) ?_
          refine lv_lsub C.1 C.2.1 dX5_collect_73 ?_
          refine lv_land C.1 C.2.1 dX5_collect_74 ?_
          obtain ⟨v_5, ev_5, hE⟩ := nm_e2 hE
          refine x_nmJ ev_5 ?_
          refine lv_lstore (lv' := [(4, .long v_5), (7, .int o_4.1), (0, .ref x0), (3, .int x3), (6, .int x6)]) C.1 C.2.1 dX5_collect_75 hl (by decide) rfl (fun ls hl => ?_)
          refine lv_aload_n C.1 C.2.1 dX5_collect_77 rfl (lv_at hl 2 rfl) ?_
          refine gf_X5_82 C hW k_x0 dX5_collect_78 ?_
          obtain ⟨v_6, ev_6, hE⟩ := nm_e2 hE
          refine x_nmI ev_6 ?_
          refine lv_istore (lv' := [(8, .int v_6), (4, .long v_5), (7, .int o_4.1), (0, .ref x0), (3, .int x3), (6, .int x6)]) C.1 C.2.1 dX5_collect_81 hl (by decide) rfl (fun ls hl => ?_)
          refine lv_aload_n C.1 C.2.1 dX5_collect_83 rfl (lv_at hl 3 rfl) ?_
          refine lv_iload C.1 C.2.1 dX5_collect_84 (lv_at hl 2 rfl) ?_
          obtain ⟨o_7, eo_7, hE⟩ := cl_e hE
          refine x_kV (o := o_7) (z_runV (As := [.int o_4.1]) (rest := []) C (ct_X5_addSteps l X F k_x0 eo_7) cw_X5_89 hW hZ k_x0 (by decide) rfl rfl rfl hl.1 (Nat.le_of_ble_eq_true rfl) rfl dX5_collect_86 ⟨Nat.le_of_ble_eq_true rfl, Nat.le_of_ble_eq_true rfl⟩ ⟨Nat.le_refl _, Nat.le_refl _⟩) hZ (fun _ _ hW km hZ => ?_)
          replace hkm := hkm.tr km
          replace k_x0 := km.at k_x0 (by decide)
          refine lv_iload C.1 C.2.1 dX5_collect_89 (lv_at hl 2 rfl) ?_
          refine lv_aload_n C.1 C.2.1 dX5_collect_91 rfl (lv_at hl 3 rfl) ?_
          obtain ⟨r_8, er_8, hE⟩ := cl_e hE
          refine gf_X5_71 C hW k_x0 er_8 dX5_collect_92 (fun k_r_8 => ?_)
          obtain ⟨r_9, er_9, hE⟩ := cl_e hE
          refine gf_X5_60 C hW k_r_8 er_9 dX5_collect_95 (fun k_r_9 => ?_)
          refine lv_aload_n C.1 C.2.1 dX5_collect_98 rfl (lv_at hl 3 rfl) ?_
          obtain ⟨r_10, er_10, hE⟩ := cl_e hE
          refine gf_X5_71 C hW k_x0 er_10 dX5_collect_99 (fun k_r_10 => ?_)
          refine gf_X5_78 C hW k_r_10 dX5_collect_102 ?_
          obtain ⟨g_11, hE⟩ := gd_e hE
          refine y_iald C hW k_r_9 g_11 dX5_collect_105 ?_
          refine lv_icmp_ne (tgt := 139) C.1 C.2.1 dX5_collect_106 (by decide) (fun c_12 => ?_) (fun c_12 => ?_)
          · have hE := br_n hE c_12
            exact bX5_collect_139 C hk_39 k_x0 hkm hW hZ _ (lv_sub hl [3, 4, 1, 5, 0] rfl) hE
          · have hE := br_p hE c_12
            refine lv_aload_n C.1 C.2.1 dX5_collect_109 rfl (lv_at hl 3 rfl) ?_
            obtain ⟨r_13, er_13, hE⟩ := cl_e hE
            refine gf_X5_71 C hW k_x0 er_13 dX5_collect_110 (fun k_r_13 => ?_)
            refine gf_X5_93 C hW k_r_13 dX5_collect_113 ?_
            refine lv_lconst (v := (0 : Int64)) C.1 C.2.1 dX5_collect_116 (by decide) ?_
            refine W.lcmp C.1 C.2.1 dX5_collect_117 ?_
            refine lv_if_eq (tgt := 139) C.1 C.2.1 dX5_collect_118 (by decide) (fun c_14 => ?_) (fun c_14 => ?_)
            · have hE := br_p hE c_14
              exact bX5_collect_139 C hk_39 k_x0 hkm hW hZ _ (lv_sub hl [3, 4, 1, 5, 0] rfl) hE
            · have hE := br_n hE c_14
              refine lv_aload_n C.1 C.2.1 dX5_collect_121 rfl (lv_at hl 3 rfl) ?_
              refine lv_iload C.1 C.2.1 dX5_collect_122 (lv_at hl 2 rfl) ?_
              refine lv_iconst (v := (-1 : Int32)) C.1 C.2.1 dX5_collect_124 (by decide) ?_
              refine lv_iload C.1 C.2.1 dX5_collect_125 (lv_at hl 0 rfl) ?_
              obtain ⟨o_15, eo_15, hE⟩ := cl_e hE
              refine x_kV (o := o_15) (z_runV (As := [.int o_4.1, .int (-1 : Int32), .int v_6]) (rest := []) C (ct_X5_addCastling l X F k_x0 eo_15) cw_X5_97 hW hZ k_x0 (by decide) rfl rfl rfl hl.1 (Nat.le_of_ble_eq_true rfl) rfl dX5_collect_127 ⟨Nat.le_of_ble_eq_true rfl, Nat.le_of_ble_eq_true rfl⟩ ⟨Nat.le_refl _, Nat.le_refl _⟩) hZ (fun _ _ hW km hZ => ?_)
              replace hkm := hkm.tr km
              replace k_x0 := km.at k_x0 (by decide)
              refine lv_aload_n C.1 C.2.1 dX5_collect_130 rfl (lv_at hl 3 rfl) ?_
              refine lv_iload C.1 C.2.1 dX5_collect_131 (lv_at hl 2 rfl) ?_
              refine lv_iconst (v := (1 : Int32)) C.1 C.2.1 dX5_collect_133 (by decide) ?_
              refine lv_iload C.1 C.2.1 dX5_collect_134 (lv_at hl 0 rfl) ?_
              obtain ⟨o_16, eo_16, hE⟩ := cl_e hE
              refine x_kV (o := o_16) (z_runV (As := [.int o_4.1, .int (1 : Int32), .int v_6]) (rest := []) C (ct_X5_addCastling l X F k_x0 eo_16) cw_X5_97 hW hZ k_x0 (by decide) rfl rfl rfl hl.1 (Nat.le_of_ble_eq_true rfl) rfl dX5_collect_136 ⟨Nat.le_of_ble_eq_true rfl, Nat.le_of_ble_eq_true rfl⟩ ⟨Nat.le_refl _, Nat.le_refl _⟩) hZ (fun _ _ hW km hZ => ?_)
              replace hkm := hkm.tr km
              replace k_x0 := km.at k_x0 (by decide)
              exact bX5_collect_139 C hk_39 k_x0 hkm hW hZ _ (lv_sub hl [3, 4, 1, 5, 0] rfl) hE
set_option maxRecDepth 20000 in
theorem ct_X5_collect (l : Launch) (X : Ec) (F : Nat) {h : Hp} {x0 : Nat} {x1 : Nat} {x2 : Nat} {x3 : Int32} {o : Int32 × Hp} (k_x0 : hK h x0 = 5) (k_x1 : hK h x1 = 3) (k_x2 : hK h x2 = 17) (hE : sX5_collect F h x0 x1 x2 x3 = some o) : MetI l yX5_collect cX5_collect 9 (some .int) 3 111 X [.ref x0, .ref x1, .ref x2, .int x3] h o := by
  refine x_met (by decide) (Nat.le_of_ble_eq_true rfl) ?_
  intro p e s m below meth c ls C hl hW hZ
  have hl : lv_has ls 9 [(0, .ref x0), (1, .ref x1), (2, .ref x2), (3, .int x3)] := hl
  have hkm : Km h h := Km.rf h
  refine lv_aload_n C.1 C.2.1 dX5_collect_0 rfl (lv_at hl 0 rfl) ?_
  refine lv_aload_n C.1 C.2.1 dX5_collect_1 rfl (lv_at hl 1 rfl) ?_
  refine lv_aload_n C.1 C.2.1 dX5_collect_2 rfl (lv_at hl 2 rfl) ?_
  obtain ⟨o_1, eo_1, hE⟩ := cl_e hE
  refine x_kV (o := o_1) (z_runV (As := [.ref x1, .ref x2]) (rest := []) C (ct_X5_begin l X F k_x0 k_x1 k_x2 eo_1) cw_X5_67 hW hZ k_x0 (by decide) rfl rfl rfl hl.1 (Nat.le_of_ble_eq_true rfl) rfl dX5_collect_3 ⟨Nat.le_of_ble_eq_true rfl, Nat.le_of_ble_eq_true rfl⟩ ⟨Nat.le_refl _, Nat.le_refl _⟩) hZ (fun _ _ hW km hZ => ?_)
  replace hkm := hkm.tr km
  replace k_x0 := km.at k_x0 (by decide)
  replace k_x1 := km.at k_x1 (by decide)
  replace k_x2 := km.at k_x2 (by decide)
  refine lv_aload_n C.1 C.2.1 dX5_collect_6 rfl (lv_at hl 0 rfl) ?_
  refine lv_aload_n C.1 C.2.1 dX5_collect_7 rfl (lv_at hl 0 rfl) ?_
  obtain ⟨r_2, er_2, hE⟩ := cl_e hE
  refine gf_X5_71 C hW k_x0 er_2 dX5_collect_8 (fun k_r_2 => ?_)
  obtain ⟨o_3, eo_3, hE⟩ := cl_e hE
  refine x_kI (o := o_3) (z_runV (As := [.ref r_2]) (rest := []) C (ct_X5_earlyEnd l X k_x0 k_r_2 eo_3) cw_X5_74 hW hZ k_x0 (by decide) rfl rfl rfl hl.1 (Nat.le_of_ble_eq_true rfl) rfl dX5_collect_11 ⟨Nat.le_of_ble_eq_true rfl, Nat.le_of_ble_eq_true rfl⟩ ⟨Nat.le_refl _, Nat.le_refl _⟩) hZ (fun _ _ hW km hZ => ?_)
  replace hkm := hkm.tr km
  replace k_x0 := km.at k_x0 (by decide)
  replace k_x1 := km.at k_x1 (by decide)
  replace k_x2 := km.at k_x2 (by decide)
  refine lv_if_eq (tgt := 19) C.1 C.2.1 dX5_collect_14 (by decide) (fun c_4 => ?_) (fun c_4 => ?_)
  · have hE := br_p hE c_4
    refine lv_aload_n C.1 C.2.1 dX5_collect_19 rfl (lv_at hl 0 rfl) ?_
    obtain ⟨r_5, er_5, hE⟩ := cl_e hE
    refine gf_X5_71 C hW k_x0 er_5 dX5_collect_20 (fun k_r_5 => ?_)
    obtain ⟨r_6, er_6, hE⟩ := cl_e hE
    refine gf_X5_33 C hW k_r_5 er_6 dX5_collect_23 (fun k_r_6 => ?_)
    refine lv_aload_n C.1 C.2.1 dX5_collect_26 rfl (lv_at hl 0 rfl) ?_
    obtain ⟨r_7, er_7, hE⟩ := cl_e hE
    refine gf_X5_71 C hW k_x0 er_7 dX5_collect_27 (fun k_r_7 => ?_)
    refine gf_X5_78 C hW k_r_7 dX5_collect_30 ?_
    obtain ⟨g_8, hE⟩ := gd_e hE
    refine y_lald C hW k_r_6 g_8 dX5_collect_33 ?_
    obtain ⟨v_9, ev_9, hE⟩ := nm_e2 hE
    refine x_nmJ ev_9 ?_
    refine lv_lstore (lv' := [(4, .long v_9), (0, .ref x0), (1, .ref x1), (2, .ref x2), (3, .int x3)]) C.1 C.2.1 dX5_collect_34 hl (by decide) rfl (fun ls hl => ?_)
    refine lv_iconst (v := (0 : Int32)) C.1 C.2.1 dX5_collect_36 (by decide) ?_
    refine lv_istore (lv' := [(6, .int (0 : Int32)), (4, .long v_9), (0, .ref x0), (1, .ref x1), (2, .ref x2), (3, .int x3)]) C.1 C.2.1 dX5_collect_37 hl (by decide) rfl (fun ls hl => ?_)
    exact bX5_collect_39 C F k_x0 hkm hW hZ _ (lv_sub hl [2, 5, 1, 0] rfl) hE
  · have hE := br_n hE c_4
    refine lv_iconst (v := (0 : Int32)) C.1 C.2.1 dX5_collect_17 (by decide) ?_
    exact x_iret C rfl rfl hW hZ hkm hE dX5_collect_18
set_option maxRecDepth 100000 in
theorem m_1137 : Cond.methodLink RX5 306 yX5_collect ∈ W0 := w0_in (List.mem_append_right _ (List.mem_of_getElem? (i := 1137) rfl)) rfl
set_option maxRecDepth 100000 in
theorem m_1138 : Cond.instanceMethod yX5_collect ∈ W0 := w0_in (List.mem_append_right _ (List.mem_of_getElem? (i := 1138) rfl)) rfl
set_option maxRecDepth 100000 in
theorem m_1139 : Cond.selects RX5 yX5_collect yX5_collect ∈ W0 := w0_in (List.mem_append_right _ (List.mem_of_getElem? (i := 1139) rfl)) rfl
set_option maxRecDepth 100000 in
theorem m_1140 : Cond.code yX5_collect cX5_collect 9 (some .int) ∈ W0 := w0_in (List.mem_append_right _ (List.mem_of_getElem? (i := 1140) rfl)) rfl
section
variable {p : Program} {l : Launch} {e : Env} {R : Room} {s : State} {m : MethodId} {args : Array Value} {below : List Frame} {meth : Method} {c : Code} {H : Heap} {locs : List Loc} {cells slots : Nat} {Q : State → Prop}
variable {cc : ByteArray} {pc : Nat} {ls : Array Slot} {rest : List Value} {X : Ec} {h h1 : Hp} {nL : Nat} {rt : Option FieldType} {mn : String}
theorem gf_X5_9 {a r : Nat} (C : Cx X p s m args meth c RX5 cc nL rt mn) (hW : Wx X h H) (ha : hK h a = 5) (hr : hR h a 2 = some r) (hdg : decode cc pc = .ok (.getfield 9, 3)) (kk : hK h r = 17 → W p l e R s m args below meth c H locs cells slots Q (F0 m (pc + 3) ls (.ref r :: rest))) : W p l e R s m args below meth c H locs cells slots Q (F0 m pc ls (.ref a :: rest)) :=
  y_getr C hW ha i_X5 (by decide) rfl (by decide) m_346 rfl rfl hr hdg kk
end
theorem cw_X5_306 : cwd RX5 306 yX5_collect cX5_collect 9 (some .int) false 3 := ⟨m_1140, m_1137, m_7, ⟨m_1138, m_1139⟩, by decide, by decide, by decide +kernel⟩
theorem dX5_mayCatch_0 : decode cX5_mayCatch 0 = .ok (.aload_n 1, 1) := by decide +kernel
theorem dX5_mayCatch_1 : decode cX5_mayCatch 1 = .ok (.getfield 326, 3) := by decide +kernel
theorem dX5_mayCatch_4 : decode cX5_mayCatch 4 = .ok (.lconst 0, 1) := by decide +kernel
theorem dX5_mayCatch_5 : decode cX5_mayCatch 5 = .ok (.lcmp, 1) := by decide +kernel
theorem dX5_mayCatch_6 : decode cX5_mayCatch 6 = .ok (.ifCond .ne 7, 3) := by decide +kernel
theorem dX5_mayCatch_9 : decode cX5_mayCatch 9 = .ok (.iconst 0, 1) := by decide +kernel
theorem dX5_mayCatch_10 : decode cX5_mayCatch 10 = .ok (.goto 15, 3) := by decide +kernel
theorem dX5_mayCatch_13 : decode cX5_mayCatch 13 = .ok (.aload_n 0, 1) := by decide +kernel
theorem dX5_mayCatch_14 : decode cX5_mayCatch 14 = .ok (.aload_n 1, 1) := by decide +kernel
theorem dX5_mayCatch_15 : decode cX5_mayCatch 15 = .ok (.aload_n 0, 1) := by decide +kernel
theorem dX5_mayCatch_16 : decode cX5_mayCatch 16 = .ok (.getfield 9, 3) := by decide +kernel
theorem dX5_mayCatch_19 : decode cX5_mayCatch 19 = .ok (.sipush 4096, 3) := by decide +kernel
theorem dX5_mayCatch_22 : decode cX5_mayCatch 22 = .ok (.invokevirtual 306, 3) := by decide +kernel
theorem dX5_mayCatch_25 : decode cX5_mayCatch 25 = .ok (.istore_n 2, 1) := by decide +kernel
theorem dX5_mayCatch_26 : decode cX5_mayCatch 26 = .ok (.iconst 0, 1) := by decide +kernel
theorem dX5_mayCatch_27 : decode cX5_mayCatch 27 = .ok (.istore_n 3, 1) := by decide +kernel
theorem dX5_mayCatch_28 : decode cX5_mayCatch 28 = .ok (.iload_n 3, 1) := by decide +kernel
theorem dX5_mayCatch_29 : decode cX5_mayCatch 29 = .ok (.iload_n 2, 1) := by decide +kernel
theorem dX5_mayCatch_30 : decode cX5_mayCatch 30 = .ok (.if_icmp .ge 24, 3) := by decide +kernel
theorem dX5_mayCatch_33 : decode cX5_mayCatch 33 = .ok (.aload_n 0, 1) := by decide +kernel
theorem dX5_mayCatch_34 : decode cX5_mayCatch 34 = .ok (.getfield 9, 3) := by decide +kernel
theorem dX5_mayCatch_37 : decode cX5_mayCatch 37 = .ok (.iload_n 3, 1) := by decide +kernel
theorem dX5_mayCatch_38 : decode cX5_mayCatch 38 = .ok (.iaload, 1) := by decide +kernel
theorem dX5_mayCatch_39 : decode cX5_mayCatch 39 = .ok (.invokestatic 233, 3) := by decide +kernel
theorem dX5_mayCatch_42 : decode cX5_mayCatch 42 = .ok (.iconst 1, 1) := by decide +kernel
theorem dX5_mayCatch_43 : decode cX5_mayCatch 43 = .ok (.if_icmp .ne 5, 3) := by decide +kernel
theorem dX5_mayCatch_46 : decode cX5_mayCatch 46 = .ok (.iconst 1, 1) := by decide +kernel
theorem dX5_mayCatch_47 : decode cX5_mayCatch 47 = .ok (.ireturn, 1) := by decide +kernel
theorem dX5_mayCatch_48 : decode cX5_mayCatch 48 = .ok (.iinc 3 1, 3) := by decide +kernel
theorem dX5_mayCatch_51 : decode cX5_mayCatch 51 = .ok (.goto (-23), 3) := by decide +kernel
theorem dX5_mayCatch_54 : decode cX5_mayCatch 54 = .ok (.iconst 0, 1) := by decide +kernel
theorem dX5_mayCatch_55 : decode cX5_mayCatch 55 = .ok (.ireturn, 1) := by decide +kernel
def sX5_mayCatch_28 (F : Nat) : Nat → Hp → Nat → Int32 → Int32 → Option (Int32 × Hp)
  | 0, _, _, _, _ => none
  | f + 1, h, x0, x2, x3 => br (x2 ≤ x3) (some ((0 : Int32), h)) (cl (hR h x0 2) fun r_2 => gd (inB x3 (hN h r_2)) <| cl (sX5_kindOf h (hI h r_2 x3.toNatClampNeg)) fun o_4 => br (o_4.1 = (1 : Int32)) (some ((1 : Int32), o_4.2)) (nm (x3 + (1 : Int32)) fun v_6 => sX5_mayCatch_28 F f o_4.2 x0 x2 v_6))
def sX5_mayCatch_25 (F : Nat) (h : Hp) (x0 : Nat) (t0 : Int32) : Option (Int32 × Hp) := sX5_mayCatch_28 F F h x0 t0 (0 : Int32)
def sX5_mayCatch (F : Nat) (h : Hp) (x0 : Nat) (x1 : Nat) : Option (Int32 × Hp) := br ((lg_cmp (hJ h x1 9) (0 : Int64)) = 0) (sX5_mayCatch_25 F h x0 (0 : Int32)) (cl (hR h x0 2) fun r_2 => cl (sX5_collect F h x0 x1 r_2 (4096 : Int32)) fun o_3 => sX5_mayCatch_25 F o_3.2 x0 o_3.1)
set_option maxRecDepth 20000 in
theorem moX5_mayCatch_28 {o : Int32 × Hp} {F : Nat} : ∀ (f : Nat) {h : Hp} {x0 : Nat} {x2 : Int32} {x3 : Int32}, sX5_mayCatch_28 F f h x0 x2 x3 = some o → Le h o.2 := by
  intro f
  induction f with
  | zero =>
    intro h x0 x2 x3 hE
    rw [sX5_mayCatch_28] at hE
    cases hE
  | succ f ih =>
    intro h x0 x2 x3 hE
    rw [sX5_mayCatch_28] at hE
    have mk_28 : ∀ (h : Hp) (x0 : Nat) (x2 : Int32) (x3 : Int32), sX5_mayCatch_28 F f h x0 x2 x3 = some o → Le h o.2 := fun h x0 x2 x3 hE => ih hE
    rcases br_e hE with ⟨_, hE⟩ | ⟨_, hE⟩
    · exact le_some2 hE
    · obtain ⟨r_2, er_2, hE⟩ := cl_e hE
      obtain ⟨g_3, hE⟩ := gd_e hE
      obtain ⟨o_4, eo_4, hE⟩ := cl_e hE
      refine (moX5_kindOf eo_4).tr ?_
      rcases br_e hE with ⟨_, hE⟩ | ⟨_, hE⟩
      · exact le_some2 hE
      · obtain ⟨v_6, ev_6, hE⟩ := nm_e2 hE
        exact mk_28 _ _ _ _ hE
set_option maxRecDepth 20000 in
theorem moX5_mayCatch_25 {o : Int32 × Hp} {F : Nat} {h : Hp} {x0 : Nat} {t0 : Int32} (hE : sX5_mayCatch_25 F h x0 t0 = some o) : Le h o.2 := by
  exact moX5_mayCatch_28 _ hE
set_option maxRecDepth 20000 in
theorem moX5_mayCatch {o : Int32 × Hp} {F : Nat} {h : Hp} {x0 : Nat} {x1 : Nat} (hE : sX5_mayCatch F h x0 x1 = some o) : Le h o.2 := by
  rcases br_e hE with ⟨_, hE⟩ | ⟨_, hE⟩
  · exact moX5_mayCatch_25 hE
  · obtain ⟨r_2, er_2, hE⟩ := cl_e hE
    obtain ⟨o_3, eo_3, hE⟩ := cl_e hE
    refine (moX5_collect eo_3).tr ?_
    exact moX5_mayCatch_25 hE
set_option maxRecDepth 20000 in
theorem bX5_mayCatch_28 {p : Program} {l : Launch} {e : Env} {s : State} {m : MethodId} {args : Array Value} {below : List Frame} {meth : Method} {c : Code} {X : Ec} {h0 : Hp} {o : Int32 × Hp} {F : Nat} (C : Cx X p s m args meth c RX5 cX5_mayCatch 4 (some .boolean) "mayCatch") : ∀ (f : Nat) {h : Hp} {x0 : Nat} {x2 : Int32} {x3 : Int32} {H : Heap} {locs : List Loc} (k_x0 : hK h x0 = 5), Km h0 h → Wx X h H → va_S (aA (eB X)) s.heap H locs → ∀ (ls : Array Slot), lv_has ls 4 [(0, .ref x0), (2, .int x2), (3, .int x3)] → sX5_mayCatch_28 F f h x0 x2 x3 = some o → W p l e (rm 4 139) s m args below meth c H locs 0 0 (MQ below (QI X h0 o.1 o.2) args s 0 0 (aA (eB X))) (F0 m 28 ls []) := by
  intro f
  induction f with
  | zero =>
    intro h x0 x2 x3 H locs k_x0 hkm hW hZ ls hl hE
    rw [sX5_mayCatch_28] at hE
    cases hE
  | succ f ih =>
    intro h x0 x2 x3 H locs k_x0 hkm hW hZ ls hl hE
    rw [sX5_mayCatch_28] at hE
    have hk_28 : ∀ (h : Hp) (x0 : Nat) (x2 : Int32) (x3 : Int32) (H : Heap) (locs : List Loc), hK h x0 = 5 → Km h0 h → Wx X h H → va_S (aA (eB X)) s.heap H locs → ∀ (ls : Array Slot), lv_has ls 4 [(0, .ref x0), (2, .int x2), (3, .int x3)] → sX5_mayCatch_28 F f h x0 x2 x3 = some o → W p l e (rm 4 139) s m args below meth c H locs 0 0 (MQ below (QI X h0 o.1 o.2) args s 0 0 (aA (eB X))) (F0 m 28 ls []) := fun h x0 x2 x3 H locs k_x0 a b c ls hl hE => ih k_x0 a b c ls hl hE
    refine lv_iload_n C.1 C.2.1 dX5_mayCatch_28 rfl (lv_at hl 2 rfl) ?_
    refine lv_iload_n C.1 C.2.1 dX5_mayCatch_29 rfl (lv_at hl 1 rfl) ?_
    refine lv_icmp_ge (tgt := 54) C.1 C.2.1 dX5_mayCatch_30 (by decide) (fun c_1 => ?_) (fun c_1 => ?_)
    · have hE := br_p hE c_1
      refine lv_iconst (v := (0 : Int32)) C.1 C.2.1 dX5_mayCatch_54 (by decide) ?_
      exact x_iret C rfl (by decide) hW hZ hkm hE dX5_mayCatch_55
    · have hE := br_n hE c_1
      refine lv_aload_n C.1 C.2.1 dX5_mayCatch_33 rfl (lv_at hl 0 rfl) ?_
      obtain ⟨r_2, er_2, hE⟩ := cl_e hE
      refine gf_X5_9 C hW k_x0 er_2 dX5_mayCatch_34 (fun k_r_2 => ?_)
      refine lv_iload_n C.1 C.2.1 dX5_mayCatch_37 rfl (lv_at hl 2 rfl) ?_
      obtain ⟨g_3, hE⟩ := gd_e hE
      refine y_iald C hW k_r_2 g_3 dX5_mayCatch_38 ?_
      obtain ⟨o_4, eo_4, hE⟩ := cl_e hE
      refine x_kI (o := o_4) (z_runS (As := [.int (hI h r_2 x3.toNatClampNeg)]) (rest := []) C (ct_X5_kindOf l X eo_4) cw_X5_233 hW hZ rfl hl.1 (Nat.le_of_ble_eq_true rfl) rfl dX5_mayCatch_39 ⟨Nat.le_of_ble_eq_true rfl, Nat.le_of_ble_eq_true rfl⟩ ⟨Nat.le_refl _, Nat.le_refl _⟩) hZ (fun _ _ hW km hZ => ?_)
      replace hkm := hkm.tr km
      replace k_x0 := km.at k_x0 (by decide)
      refine lv_iconst (v := (1 : Int32)) C.1 C.2.1 dX5_mayCatch_42 (by decide) ?_
      refine lv_icmp_ne (tgt := 48) C.1 C.2.1 dX5_mayCatch_43 (by decide) (fun c_5 => ?_) (fun c_5 => ?_)
      · have hE := br_n hE c_5
        obtain ⟨v_6, ev_6, hE⟩ := nm_e2 hE
        refine lv_iinc (v := v_6) (lv' := [(3, .int v_6), (0, .ref x0), (2, .int x2)]) C.1 C.2.1 dX5_mayCatch_48 hl (k := 2) rfl (by rw [ev_6]; rfl) (by decide) rfl (fun ls hl => ?_)
        refine lv_goto (tgt := 28) C.1 C.2.1 dX5_mayCatch_51 (by decide) ?_
        exact hk_28 _ _ _ _ _ _ k_x0 hkm hW hZ _ (lv_sub hl [1, 2, 0] rfl) hE
      · have hE := br_p hE c_5
        refine lv_iconst (v := (1 : Int32)) C.1 C.2.1 dX5_mayCatch_46 (by decide) ?_
        exact x_iret C rfl (by decide) hW hZ hkm hE dX5_mayCatch_47
set_option maxRecDepth 20000 in
theorem bX5_mayCatch_25 {p : Program} {l : Launch} {e : Env} {s : State} {m : MethodId} {args : Array Value} {below : List Frame} {meth : Method} {c : Code} {X : Ec} {h0 : Hp} {o : Int32 × Hp} {F : Nat} (C : Cx X p s m args meth c RX5 cX5_mayCatch 4 (some .boolean) "mayCatch") {h : Hp} {x0 : Nat} {t0 : Int32} {H : Heap} {locs : List Loc} (k_x0 : hK h x0 = 5) (hkm : Km h0 h) (hW : Wx X h H) (hZ : va_S (aA (eB X)) s.heap H locs) (ls : Array Slot) (hl : lv_has ls 4 [(0, .ref x0)]) (hE : sX5_mayCatch_25 F h x0 t0 = some o) : W p l e (rm 4 139) s m args below meth c H locs 0 0 (MQ below (QI X h0 o.1 o.2) args s 0 0 (aA (eB X))) (F0 m 25 ls [.int t0]) := by
  refine lv_istore_n (lv' := [(2, .int t0), (0, .ref x0)]) C.1 C.2.1 dX5_mayCatch_25 rfl hl (by decide) rfl (fun ls hl => ?_)
  refine lv_iconst (v := (0 : Int32)) C.1 C.2.1 dX5_mayCatch_26 (by decide) ?_
  refine lv_istore_n (lv' := [(3, .int (0 : Int32)), (2, .int t0), (0, .ref x0)]) C.1 C.2.1 dX5_mayCatch_27 rfl hl (by decide) rfl (fun ls hl => ?_)
  exact bX5_mayCatch_28 C F k_x0 hkm hW hZ _ (lv_sub hl [2, 1, 0] rfl) hE
set_option maxRecDepth 20000 in
theorem ct_X5_mayCatch (l : Launch) (X : Ec) (F : Nat) {h : Hp} {x0 : Nat} {x1 : Nat} {o : Int32 × Hp} (k_x0 : hK h x0 = 5) (k_x1 : hK h x1 = 3) (hE : sX5_mayCatch F h x0 x1 = some o) : MetI l yX5_mayCatch cX5_mayCatch 4 (some .boolean) 4 139 X [.ref x0, .ref x1] h o := by
  refine x_met (by decide) (Nat.le_of_ble_eq_true rfl) ?_
  intro p e s m below meth c ls C hl hW hZ
  have hl : lv_has ls 4 [(0, .ref x0), (1, .ref x1)] := hl
  have hkm : Km h h := Km.rf h
  refine lv_aload_n C.1 C.2.1 dX5_mayCatch_0 rfl (lv_at hl 1 rfl) ?_
  refine gf_X5_326 C hW k_x1 dX5_mayCatch_1 ?_
  refine lv_lconst (v := (0 : Int64)) C.1 C.2.1 dX5_mayCatch_4 (by decide) ?_
  refine W.lcmp C.1 C.2.1 dX5_mayCatch_5 ?_
  refine lv_if_ne (tgt := 13) C.1 C.2.1 dX5_mayCatch_6 (by decide) (fun c_1 => ?_) (fun c_1 => ?_)
  · have hE := br_n hE c_1
    refine lv_aload_n C.1 C.2.1 dX5_mayCatch_13 rfl (lv_at hl 0 rfl) ?_
    refine lv_aload_n C.1 C.2.1 dX5_mayCatch_14 rfl (lv_at hl 1 rfl) ?_
    refine lv_aload_n C.1 C.2.1 dX5_mayCatch_15 rfl (lv_at hl 0 rfl) ?_
    obtain ⟨r_2, er_2, hE⟩ := cl_e hE
    refine gf_X5_9 C hW k_x0 er_2 dX5_mayCatch_16 (fun k_r_2 => ?_)
    refine lv_sipush (v := (4096 : Int32)) C.1 C.2.1 dX5_mayCatch_19 (by decide) ?_
    obtain ⟨o_3, eo_3, hE⟩ := cl_e hE
    refine x_kI (o := o_3) (z_runV (As := [.ref x1, .ref r_2, .int (4096 : Int32)]) (rest := []) C (ct_X5_collect l X F k_x0 k_x1 k_r_2 eo_3) cw_X5_306 hW hZ k_x0 (by decide) rfl rfl rfl hl.1 (Nat.le_of_ble_eq_true rfl) rfl dX5_mayCatch_22 ⟨Nat.le_of_ble_eq_true rfl, Nat.le_of_ble_eq_true rfl⟩ ⟨Nat.le_refl _, Nat.le_refl _⟩) hZ (fun _ _ hW km hZ => ?_)
    replace hkm := hkm.tr km
    replace k_x0 := km.at k_x0 (by decide)
    replace k_x1 := km.at k_x1 (by decide)
    exact bX5_mayCatch_25 C k_x0 hkm hW hZ _ (lv_sub hl [0] rfl) hE
  · have hE := br_p hE c_1
    refine lv_iconst (v := (0 : Int32)) C.1 C.2.1 dX5_mayCatch_9 (by decide) ?_
    refine lv_goto (tgt := 25) C.1 C.2.1 dX5_mayCatch_10 (by decide) ?_
    exact bX5_mayCatch_25 C k_x0 hkm hW hZ _ (lv_sub hl [0] rfl) hE
set_option maxRecDepth 100000 in
theorem ms_48 : Cond.selects RX5 yX5_mayCatch yX5_mayCatch ∈ W0 := w0_in (List.mem_append_left _ (List.mem_of_getElem? (i := 48) rfl)) rfl
set_option maxRecDepth 100000 in
theorem m_1133 : Cond.methodLink RX5 342 yX5_mayCatch ∈ W0 := w0_in (List.mem_append_right _ (List.mem_of_getElem? (i := 1133) rfl)) rfl
set_option maxRecDepth 100000 in
theorem m_1135 : Cond.instanceMethod yX5_mayCatch ∈ W0 := w0_in (List.mem_append_right _ (List.mem_of_getElem? (i := 1135) rfl)) rfl
set_option maxRecDepth 100000 in
theorem m_1136 : Cond.code yX5_mayCatch cX5_mayCatch 4 (some .boolean) ∈ W0 := w0_in (List.mem_append_right _ (List.mem_of_getElem? (i := 1136) rfl)) rfl
theorem cw_X5_342 : cwd RX5 342 yX5_mayCatch cX5_mayCatch 4 (some .boolean) false 1 := ⟨m_1136, m_1133, m_7, ⟨m_1135, ms_48⟩, by decide, by decide, by decide +kernel⟩
theorem dX5_areAlike_0 : decode cX5_areAlike 0 = .ok (.aload_n 1, 1) := by decide +kernel
theorem dX5_areAlike_1 : decode cX5_areAlike 1 = .ok (.getfield 78, 3) := by decide +kernel
theorem dX5_areAlike_4 : decode cX5_areAlike 4 = .ok (.aload_n 2, 1) := by decide +kernel
theorem dX5_areAlike_5 : decode cX5_areAlike 5 = .ok (.getfield 78, 3) := by decide +kernel
theorem dX5_areAlike_8 : decode cX5_areAlike 8 = .ok (.if_icmp .ne 15, 3) := by decide +kernel
theorem dX5_areAlike_11 : decode cX5_areAlike 11 = .ok (.aload_n 1, 1) := by decide +kernel
theorem dX5_areAlike_12 : decode cX5_areAlike 12 = .ok (.getfield 93, 3) := by decide +kernel
theorem dX5_areAlike_15 : decode cX5_areAlike 15 = .ok (.aload_n 2, 1) := by decide +kernel
theorem dX5_areAlike_16 : decode cX5_areAlike 16 = .ok (.getfield 93, 3) := by decide +kernel
theorem dX5_areAlike_19 : decode cX5_areAlike 19 = .ok (.lcmp, 1) := by decide +kernel
theorem dX5_areAlike_20 : decode cX5_areAlike 20 = .ok (.ifCond .eq 5, 3) := by decide +kernel
theorem dX5_areAlike_23 : decode cX5_areAlike 23 = .ok (.iconst 0, 1) := by decide +kernel
theorem dX5_areAlike_24 : decode cX5_areAlike 24 = .ok (.ireturn, 1) := by decide +kernel
theorem dX5_areAlike_25 : decode cX5_areAlike 25 = .ok (.iconst 0, 1) := by decide +kernel
theorem dX5_areAlike_26 : decode cX5_areAlike 26 = .ok (.istore_n 3, 1) := by decide +kernel
theorem dX5_areAlike_27 : decode cX5_areAlike 27 = .ok (.iload_n 3, 1) := by decide +kernel
theorem dX5_areAlike_28 : decode cX5_areAlike 28 = .ok (.iconst 2, 1) := by decide +kernel
theorem dX5_areAlike_29 : decode cX5_areAlike 29 = .ok (.if_icmp .ge 58, 3) := by decide +kernel
theorem dX5_areAlike_32 : decode cX5_areAlike 32 = .ok (.aload_n 1, 1) := by decide +kernel
theorem dX5_areAlike_33 : decode cX5_areAlike 33 = .ok (.getfield 33, 3) := by decide +kernel
theorem dX5_areAlike_36 : decode cX5_areAlike 36 = .ok (.iload_n 3, 1) := by decide +kernel
theorem dX5_areAlike_37 : decode cX5_areAlike 37 = .ok (.laload, 1) := by decide +kernel
theorem dX5_areAlike_38 : decode cX5_areAlike 38 = .ok (.aload_n 2, 1) := by decide +kernel
theorem dX5_areAlike_39 : decode cX5_areAlike 39 = .ok (.getfield 33, 3) := by decide +kernel
theorem dX5_areAlike_42 : decode cX5_areAlike 42 = .ok (.iload_n 3, 1) := by decide +kernel
theorem dX5_areAlike_43 : decode cX5_areAlike 43 = .ok (.laload, 1) := by decide +kernel
theorem dX5_areAlike_44 : decode cX5_areAlike 44 = .ok (.lcmp, 1) := by decide +kernel
theorem dX5_areAlike_45 : decode cX5_areAlike 45 = .ok (.ifCond .ne 34, 3) := by decide +kernel
theorem dX5_areAlike_48 : decode cX5_areAlike 48 = .ok (.aload_n 1, 1) := by decide +kernel
theorem dX5_areAlike_49 : decode cX5_areAlike 49 = .ok (.getfield 303, 3) := by decide +kernel
theorem dX5_areAlike_52 : decode cX5_areAlike 52 = .ok (.iload_n 3, 1) := by decide +kernel
theorem dX5_areAlike_53 : decode cX5_areAlike 53 = .ok (.laload, 1) := by decide +kernel
theorem dX5_areAlike_54 : decode cX5_areAlike 54 = .ok (.aload_n 2, 1) := by decide +kernel
theorem dX5_areAlike_55 : decode cX5_areAlike 55 = .ok (.getfield 303, 3) := by decide +kernel
theorem dX5_areAlike_58 : decode cX5_areAlike 58 = .ok (.iload_n 3, 1) := by decide +kernel
theorem dX5_areAlike_59 : decode cX5_areAlike 59 = .ok (.laload, 1) := by decide +kernel
theorem dX5_areAlike_60 : decode cX5_areAlike 60 = .ok (.lcmp, 1) := by decide +kernel
theorem dX5_areAlike_61 : decode cX5_areAlike 61 = .ok (.ifCond .ne 18, 3) := by decide +kernel
theorem dX5_areAlike_64 : decode cX5_areAlike 64 = .ok (.aload_n 1, 1) := by decide +kernel
theorem dX5_areAlike_65 : decode cX5_areAlike 65 = .ok (.getfield 283, 3) := by decide +kernel
theorem dX5_areAlike_68 : decode cX5_areAlike 68 = .ok (.iload_n 3, 1) := by decide +kernel
theorem dX5_areAlike_69 : decode cX5_areAlike 69 = .ok (.iaload, 1) := by decide +kernel
theorem dX5_areAlike_70 : decode cX5_areAlike 70 = .ok (.aload_n 2, 1) := by decide +kernel
theorem dX5_areAlike_71 : decode cX5_areAlike 71 = .ok (.getfield 283, 3) := by decide +kernel
theorem dX5_areAlike_74 : decode cX5_areAlike 74 = .ok (.iload_n 3, 1) := by decide +kernel
theorem dX5_areAlike_75 : decode cX5_areAlike 75 = .ok (.iaload, 1) := by decide +kernel
theorem dX5_areAlike_76 : decode cX5_areAlike 76 = .ok (.if_icmp .eq 5, 3) := by decide +kernel
theorem dX5_areAlike_79 : decode cX5_areAlike 79 = .ok (.iconst 0, 1) := by decide +kernel
theorem dX5_areAlike_80 : decode cX5_areAlike 80 = .ok (.ireturn, 1) := by decide +kernel
theorem dX5_areAlike_81 : decode cX5_areAlike 81 = .ok (.iinc 3 1, 3) := by decide +kernel
theorem dX5_areAlike_84 : decode cX5_areAlike 84 = .ok (.goto (-57), 3) := by decide +kernel
theorem dX5_areAlike_87 : decode cX5_areAlike 87 = .ok (.iconst 0, 1) := by decide +kernel
theorem dX5_areAlike_88 : decode cX5_areAlike 88 = .ok (.istore_n 3, 1) := by decide +kernel
theorem dX5_areAlike_89 : decode cX5_areAlike 89 = .ok (.iload_n 3, 1) := by decide +kernel
theorem dX5_areAlike_90 : decode cX5_areAlike 90 = .ok (.aload_n 0, 1) := by decide +kernel
theorem dX5_areAlike_91 : decode cX5_areAlike 91 = .ok (.getfield 22, 3) := by decide +kernel
theorem dX5_areAlike_94 : decode cX5_areAlike 94 = .ok (.getfield 110, 3) := by decide +kernel
theorem dX5_areAlike_97 : decode cX5_areAlike 97 = .ok (.if_icmp .ge 26, 3) := by decide +kernel
theorem dX5_areAlike_100 : decode cX5_areAlike 100 = .ok (.aload_n 1, 1) := by decide +kernel
theorem dX5_areAlike_101 : decode cX5_areAlike 101 = .ok (.getfield 42, 3) := by decide +kernel
theorem dX5_areAlike_104 : decode cX5_areAlike 104 = .ok (.iload_n 3, 1) := by decide +kernel
theorem dX5_areAlike_105 : decode cX5_areAlike 105 = .ok (.baload, 1) := by decide +kernel
theorem dX5_areAlike_106 : decode cX5_areAlike 106 = .ok (.aload_n 2, 1) := by decide +kernel
theorem dX5_areAlike_107 : decode cX5_areAlike 107 = .ok (.getfield 42, 3) := by decide +kernel
theorem dX5_areAlike_110 : decode cX5_areAlike 110 = .ok (.iload_n 3, 1) := by decide +kernel
theorem dX5_areAlike_111 : decode cX5_areAlike 111 = .ok (.baload, 1) := by decide +kernel
theorem dX5_areAlike_112 : decode cX5_areAlike 112 = .ok (.if_icmp .eq 5, 3) := by decide +kernel
theorem dX5_areAlike_115 : decode cX5_areAlike 115 = .ok (.iconst 0, 1) := by decide +kernel
theorem dX5_areAlike_116 : decode cX5_areAlike 116 = .ok (.ireturn, 1) := by decide +kernel
theorem dX5_areAlike_117 : decode cX5_areAlike 117 = .ok (.iinc 3 1, 3) := by decide +kernel
theorem dX5_areAlike_120 : decode cX5_areAlike 120 = .ok (.goto (-31), 3) := by decide +kernel
theorem dX5_areAlike_123 : decode cX5_areAlike 123 = .ok (.aload_n 1, 1) := by decide +kernel
theorem dX5_areAlike_124 : decode cX5_areAlike 124 = .ok (.getfield 326, 3) := by decide +kernel
theorem dX5_areAlike_127 : decode cX5_areAlike 127 = .ok (.aload_n 2, 1) := by decide +kernel
theorem dX5_areAlike_128 : decode cX5_areAlike 128 = .ok (.getfield 326, 3) := by decide +kernel
theorem dX5_areAlike_131 : decode cX5_areAlike 131 = .ok (.lcmp, 1) := by decide +kernel
theorem dX5_areAlike_132 : decode cX5_areAlike 132 = .ok (.ifCond .eq 19, 3) := by decide +kernel
theorem dX5_areAlike_135 : decode cX5_areAlike 135 = .ok (.aload_n 0, 1) := by decide +kernel
theorem dX5_areAlike_136 : decode cX5_areAlike 136 = .ok (.aload_n 1, 1) := by decide +kernel
theorem dX5_areAlike_137 : decode cX5_areAlike 137 = .ok (.invokevirtual 342, 3) := by decide +kernel
theorem dX5_areAlike_140 : decode cX5_areAlike 140 = .ok (.ifCond .ne 15, 3) := by decide +kernel
theorem dX5_areAlike_143 : decode cX5_areAlike 143 = .ok (.aload_n 0, 1) := by decide +kernel
theorem dX5_areAlike_144 : decode cX5_areAlike 144 = .ok (.aload_n 2, 1) := by decide +kernel
theorem dX5_areAlike_145 : decode cX5_areAlike 145 = .ok (.invokevirtual 342, 3) := by decide +kernel
theorem dX5_areAlike_148 : decode cX5_areAlike 148 = .ok (.ifCond .ne 7, 3) := by decide +kernel
theorem dX5_areAlike_151 : decode cX5_areAlike 151 = .ok (.iconst 1, 1) := by decide +kernel
theorem dX5_areAlike_152 : decode cX5_areAlike 152 = .ok (.goto 4, 3) := by decide +kernel
theorem dX5_areAlike_155 : decode cX5_areAlike 155 = .ok (.iconst 0, 1) := by decide +kernel
theorem dX5_areAlike_156 : decode cX5_areAlike 156 = .ok (.ireturn, 1) := by decide +kernel
def sX5_areAlike_23 (F : Nat) (h : Hp) : Option (Int32 × Hp) := some ((0 : Int32), h)
def sX5_areAlike_156 (F : Nat) (h : Hp) (t0 : Int32) : Option (Int32 × Hp) := gd (t0 &&& 1 = t0) <| some (t0, h)
def sX5_areAlike_151 (F : Nat) (h : Hp) : Option (Int32 × Hp) := sX5_areAlike_156 F h (1 : Int32)
def sX5_areAlike_155 (F : Nat) (h : Hp) : Option (Int32 × Hp) := sX5_areAlike_156 F h (0 : Int32)
def sX5_areAlike_89 (F : Nat) : Nat → Hp → Nat → Nat → Nat → Int32 → Option (Int32 × Hp)
  | 0, _, _, _, _, _ => none
  | f + 1, h, x0, x1, x2, x3 => cl (hR h x0 0) fun r_1 => br ((hI h r_1 2) ≤ x3) (br ((lg_cmp (hJ h x1 9) (hJ h x2 9)) = 0) (sX5_areAlike_151 F h ) (cl (sX5_mayCatch F h x0 x1) fun o_4 => br (o_4.1 = 0) (cl (sX5_mayCatch F o_4.2 x0 x2) fun o_6 => br (o_6.1 = 0) (sX5_areAlike_151 F o_6.2 ) (sX5_areAlike_155 F o_6.2 )) (sX5_areAlike_155 F o_4.2 ))) (cl (hR h x1 0) fun r_8 => gd (inB x3 (hN h r_8)) <| cl (hR h x2 0) fun r_10 => gd (inB x3 (hN h r_10)) <| br ((hI h r_8 x3.toNatClampNeg) = (hI h r_10 x3.toNatClampNeg)) (nm (x3 + (1 : Int32)) fun v_13 => sX5_areAlike_89 F f h x0 x1 x2 v_13) (some ((0 : Int32), h)))
def sX5_areAlike_79 (F : Nat) (h : Hp) : Option (Int32 × Hp) := some ((0 : Int32), h)
def sX5_areAlike_27 (F : Nat) : Nat → Hp → Nat → Nat → Nat → Int32 → Option (Int32 × Hp)
  | 0, _, _, _, _, _ => none
  | f + 1, h, x0, x1, x2, x3 => br ((2 : Int32) ≤ x3) (sX5_areAlike_89 F F h x0 x1 x2 (0 : Int32)) (cl (hR h x1 1) fun r_2 => gd (inB x3 (hN h r_2)) <| cl (hR h x2 1) fun r_4 => gd (inB x3 (hN h r_4)) <| br ((lg_cmp (hJ h r_2 x3.toNatClampNeg) (hJ h r_4 x3.toNatClampNeg)) = 0) (cl (hR h x1 3) fun r_7 => gd (inB x3 (hN h r_7)) <| cl (hR h x2 3) fun r_9 => gd (inB x3 (hN h r_9)) <| br ((lg_cmp (hJ h r_7 x3.toNatClampNeg) (hJ h r_9 x3.toNatClampNeg)) = 0) (cl (hR h x1 4) fun r_12 => gd (inB x3 (hN h r_12)) <| cl (hR h x2 4) fun r_14 => gd (inB x3 (hN h r_14)) <| br ((hI h r_12 x3.toNatClampNeg) = (hI h r_14 x3.toNatClampNeg)) (nm (x3 + (1 : Int32)) fun v_17 => sX5_areAlike_27 F f h x0 x1 x2 v_17) (sX5_areAlike_79 F h )) (sX5_areAlike_79 F h )) (sX5_areAlike_79 F h ))
def sX5_areAlike (F : Nat) (h : Hp) (x0 : Nat) (x1 : Nat) (x2 : Nat) : Option (Int32 × Hp) := br ((hI h x1 5) = (hI h x2 5)) (br ((lg_cmp (hJ h x1 8) (hJ h x2 8)) = 0) (sX5_areAlike_27 F F h x0 x1 x2 (0 : Int32)) (sX5_areAlike_23 F h )) (sX5_areAlike_23 F h )
set_option maxRecDepth 20000 in
theorem moX5_areAlike_23 {o : Int32 × Hp} {F : Nat} {h : Hp} (hE : sX5_areAlike_23 F h  = some o) : Le h o.2 := by
  exact le_some2 hE
set_option maxRecDepth 20000 in
theorem moX5_areAlike_156 {o : Int32 × Hp} {F : Nat} {h : Hp} {t0 : Int32} (hE : sX5_areAlike_156 F h  t0 = some o) : Le h o.2 := by
  obtain ⟨g_1, hE⟩ := gd_e hE
  exact le_some2 hE
set_option maxRecDepth 20000 in
theorem moX5_areAlike_151 {o : Int32 × Hp} {F : Nat} {h : Hp} (hE : sX5_areAlike_151 F h  = some o) : Le h o.2 := by
  exact moX5_areAlike_156 hE
set_option maxRecDepth 20000 in
theorem moX5_areAlike_155 {o : Int32 × Hp} {F : Nat} {h : Hp} (hE : sX5_areAlike_155 F h  = some o) : Le h o.2 := by
  exact moX5_areAlike_156 hE
set_option maxRecDepth 20000 in
theorem moX5_areAlike_89 {o : Int32 × Hp} {F : Nat} : ∀ (f : Nat) {h : Hp} {x0 : Nat} {x1 : Nat} {x2 : Nat} {x3 : Int32}, sX5_areAlike_89 F f h x0 x1 x2 x3 = some o → Le h o.2 := by
  intro f
  induction f with
  | zero =>
    intro h x0 x1 x2 x3 hE
    rw [sX5_areAlike_89] at hE
    cases hE
  | succ f ih =>
    intro h x0 x1 x2 x3 hE
    rw [sX5_areAlike_89] at hE
    have mk_89 : ∀ (h : Hp) (x0 : Nat) (x1 : Nat) (x2 : Nat) (x3 : Int32), sX5_areAlike_89 F f h x0 x1 x2 x3 = some o → Le h o.2 := fun h x0 x1 x2 x3 hE => ih hE
    obtain ⟨r_1, er_1, hE⟩ := cl_e hE
    rcases br_e hE with ⟨_, hE⟩ | ⟨_, hE⟩
    · rcases br_e hE with ⟨_, hE⟩ | ⟨_, hE⟩
      · exact moX5_areAlike_151 hE
      · obtain ⟨o_4, eo_4, hE⟩ := cl_e hE
        refine (moX5_mayCatch eo_4).tr ?_
        rcases br_e hE with ⟨_, hE⟩ | ⟨_, hE⟩
        · obtain ⟨o_6, eo_6, hE⟩ := cl_e hE
          refine (moX5_mayCatch eo_6).tr ?_
          rcases br_e hE with ⟨_, hE⟩ | ⟨_, hE⟩
          · exact moX5_areAlike_151 hE
          · exact moX5_areAlike_155 hE
        · exact moX5_areAlike_155 hE
    · obtain ⟨r_8, er_8, hE⟩ := cl_e hE
      obtain ⟨g_9, hE⟩ := gd_e hE
      obtain ⟨r_10, er_10, hE⟩ := cl_e hE
      obtain ⟨g_11, hE⟩ := gd_e hE
      rcases br_e hE with ⟨_, hE⟩ | ⟨_, hE⟩
      · obtain ⟨v_13, ev_13, hE⟩ := nm_e2 hE
        exact mk_89 _ _ _ _ _ hE
      · exact le_some2 hE
set_option maxRecDepth 20000 in
theorem moX5_areAlike_79 {o : Int32 × Hp} {F : Nat} {h : Hp} (hE : sX5_areAlike_79 F h  = some o) : Le h o.2 := by
  exact le_some2 hE
set_option maxRecDepth 20000 in
theorem moX5_areAlike_27 {o : Int32 × Hp} {F : Nat} : ∀ (f : Nat) {h : Hp} {x0 : Nat} {x1 : Nat} {x2 : Nat} {x3 : Int32}, sX5_areAlike_27 F f h x0 x1 x2 x3 = some o → Le h o.2 := by
  intro f
  induction f with
  | zero =>
    intro h x0 x1 x2 x3 hE
    rw [sX5_areAlike_27] at hE
    cases hE
  | succ f ih =>
    intro h x0 x1 x2 x3 hE
    rw [sX5_areAlike_27] at hE
    have mk_27 : ∀ (h : Hp) (x0 : Nat) (x1 : Nat) (x2 : Nat) (x3 : Int32), sX5_areAlike_27 F f h x0 x1 x2 x3 = some o → Le h o.2 := fun h x0 x1 x2 x3 hE => ih hE
    rcases br_e hE with ⟨_, hE⟩ | ⟨_, hE⟩
    · exact moX5_areAlike_89 _ hE
    · obtain ⟨r_2, er_2, hE⟩ := cl_e hE
      obtain ⟨g_3, hE⟩ := gd_e hE
      obtain ⟨r_4, er_4, hE⟩ := cl_e hE
      obtain ⟨g_5, hE⟩ := gd_e hE
      rcases br_e hE with ⟨_, hE⟩ | ⟨_, hE⟩
      · obtain ⟨r_7, er_7, hE⟩ := cl_e hE
        obtain ⟨g_8, hE⟩ := gd_e hE
        obtain ⟨r_9, er_9, hE⟩ := cl_e hE
        obtain ⟨g_10, hE⟩ := gd_e hE
        rcases br_e hE with ⟨_, hE⟩ | ⟨_, hE⟩
        · obtain ⟨r_12, er_12, hE⟩ := cl_e hE
          obtain ⟨g_13, hE⟩ := gd_e hE
          obtain ⟨r_14, er_14, hE⟩ := cl_e hE
          obtain ⟨g_15, hE⟩ := gd_e hE
          rcases br_e hE with ⟨_, hE⟩ | ⟨_, hE⟩
          · obtain ⟨v_17, ev_17, hE⟩ := nm_e2 hE
            exact mk_27 _ _ _ _ _ hE
          · exact moX5_areAlike_79 hE
        · exact moX5_areAlike_79 hE
      · exact moX5_areAlike_79 hE
set_option maxRecDepth 20000 in
theorem moX5_areAlike {o : Int32 × Hp} {F : Nat} {h : Hp} {x0 : Nat} {x1 : Nat} {x2 : Nat} (hE : sX5_areAlike F h x0 x1 x2 = some o) : Le h o.2 := by
  rcases br_e hE with ⟨_, hE⟩ | ⟨_, hE⟩
  · rcases br_e hE with ⟨_, hE⟩ | ⟨_, hE⟩
    · exact moX5_areAlike_27 _ hE
    · exact moX5_areAlike_23 hE
  · exact moX5_areAlike_23 hE
set_option maxRecDepth 20000 in
theorem bX5_areAlike_23 {p : Program} {l : Launch} {e : Env} {s : State} {m : MethodId} {args : Array Value} {below : List Frame} {meth : Method} {c : Code} {X : Ec} {h0 : Hp} {o : Int32 × Hp} {F : Nat} (C : Cx X p s m args meth c RX5 cX5_areAlike 4 (some .boolean) "areAlike") {h : Hp} {H : Heap} {locs : List Loc} (hkm : Km h0 h) (hW : Wx X h H) (hZ : va_S (aA (eB X)) s.heap H locs) (ls : Array Slot) (hl : lv_has ls 4 []) (hE : sX5_areAlike_23 F h  = some o) : W p l e (rm 5 162) s m args below meth c H locs 0 0 (MQ below (QI X h0 o.1 o.2) args s 0 0 (aA (eB X))) (F0 m 23 ls []) := by
  refine lv_iconst (v := (0 : Int32)) C.1 C.2.1 dX5_areAlike_23 (by decide) ?_
  exact x_iret C rfl (by decide) hW hZ hkm hE dX5_areAlike_24
set_option maxRecDepth 20000 in
theorem bX5_areAlike_156 {p : Program} {l : Launch} {e : Env} {s : State} {m : MethodId} {args : Array Value} {below : List Frame} {meth : Method} {c : Code} {X : Ec} {h0 : Hp} {o : Int32 × Hp} {F : Nat} (C : Cx X p s m args meth c RX5 cX5_areAlike 4 (some .boolean) "areAlike") {h : Hp} {t0 : Int32} {H : Heap} {locs : List Loc} (hkm : Km h0 h) (hW : Wx X h H) (hZ : va_S (aA (eB X)) s.heap H locs) (ls : Array Slot) (hl : lv_has ls 4 []) (hE : sX5_areAlike_156 F h  t0 = some o) : W p l e (rm 5 162) s m args below meth c H locs 0 0 (MQ below (QI X h0 o.1 o.2) args s 0 0 (aA (eB X))) (F0 m 156 ls [.int t0]) := by
  obtain ⟨g_1, hE⟩ := gd_e hE
  exact x_iret C rfl (narB g_1) hW hZ hkm hE dX5_areAlike_156
set_option maxRecDepth 20000 in
theorem bX5_areAlike_151 {p : Program} {l : Launch} {e : Env} {s : State} {m : MethodId} {args : Array Value} {below : List Frame} {meth : Method} {c : Code} {X : Ec} {h0 : Hp} {o : Int32 × Hp} {F : Nat} (C : Cx X p s m args meth c RX5 cX5_areAlike 4 (some .boolean) "areAlike") {h : Hp} {H : Heap} {locs : List Loc} (hkm : Km h0 h) (hW : Wx X h H) (hZ : va_S (aA (eB X)) s.heap H locs) (ls : Array Slot) (hl : lv_has ls 4 []) (hE : sX5_areAlike_151 F h  = some o) : W p l e (rm 5 162) s m args below meth c H locs 0 0 (MQ below (QI X h0 o.1 o.2) args s 0 0 (aA (eB X))) (F0 m 151 ls []) := by
  refine lv_iconst (v := (1 : Int32)) C.1 C.2.1 dX5_areAlike_151 (by decide) ?_
  refine lv_goto (tgt := 156) C.1 C.2.1 dX5_areAlike_152 (by decide) ?_
  exact bX5_areAlike_156 C hkm hW hZ _ (lv_sub hl [] rfl) hE
set_option maxRecDepth 20000 in
theorem bX5_areAlike_155 {p : Program} {l : Launch} {e : Env} {s : State} {m : MethodId} {args : Array Value} {below : List Frame} {meth : Method} {c : Code} {X : Ec} {h0 : Hp} {o : Int32 × Hp} {F : Nat} (C : Cx X p s m args meth c RX5 cX5_areAlike 4 (some .boolean) "areAlike") {h : Hp} {H : Heap} {locs : List Loc} (hkm : Km h0 h) (hW : Wx X h H) (hZ : va_S (aA (eB X)) s.heap H locs) (ls : Array Slot) (hl : lv_has ls 4 []) (hE : sX5_areAlike_155 F h  = some o) : W p l e (rm 5 162) s m args below meth c H locs 0 0 (MQ below (QI X h0 o.1 o.2) args s 0 0 (aA (eB X))) (F0 m 155 ls []) := by
  refine lv_iconst (v := (0 : Int32)) C.1 C.2.1 dX5_areAlike_155 (by decide) ?_
  exact bX5_areAlike_156 C hkm hW hZ _ (lv_sub hl [] rfl) hE
set_option maxRecDepth 20000 in
theorem bX5_areAlike_89 {p : Program} {l : Launch} {e : Env} {s : State} {m : MethodId} {args : Array Value} {below : List Frame} {meth : Method} {c : Code} {X : Ec} {h0 : Hp} {o : Int32 × Hp} {F : Nat} (C : Cx X p s m args meth c RX5 cX5_areAlike 4 (some .boolean) "areAlike") : ∀ (f : Nat) {h : Hp} {x0 : Nat} {x1 : Nat} {x2 : Nat} {x3 : Int32} {H : Heap} {locs : List Loc} (k_x0 : hK h x0 = 5) (k_x1 : hK h x1 = 3) (k_x2 : hK h x2 = 3), Km h0 h → Wx X h H → va_S (aA (eB X)) s.heap H locs → ∀ (ls : Array Slot), lv_has ls 4 [(0, .ref x0), (1, .ref x1), (2, .ref x2), (3, .int x3)] → sX5_areAlike_89 F f h x0 x1 x2 x3 = some o → W p l e (rm 5 162) s m args below meth c H locs 0 0 (MQ below (QI X h0 o.1 o.2) args s 0 0 (aA (eB X))) (F0 m 89 ls []) := by
  intro f
  induction f with
  | zero =>
    intro h x0 x1 x2 x3 H locs k_x0 k_x1 k_x2 hkm hW hZ ls hl hE
    rw [sX5_areAlike_89] at hE
    cases hE
  | succ f ih =>
    intro h x0 x1 x2 x3 H locs k_x0 k_x1 k_x2 hkm hW hZ ls hl hE
    rw [sX5_areAlike_89] at hE
    have hk_89 : ∀ (h : Hp) (x0 : Nat) (x1 : Nat) (x2 : Nat) (x3 : Int32) (H : Heap) (locs : List Loc), hK h x0 = 5 → hK h x1 = 3 → hK h x2 = 3 → Km h0 h → Wx X h H → va_S (aA (eB X)) s.heap H locs → ∀ (ls : Array Slot), lv_has ls 4 [(0, .ref x0), (1, .ref x1), (2, .ref x2), (3, .int x3)] → sX5_areAlike_89 F f h x0 x1 x2 x3 = some o → W p l e (rm 5 162) s m args below meth c H locs 0 0 (MQ below (QI X h0 o.1 o.2) args s 0 0 (aA (eB X))) (F0 m 89 ls []) := fun h x0 x1 x2 x3 H locs k_x0 k_x1 k_x2 a b c ls hl hE => ih k_x0 k_x1 k_x2 a b c ls hl hE
    refine lv_iload_n C.1 C.2.1 dX5_areAlike_89 rfl (lv_at hl 3 rfl) ?_
    refine lv_aload_n C.1 C.2.1 dX5_areAlike_90 rfl (lv_at hl 0 rfl) ?_
    obtain ⟨r_1, er_1, hE⟩ := cl_e hE
    refine gf_X5_22 C hW k_x0 er_1 dX5_areAlike_91 (fun k_r_1 => ?_)
    refine gf_X5_110 C hW k_r_1 dX5_areAlike_94 ?_
    refine lv_icmp_ge (tgt := 123) C.1 C.2.1 dX5_areAlike_97 (by decide) (fun c_2 => ?_) (fun c_2 => ?_)
    · have hE := br_p hE c_2
      refine lv_aload_n C.1 C.2.1 dX5_areAlike_123 rfl (lv_at hl 1 rfl) ?_
      refine gf_X5_326 C hW k_x1 dX5_areAlike_124 ?_
      refine lv_aload_n C.1 C.2.1 dX5_areAlike_127 rfl (lv_at hl 2 rfl) ?_
      refine gf_X5_326 C hW k_x2 dX5_areAlike_128 ?_
      refine W.lcmp C.1 C.2.1 dX5_areAlike_131 ?_
      refine lv_if_eq (tgt := 151) C.1 C.2.1 dX5_areAlike_132 (by decide) (fun c_3 => ?_) (fun c_3 => ?_)
      · have hE := br_p hE c_3
        exact bX5_areAlike_151 C hkm hW hZ _ (lv_sub hl [] rfl) hE
      · have hE := br_n hE c_3
        refine lv_aload_n C.1 C.2.1 dX5_areAlike_135 rfl (lv_at hl 0 rfl) ?_
        refine lv_aload_n C.1 C.2.1 dX5_areAlike_136 rfl (lv_at hl 1 rfl) ?_
        obtain ⟨o_4, eo_4, hE⟩ := cl_e hE
        refine x_kI (o := o_4) (z_runV (As := [.ref x1]) (rest := []) C (ct_X5_mayCatch l X F k_x0 k_x1 eo_4) cw_X5_342 hW hZ k_x0 (by decide) rfl rfl rfl hl.1 (Nat.le_of_ble_eq_true rfl) rfl dX5_areAlike_137 ⟨Nat.le_of_ble_eq_true rfl, Nat.le_of_ble_eq_true rfl⟩ ⟨Nat.le_refl _, Nat.le_refl _⟩) hZ (fun _ _ hW km hZ => ?_)
        replace hkm := hkm.tr km
        replace k_x0 := km.at k_x0 (by decide)
        replace k_x1 := km.at k_x1 (by decide)
        replace k_x2 := km.at k_x2 (by decide)
        refine lv_if_ne (tgt := 155) C.1 C.2.1 dX5_areAlike_140 (by decide) (fun c_5 => ?_) (fun c_5 => ?_)
        · have hE := br_n hE c_5
          exact bX5_areAlike_155 C hkm hW hZ _ (lv_sub hl [] rfl) hE
        · have hE := br_p hE c_5
          refine lv_aload_n C.1 C.2.1 dX5_areAlike_143 rfl (lv_at hl 0 rfl) ?_
          refine lv_aload_n C.1 C.2.1 dX5_areAlike_144 rfl (lv_at hl 2 rfl) ?_
          obtain ⟨o_6, eo_6, hE⟩ := cl_e hE
          refine x_kI (o := o_6) (z_runV (As := [.ref x2]) (rest := []) C (ct_X5_mayCatch l X F k_x0 k_x2 eo_6) cw_X5_342 hW hZ k_x0 (by decide) rfl rfl rfl hl.1 (Nat.le_of_ble_eq_true rfl) rfl dX5_areAlike_145 ⟨Nat.le_of_ble_eq_true rfl, Nat.le_of_ble_eq_true rfl⟩ ⟨Nat.le_refl _, Nat.le_refl _⟩) hZ (fun _ _ hW km hZ => ?_)
          replace hkm := hkm.tr km
          replace k_x0 := km.at k_x0 (by decide)
          replace k_x1 := km.at k_x1 (by decide)
          replace k_x2 := km.at k_x2 (by decide)
          refine lv_if_ne (tgt := 155) C.1 C.2.1 dX5_areAlike_148 (by decide) (fun c_7 => ?_) (fun c_7 => ?_)
          · have hE := br_n hE c_7
            exact bX5_areAlike_155 C hkm hW hZ _ (lv_sub hl [] rfl) hE
          · have hE := br_p hE c_7
            exact bX5_areAlike_151 C hkm hW hZ _ (lv_sub hl [] rfl) hE
    · have hE := br_n hE c_2
      refine lv_aload_n C.1 C.2.1 dX5_areAlike_100 rfl (lv_at hl 1 rfl) ?_
      obtain ⟨r_8, er_8, hE⟩ := cl_e hE
      refine gf_X5_42 C hW k_x1 er_8 dX5_areAlike_101 (fun k_r_8 => ?_)
      refine lv_iload_n C.1 C.2.1 dX5_areAlike_104 rfl (lv_at hl 3 rfl) ?_
      obtain ⟨g_9, hE⟩ := gd_e hE
      refine y_bald C hW k_r_8 g_9 dX5_areAlike_105 ?_
      refine lv_aload_n C.1 C.2.1 dX5_areAlike_106 rfl (lv_at hl 2 rfl) ?_
      obtain ⟨r_10, er_10, hE⟩ := cl_e hE
      refine gf_X5_42 C hW k_x2 er_10 dX5_areAlike_107 (fun k_r_10 => ?_)
      refine lv_iload_n C.1 C.2.1 dX5_areAlike_110 rfl (lv_at hl 3 rfl) ?_
      obtain ⟨g_11, hE⟩ := gd_e hE
      refine y_bald C hW k_r_10 g_11 dX5_areAlike_111 ?_
      refine lv_icmp_eq (tgt := 117) C.1 C.2.1 dX5_areAlike_112 (by decide) (fun c_12 => ?_) (fun c_12 => ?_)
      · have hE := br_p hE c_12
        obtain ⟨v_13, ev_13, hE⟩ := nm_e2 hE
        refine lv_iinc (v := v_13) (lv' := [(3, .int v_13), (0, .ref x0), (1, .ref x1), (2, .ref x2)]) C.1 C.2.1 dX5_areAlike_117 hl (k := 3) rfl (by rw [ev_13]; rfl) (by decide) rfl (fun ls hl => ?_)
        refine lv_goto (tgt := 89) C.1 C.2.1 dX5_areAlike_120 (by decide) ?_
        exact hk_89 _ _ _ _ _ _ _ k_x0 k_x1 k_x2 hkm hW hZ _ (lv_sub hl [1, 2, 3, 0] rfl) hE
      · have hE := br_n hE c_12
        refine lv_iconst (v := (0 : Int32)) C.1 C.2.1 dX5_areAlike_115 (by decide) ?_
        exact x_iret C rfl (by decide) hW hZ hkm hE dX5_areAlike_116
set_option maxRecDepth 20000 in
theorem bX5_areAlike_79 {p : Program} {l : Launch} {e : Env} {s : State} {m : MethodId} {args : Array Value} {below : List Frame} {meth : Method} {c : Code} {X : Ec} {h0 : Hp} {o : Int32 × Hp} {F : Nat} (C : Cx X p s m args meth c RX5 cX5_areAlike 4 (some .boolean) "areAlike") {h : Hp} {H : Heap} {locs : List Loc} (hkm : Km h0 h) (hW : Wx X h H) (hZ : va_S (aA (eB X)) s.heap H locs) (ls : Array Slot) (hl : lv_has ls 4 []) (hE : sX5_areAlike_79 F h  = some o) : W p l e (rm 5 162) s m args below meth c H locs 0 0 (MQ below (QI X h0 o.1 o.2) args s 0 0 (aA (eB X))) (F0 m 79 ls []) := by
  refine lv_iconst (v := (0 : Int32)) C.1 C.2.1 dX5_areAlike_79 (by decide) ?_
  exact x_iret C rfl (by decide) hW hZ hkm hE dX5_areAlike_80
set_option maxRecDepth 20000 in
theorem bX5_areAlike_27 {p : Program} {l : Launch} {e : Env} {s : State} {m : MethodId} {args : Array Value} {below : List Frame} {meth : Method} {c : Code} {X : Ec} {h0 : Hp} {o : Int32 × Hp} {F : Nat} (C : Cx X p s m args meth c RX5 cX5_areAlike 4 (some .boolean) "areAlike") : ∀ (f : Nat) {h : Hp} {x0 : Nat} {x1 : Nat} {x2 : Nat} {x3 : Int32} {H : Heap} {locs : List Loc} (k_x0 : hK h x0 = 5) (k_x1 : hK h x1 = 3) (k_x2 : hK h x2 = 3), Km h0 h → Wx X h H → va_S (aA (eB X)) s.heap H locs → ∀ (ls : Array Slot), lv_has ls 4 [(0, .ref x0), (1, .ref x1), (2, .ref x2), (3, .int x3)] → sX5_areAlike_27 F f h x0 x1 x2 x3 = some o → W p l e (rm 5 162) s m args below meth c H locs 0 0 (MQ below (QI X h0 o.1 o.2) args s 0 0 (aA (eB X))) (F0 m 27 ls []) := by
  intro f
  induction f with
  | zero =>
    intro h x0 x1 x2 x3 H locs k_x0 k_x1 k_x2 hkm hW hZ ls hl hE
    rw [sX5_areAlike_27] at hE
    cases hE
  | succ f ih =>
    intro h x0 x1 x2 x3 H locs k_x0 k_x1 k_x2 hkm hW hZ ls hl hE
    rw [sX5_areAlike_27] at hE
    have hk_27 : ∀ (h : Hp) (x0 : Nat) (x1 : Nat) (x2 : Nat) (x3 : Int32) (H : Heap) (locs : List Loc), hK h x0 = 5 → hK h x1 = 3 → hK h x2 = 3 → Km h0 h → Wx X h H → va_S (aA (eB X)) s.heap H locs → ∀ (ls : Array Slot), lv_has ls 4 [(0, .ref x0), (1, .ref x1), (2, .ref x2), (3, .int x3)] → sX5_areAlike_27 F f h x0 x1 x2 x3 = some o → W p l e (rm 5 162) s m args below meth c H locs 0 0 (MQ below (QI X h0 o.1 o.2) args s 0 0 (aA (eB X))) (F0 m 27 ls []) := fun h x0 x1 x2 x3 H locs k_x0 k_x1 k_x2 a b c ls hl hE => ih k_x0 k_x1 k_x2 a b c ls hl hE
    refine lv_iload_n C.1 C.2.1 dX5_areAlike_27 rfl (lv_at hl 3 rfl) ?_
    refine lv_iconst (v := (2 : Int32)) C.1 C.2.1 dX5_areAlike_28 (by decide) ?_
    refine lv_icmp_ge (tgt := 87) C.1 C.2.1 dX5_areAlike_29 (by decide) (fun c_1 => ?_) (fun c_1 => ?_)
    · have hE := br_p hE c_1
      refine lv_iconst (v := (0 : Int32)) C.1 C.2.1 dX5_areAlike_87 (by decide) ?_
      refine lv_istore_n (lv' := [(3, .int (0 : Int32)), (0, .ref x0), (1, .ref x1), (2, .ref x2)]) C.1 C.2.1 dX5_areAlike_88 rfl hl (by decide) rfl (fun ls hl => ?_)
      exact bX5_areAlike_89 C F k_x0 k_x1 k_x2 hkm hW hZ _ (lv_sub hl [1, 2, 3, 0] rfl) hE
    · have hE := br_n hE c_1
      refine lv_aload_n C.1 C.2.1 dX5_areAlike_32 rfl (lv_at hl 1 rfl) ?_
      obtain ⟨r_2, er_2, hE⟩ := cl_e hE
      refine gf_X5_33 C hW k_x1 er_2 dX5_areAlike_33 (fun k_r_2 => ?_)
      refine lv_iload_n C.1 C.2.1 dX5_areAlike_36 rfl (lv_at hl 3 rfl) ?_
      obtain ⟨g_3, hE⟩ := gd_e hE
      refine y_lald C hW k_r_2 g_3 dX5_areAlike_37 ?_
      refine lv_aload_n C.1 C.2.1 dX5_areAlike_38 rfl (lv_at hl 2 rfl) ?_
      obtain ⟨r_4, er_4, hE⟩ := cl_e hE
      refine gf_X5_33 C hW k_x2 er_4 dX5_areAlike_39 (fun k_r_4 => ?_)
      refine lv_iload_n C.1 C.2.1 dX5_areAlike_42 rfl (lv_at hl 3 rfl) ?_
      obtain ⟨g_5, hE⟩ := gd_e hE
      refine y_lald C hW k_r_4 g_5 dX5_areAlike_43 ?_
      refine W.lcmp C.1 C.2.1 dX5_areAlike_44 ?_
      refine lv_if_ne (tgt := 79) C.1 C.2.1 dX5_areAlike_45 (by decide) (fun c_6 => ?_) (fun c_6 => ?_)
      · have hE := br_n hE c_6
        exact bX5_areAlike_79 C hkm hW hZ _ (lv_sub hl [] rfl) hE
      · have hE := br_p hE c_6
        refine lv_aload_n C.1 C.2.1 dX5_areAlike_48 rfl (lv_at hl 1 rfl) ?_
        obtain ⟨r_7, er_7, hE⟩ := cl_e hE
        refine gf_X5_303 C hW k_x1 er_7 dX5_areAlike_49 (fun k_r_7 => ?_)
        refine lv_iload_n C.1 C.2.1 dX5_areAlike_52 rfl (lv_at hl 3 rfl) ?_
        obtain ⟨g_8, hE⟩ := gd_e hE
        refine y_lald C hW k_r_7 g_8 dX5_areAlike_53 ?_
        refine lv_aload_n C.1 C.2.1 dX5_areAlike_54 rfl (lv_at hl 2 rfl) ?_
        obtain ⟨r_9, er_9, hE⟩ := cl_e hE
        refine gf_X5_303 C hW k_x2 er_9 dX5_areAlike_55 (fun k_r_9 => ?_)
        refine lv_iload_n C.1 C.2.1 dX5_areAlike_58 rfl (lv_at hl 3 rfl) ?_
        obtain ⟨g_10, hE⟩ := gd_e hE
        refine y_lald C hW k_r_9 g_10 dX5_areAlike_59 ?_
        refine W.lcmp C.1 C.2.1 dX5_areAlike_60 ?_
        refine lv_if_ne (tgt := 79) C.1 C.2.1 dX5_areAlike_61 (by decide) (fun c_11 => ?_) (fun c_11 => ?_)
        · have hE := br_n hE c_11
          exact bX5_areAlike_79 C hkm hW hZ _ (lv_sub hl [] rfl) hE
        · have hE := br_p hE c_11
          refine lv_aload_n C.1 C.2.1 dX5_areAlike_64 rfl (lv_at hl 1 rfl) ?_
          obtain ⟨r_12, er_12, hE⟩ := cl_e hE
          refine gf_X5_283 C hW k_x1 er_12 dX5_areAlike_65 (fun k_r_12 => ?_)
          refine lv_iload_n C.1 C.2.1 dX5_areAlike_68 rfl (lv_at hl 3 rfl) ?_
          obtain ⟨g_13, hE⟩ := gd_e hE
          refine y_iald C hW k_r_12 g_13 dX5_areAlike_69 ?_
          refine lv_aload_n C.1 C.2.1 dX5_areAlike_70 rfl (lv_at hl 2 rfl) ?_
          obtain ⟨r_14, er_14, hE⟩ := cl_e hE
          refine gf_X5_283 C hW k_x2 er_14 dX5_areAlike_71 (fun k_r_14 => ?_)
          refine lv_iload_n C.1 C.2.1 dX5_areAlike_74 rfl (lv_at hl 3 rfl) ?_
          obtain ⟨g_15, hE⟩ := gd_e hE
          refine y_iald C hW k_r_14 g_15 dX5_areAlike_75 ?_
          refine lv_icmp_eq (tgt := 81) C.1 C.2.1 dX5_areAlike_76 (by decide) (fun c_16 => ?_) (fun c_16 => ?_)
          · have hE := br_p hE c_16
            obtain ⟨v_17, ev_17, hE⟩ := nm_e2 hE
            refine lv_iinc (v := v_17) (lv' := [(3, .int v_17), (0, .ref x0), (1, .ref x1), (2, .ref x2)]) C.1 C.2.1 dX5_areAlike_81 hl (k := 3) rfl (by rw [ev_17]; rfl) (by decide) rfl (fun ls hl => ?_)
            refine lv_goto (tgt := 27) C.1 C.2.1 dX5_areAlike_84 (by decide) ?_
            exact hk_27 _ _ _ _ _ _ _ k_x0 k_x1 k_x2 hkm hW hZ _ (lv_sub hl [1, 2, 3, 0] rfl) hE
          · have hE := br_n hE c_16
            exact bX5_areAlike_79 C hkm hW hZ _ (lv_sub hl [] rfl) hE
set_option maxRecDepth 20000 in
theorem ct_X5_areAlike (l : Launch) (X : Ec) (F : Nat) {h : Hp} {x0 : Nat} {x1 : Nat} {x2 : Nat} {o : Int32 × Hp} (k_x0 : hK h x0 = 5) (k_x1 : hK h x1 = 3) (k_x2 : hK h x2 = 3) (hE : sX5_areAlike F h x0 x1 x2 = some o) : MetI l yX5_areAlike cX5_areAlike 4 (some .boolean) 5 162 X [.ref x0, .ref x1, .ref x2] h o := by
  refine x_met (by decide) (Nat.le_of_ble_eq_true rfl) ?_
  intro p e s m below meth c ls C hl hW hZ
  have hl : lv_has ls 4 [(0, .ref x0), (1, .ref x1), (2, .ref x2)] := hl
  have hkm : Km h h := Km.rf h
  refine lv_aload_n C.1 C.2.1 dX5_areAlike_0 rfl (lv_at hl 1 rfl) ?_
  refine gf_X5_78 C hW k_x1 dX5_areAlike_1 ?_
  refine lv_aload_n C.1 C.2.1 dX5_areAlike_4 rfl (lv_at hl 2 rfl) ?_
  refine gf_X5_78 C hW k_x2 dX5_areAlike_5 ?_
  refine lv_icmp_ne (tgt := 23) C.1 C.2.1 dX5_areAlike_8 (by decide) (fun c_1 => ?_) (fun c_1 => ?_)
  · have hE := br_n hE c_1
    exact bX5_areAlike_23 C hkm hW hZ _ (lv_sub hl [] rfl) hE
  · have hE := br_p hE c_1
    refine lv_aload_n C.1 C.2.1 dX5_areAlike_11 rfl (lv_at hl 1 rfl) ?_
    refine gf_X5_93 C hW k_x1 dX5_areAlike_12 ?_
    refine lv_aload_n C.1 C.2.1 dX5_areAlike_15 rfl (lv_at hl 2 rfl) ?_
    refine gf_X5_93 C hW k_x2 dX5_areAlike_16 ?_
    refine W.lcmp C.1 C.2.1 dX5_areAlike_19 ?_
    refine lv_if_eq (tgt := 25) C.1 C.2.1 dX5_areAlike_20 (by decide) (fun c_2 => ?_) (fun c_2 => ?_)
    · have hE := br_p hE c_2
      refine lv_iconst (v := (0 : Int32)) C.1 C.2.1 dX5_areAlike_25 (by decide) ?_
      refine lv_istore_n (lv' := [(3, .int (0 : Int32)), (0, .ref x0), (1, .ref x1), (2, .ref x2)]) C.1 C.2.1 dX5_areAlike_26 rfl hl (by decide) rfl (fun ls hl => ?_)
      exact bX5_areAlike_27 C F k_x0 k_x1 k_x2 hkm hW hZ _ (lv_sub hl [1, 2, 3, 0] rfl) hE
    · have hE := br_n hE c_2
      exact bX5_areAlike_23 C hkm hW hZ _ (lv_sub hl [] rfl) hE
