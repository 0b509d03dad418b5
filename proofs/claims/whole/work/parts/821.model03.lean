set_option maxRecDepth 100000 in
theorem n_1806 : Cond.fieldLinkNest RX15 88 (TX14 0).1 (TX14 0).2.1 (TX14 0).2.2.1 "GameRulesModel" ∈ tables_1 := List.mem_of_getElem? (i := 1806) rfl
set_option maxRecDepth 100000 in
theorem n_1847 : Cond.fieldLinkNest RX15 235 (TX14 21).1 (TX14 21).2.1 (TX14 21).2.2.1 "GameRulesModel" ∈ tables_1 := List.mem_of_getElem? (i := 1847) rfl
section
variable {p : Program} {l : Launch} {e : Env} {R : Room} {s : State} {m : MethodId} {args : Array Value} {below : List Frame} {meth : Method} {c : Code} {H : Heap} {locs : List Loc} {cells slots : Nat} {Q : State → Prop}
variable {cc : ByteArray} {pc : Nat} {ls : Array Slot} {rest : List Value} {X : Ec} {h h1 : Hp} {nL : Nat} {rt : Option FieldType} {mn : String}
theorem gf_X15_88 {a : Nat} (C : Cx X p s m args meth c RX15 cc nL rt mn) (hW : Wx X h H) (ha : hK h a = 14) (hdg : decode cc pc = .ok (.getfield 88, 3)) (kk : W p l e R s m args below meth c H locs cells slots Q (F0 m (pc + 3) ls (.int (hI h a 0) :: rest))) : W p l e R s m args below meth c H locs cells slots Q (F0 m pc ls (.ref a :: rest)) :=
  y_getiN C hW ha i_X14 (by decide) rfl (by decide) n_1806 rfl hdg kk
theorem gf_X15_235 {a : Nat} (C : Cx X p s m args meth c RX15 cc nL rt mn) (hW : Wx X h H) (ha : hK h a = 14) (hdg : decode cc pc = .ok (.getfield 235, 3)) (kk : W p l e R s m args below meth c H locs cells slots Q (F0 m (pc + 3) ls (.long (hJ h a 21) :: rest))) : W p l e R s m args below meth c H locs cells slots Q (F0 m pc ls (.ref a :: rest)) :=
  y_getjN C hW ha i_X14 (by decide) rfl (by decide) n_1847 rfl hdg kk
theorem pf_X15_235 {a : Nat} {v : Int64} (C : Cx X p s m args meth c RX15 cc nL rt mn) (hW : Wx X h H) (hZ : va_S (aA (eB X)) s.heap H locs) (ha : hK h a = 14) (eh : h1 = wJ h a 21 v) (hdg : decode cc pc = .ok (.putfield 235, 3)) (kk : ∀ (H1 : Heap) (locs1 : List Loc), Wx X h1 H1 → Km h h1 → va_S (aA (eB X)) s.heap H1 locs1 → W p l e R s m args below meth c H1 locs1 cells slots Q (F0 m (pc + 3) ls rest)) : W p l e R s m args below meth c H locs cells slots Q (F0 m pc ls (.long v :: .ref a :: rest)) :=
  y_putjN C hW hZ ha i_X14 tyX14 tyX14_ok nmX14 (by decide) rfl rfl (by decide) n_1847 rfl (by decide +kernel) rfl eh hdg kk
end
theorem dX15_isHill_0 : decode cX15_isHill 0 = .ok (.aload_n 0, 1) := by decide +kernel
theorem dX15_isHill_1 : decode cX15_isHill 1 = .ok (.aload_n 1, 1) := by decide +kernel
theorem dX15_isHill_2 : decode cX15_isHill 2 = .ok (.iload_n 2, 1) := by decide +kernel
theorem dX15_isHill_3 : decode cX15_isHill 3 = .ok (.invokevirtual 74, 3) := by decide +kernel
theorem dX15_isHill_6 : decode cX15_isHill 6 = .ok (.iconst 0, 1) := by decide +kernel
theorem dX15_isHill_7 : decode cX15_isHill 7 = .ok (.istore_n 3, 1) := by decide +kernel
theorem dX15_isHill_8 : decode cX15_isHill 8 = .ok (.iload_n 3, 1) := by decide +kernel
theorem dX15_isHill_9 : decode cX15_isHill 9 = .ok (.ifCond .eq 13, 3) := by decide +kernel
theorem dX15_isHill_12 : decode cX15_isHill 12 = .ok (.aload_n 0, 1) := by decide +kernel
theorem dX15_isHill_13 : decode cX15_isHill 13 = .ok (.aload_n 1, 1) := by decide +kernel
theorem dX15_isHill_14 : decode cX15_isHill 14 = .ok (.bipush 59, 2) := by decide +kernel
theorem dX15_isHill_16 : decode cX15_isHill 16 = .ok (.invokevirtual 94, 3) := by decide +kernel
theorem dX15_isHill_19 : decode cX15_isHill 19 = .ok (.ifCond .ne 153, 3) := by decide +kernel
theorem dX15_isHill_22 : decode cX15_isHill 22 = .ok (.aload_n 0, 1) := by decide +kernel
theorem dX15_isHill_23 : decode cX15_isHill 23 = .ok (.getfield 34, 3) := by decide +kernel
theorem dX15_isHill_26 : decode cX15_isHill 26 = .ok (.iconst 1, 1) := by decide +kernel
theorem dX15_isHill_27 : decode cX15_isHill 27 = .ok (.if_icmp .ne 35, 3) := by decide +kernel
theorem dX15_isHill_30 : decode cX15_isHill 30 = .ok (.aload_n 0, 1) := by decide +kernel
theorem dX15_isHill_31 : decode cX15_isHill 31 = .ok (.getfield 24, 3) := by decide +kernel
theorem dX15_isHill_34 : decode cX15_isHill 34 = .ok (.aload_n 0, 1) := by decide +kernel
theorem dX15_isHill_35 : decode cX15_isHill 35 = .ok (.getfield 27, 3) := by decide +kernel
theorem dX15_isHill_38 : decode cX15_isHill 38 = .ok (.iconst 1, 1) := by decide +kernel
theorem dX15_isHill_39 : decode cX15_isHill 39 = .ok (.iadd, 1) := by decide +kernel
theorem dX15_isHill_40 : decode cX15_isHill 40 = .ok (.if_icmp .ne 22, 3) := by decide +kernel
theorem dX15_isHill_43 : decode cX15_isHill 43 = .ok (.aload_n 1, 1) := by decide +kernel
theorem dX15_isHill_44 : decode cX15_isHill 44 = .ok (.aload_n 0, 1) := by decide +kernel
theorem dX15_isHill_45 : decode cX15_isHill 45 = .ok (.getfield 27, 3) := by decide +kernel
theorem dX15_isHill_48 : decode cX15_isHill 48 = .ok (.baload, 1) := by decide +kernel
theorem dX15_isHill_49 : decode cX15_isHill 49 = .ok (.bipush 97, 2) := by decide +kernel
theorem dX15_isHill_51 : decode cX15_isHill 51 = .ok (.isub, 1) := by decide +kernel
theorem dX15_isHill_52 : decode cX15_isHill 52 = .ok (.aload_n 0, 1) := by decide +kernel
theorem dX15_isHill_53 : decode cX15_isHill 53 = .ok (.getfield 57, 3) := by decide +kernel
theorem dX15_isHill_56 : decode cX15_isHill 56 = .ok (.getfield 88, 3) := by decide +kernel
theorem dX15_isHill_59 : decode cX15_isHill 59 = .ok (.if_icmp .lt 5, 3) := by decide +kernel
theorem dX15_isHill_62 : decode cX15_isHill 62 = .ok (.iconst 0, 1) := by decide +kernel
theorem dX15_isHill_63 : decode cX15_isHill 63 = .ok (.ireturn, 1) := by decide +kernel
theorem dX15_isHill_64 : decode cX15_isHill 64 = .ok (.aload_n 1, 1) := by decide +kernel
theorem dX15_isHill_65 : decode cX15_isHill 65 = .ok (.aload_n 0, 1) := by decide +kernel
theorem dX15_isHill_66 : decode cX15_isHill 66 = .ok (.getfield 27, 3) := by decide +kernel
theorem dX15_isHill_69 : decode cX15_isHill 69 = .ok (.baload, 1) := by decide +kernel
theorem dX15_isHill_70 : decode cX15_isHill 70 = .ok (.bipush 97, 2) := by decide +kernel
theorem dX15_isHill_72 : decode cX15_isHill 72 = .ok (.isub, 1) := by decide +kernel
theorem dX15_isHill_73 : decode cX15_isHill 73 = .ok (.istore 4, 2) := by decide +kernel
theorem dX15_isHill_75 : decode cX15_isHill 75 = .ok (.aload_n 0, 1) := by decide +kernel
theorem dX15_isHill_76 : decode cX15_isHill 76 = .ok (.aload_n 1, 1) := by decide +kernel
theorem dX15_isHill_77 : decode cX15_isHill 77 = .ok (.iload_n 2, 1) := by decide +kernel
theorem dX15_isHill_78 : decode cX15_isHill 78 = .ok (.invokevirtual 74, 3) := by decide +kernel
theorem dX15_isHill_81 : decode cX15_isHill 81 = .ok (.aload_n 0, 1) := by decide +kernel
theorem dX15_isHill_82 : decode cX15_isHill 82 = .ok (.iconst 1, 1) := by decide +kernel
theorem dX15_isHill_83 : decode cX15_isHill 83 = .ok (.aload_n 0, 1) := by decide +kernel
theorem dX15_isHill_84 : decode cX15_isHill 84 = .ok (.getfield 57, 3) := by decide +kernel
theorem dX15_isHill_87 : decode cX15_isHill 87 = .ok (.getfield 91, 3) := by decide +kernel
theorem dX15_isHill_90 : decode cX15_isHill 90 = .ok (.invokevirtual 84, 3) := by decide +kernel
theorem dX15_isHill_93 : decode cX15_isHill 93 = .ok (.ifCond .eq 35, 3) := by decide +kernel
theorem dX15_isHill_96 : decode cX15_isHill 96 = .ok (.aload_n 0, 1) := by decide +kernel
theorem dX15_isHill_97 : decode cX15_isHill 97 = .ok (.getfield 57, 3) := by decide +kernel
theorem dX15_isHill_100 : decode cX15_isHill 100 = .ok (.getfield 235, 3) := by decide +kernel
theorem dX15_isHill_103 : decode cX15_isHill 103 = .ok (.aload_n 0, 1) := by decide +kernel
theorem dX15_isHill_104 : decode cX15_isHill 104 = .ok (.getfield 44, 3) := by decide +kernel
theorem dX15_isHill_107 : decode cX15_isHill 107 = .ok (.iconst 1, 1) := by decide +kernel
theorem dX15_isHill_108 : decode cX15_isHill 108 = .ok (.isub, 1) := by decide +kernel
theorem dX15_isHill_109 : decode cX15_isHill 109 = .ok (.aload_n 0, 1) := by decide +kernel
theorem dX15_isHill_110 : decode cX15_isHill 110 = .ok (.getfield 57, 3) := by decide +kernel
theorem dX15_isHill_113 : decode cX15_isHill 113 = .ok (.getfield 88, 3) := by decide +kernel
theorem dX15_isHill_116 : decode cX15_isHill 116 = .ok (.imul, 1) := by decide +kernel
theorem dX15_isHill_117 : decode cX15_isHill 117 = .ok (.iload 4, 2) := by decide +kernel
theorem dX15_isHill_119 : decode cX15_isHill 119 = .ok (.iadd, 1) := by decide +kernel
theorem dX15_isHill_120 : decode cX15_isHill 120 = .ok (.lshr, 1) := by decide +kernel
theorem dX15_isHill_121 : decode cX15_isHill 121 = .ok (.lconst 1, 1) := by decide +kernel
theorem dX15_isHill_122 : decode cX15_isHill 122 = .ok (.land, 1) := by decide +kernel
theorem dX15_isHill_123 : decode cX15_isHill 123 = .ok (.lconst 1, 1) := by decide +kernel
theorem dX15_isHill_124 : decode cX15_isHill 124 = .ok (.lcmp, 1) := by decide +kernel
theorem dX15_isHill_125 : decode cX15_isHill 125 = .ok (.ifCond .ne 5, 3) := by decide +kernel
theorem dX15_isHill_128 : decode cX15_isHill 128 = .ok (.iconst 0, 1) := by decide +kernel
theorem dX15_isHill_129 : decode cX15_isHill 129 = .ok (.ireturn, 1) := by decide +kernel
theorem dX15_isHill_130 : decode cX15_isHill 130 = .ok (.aload_n 0, 1) := by decide +kernel
theorem dX15_isHill_131 : decode cX15_isHill 131 = .ok (.getfield 57, 3) := by decide +kernel
theorem dX15_isHill_134 : decode cX15_isHill 134 = .ok (.dup, 1) := by decide +kernel
theorem dX15_isHill_135 : decode cX15_isHill 135 = .ok (.getfield 235, 3) := by decide +kernel
theorem dX15_isHill_138 : decode cX15_isHill 138 = .ok (.lconst 1, 1) := by decide +kernel
theorem dX15_isHill_139 : decode cX15_isHill 139 = .ok (.aload_n 0, 1) := by decide +kernel
theorem dX15_isHill_140 : decode cX15_isHill 140 = .ok (.getfield 44, 3) := by decide +kernel
theorem dX15_isHill_143 : decode cX15_isHill 143 = .ok (.iconst 1, 1) := by decide +kernel
theorem dX15_isHill_144 : decode cX15_isHill 144 = .ok (.isub, 1) := by decide +kernel
theorem dX15_isHill_145 : decode cX15_isHill 145 = .ok (.aload_n 0, 1) := by decide +kernel
theorem dX15_isHill_146 : decode cX15_isHill 146 = .ok (.getfield 57, 3) := by decide +kernel
theorem dX15_isHill_149 : decode cX15_isHill 149 = .ok (.getfield 88, 3) := by decide +kernel
theorem dX15_isHill_152 : decode cX15_isHill 152 = .ok (.imul, 1) := by decide +kernel
theorem dX15_isHill_153 : decode cX15_isHill 153 = .ok (.iload 4, 2) := by decide +kernel
theorem dX15_isHill_155 : decode cX15_isHill 155 = .ok (.iadd, 1) := by decide +kernel
theorem dX15_isHill_156 : decode cX15_isHill 156 = .ok (.lshl, 1) := by decide +kernel
theorem dX15_isHill_157 : decode cX15_isHill 157 = .ok (.lor, 1) := by decide +kernel
theorem dX15_isHill_158 : decode cX15_isHill 158 = .ok (.putfield 235, 3) := by decide +kernel
theorem dX15_isHill_161 : decode cX15_isHill 161 = .ok (.iconst 1, 1) := by decide +kernel
theorem dX15_isHill_162 : decode cX15_isHill 162 = .ok (.istore_n 3, 1) := by decide +kernel
theorem dX15_isHill_163 : decode cX15_isHill 163 = .ok (.aload_n 0, 1) := by decide +kernel
theorem dX15_isHill_164 : decode cX15_isHill 164 = .ok (.aload_n 1, 1) := by decide +kernel
theorem dX15_isHill_165 : decode cX15_isHill 165 = .ok (.iload_n 2, 1) := by decide +kernel
theorem dX15_isHill_166 : decode cX15_isHill 166 = .ok (.invokevirtual 74, 3) := by decide +kernel
theorem dX15_isHill_169 : decode cX15_isHill 169 = .ok (.goto (-161), 3) := by decide +kernel
theorem dX15_isHill_172 : decode cX15_isHill 172 = .ok (.iconst 1, 1) := by decide +kernel
theorem dX15_isHill_173 : decode cX15_isHill 173 = .ok (.ireturn, 1) := by decide +kernel
set_option maxRecDepth 20000 in
theorem moX15_isHill_62 {o : Int32 × Hp} {F : Nat} {h : Hp} (hE : sX15_isHill_62 F h  = some o) : Le h o.2 := by
  exact le_some2 hE
set_option maxRecDepth 20000 in
theorem moX15_isHill_128 {o : Int32 × Hp} {F : Nat} {h : Hp} (hE : sX15_isHill_128 F h  = some o) : Le h o.2 := by
  exact le_some2 hE
set_option maxRecDepth 20000 in
theorem moX15_isHill_22 {o : Int32 × Hp} {k_8 : Hp → Nat → Nat → Int32 → Int32 → Option (Int32 × Hp)} {F : Nat} (mk_8 : ∀ (h : Hp) (x0 : Nat) (x1 : Nat) (x2 : Int32) (x3 : Int32), k_8 h x0 x1 x2 x3 = some o → Le h o.2) {h : Hp} {x0 : Nat} {x1 : Nat} {x2 : Int32} (hE : sX15_isHill_22 F k_8 h x0 x1 x2 = some o) : Le h o.2 := by
  rcases br_e hE with ⟨_, hE⟩ | ⟨_, hE⟩
  · rcases br_e hE with ⟨_, hE⟩ | ⟨_, hE⟩
    · obtain ⟨g_3, hE⟩ := gd_e hE
      obtain ⟨r_4, er_4, hE⟩ := cl_e hE
      rcases br_e hE with ⟨_, hE⟩ | ⟨_, hE⟩
      · obtain ⟨g_6, hE⟩ := gd_e hE
        obtain ⟨v_7, ev_7, hE⟩ := nm_e2 hE
        obtain ⟨o_8, eo_8, hE⟩ := cl_e hE
        refine (moX15_nextToken eo_8).tr ?_
        obtain ⟨r_9, er_9, hE⟩ := cl_e hE
        obtain ⟨o_10, eo_10, hE⟩ := cl_e hE
        refine (moX15_isNumber eo_10).tr ?_
        rcases br_e hE with ⟨_, hE⟩ | ⟨_, hE⟩
        · exact moX15_isHill_128 hE
        · obtain ⟨r_12, er_12, hE⟩ := cl_e hE
          obtain ⟨r_13, er_13, hE⟩ := cl_e hE
          rcases br_e hE with ⟨_, hE⟩ | ⟨_, hE⟩
          · exact moX15_isHill_128 hE
          · obtain ⟨r_15, er_15, hE⟩ := cl_e hE
            obtain ⟨r_16, er_16, hE⟩ := cl_e hE
            obtain ⟨h_17, eh_17, hE⟩ := nm_e2 hE
            refine (le_J eh_17).tr ?_
            obtain ⟨o_18, eo_18, hE⟩ := cl_e hE
            refine (moX15_nextToken eo_18).tr ?_
            exact mk_8 _ _ _ _ _ hE
      · exact moX15_isHill_62 hE
    · exact moX15_isHill_62 hE
  · exact moX15_isHill_62 hE
set_option maxRecDepth 20000 in
theorem moX15_isHill_8 {o : Int32 × Hp} {F : Nat} : ∀ (f : Nat) {h : Hp} {x0 : Nat} {x1 : Nat} {x2 : Int32} {x3 : Int32}, sX15_isHill_8 F f h x0 x1 x2 x3 = some o → Le h o.2 := by
  intro f
  induction f with
  | zero =>
    intro h x0 x1 x2 x3 hE
    rw [sX15_isHill_8] at hE
    cases hE
  | succ f ih =>
    intro h x0 x1 x2 x3 hE
    rw [sX15_isHill_8] at hE
    have mk_8 : ∀ (h : Hp) (x0 : Nat) (x1 : Nat) (x2 : Int32) (x3 : Int32), sX15_isHill_8 F f h x0 x1 x2 x3 = some o → Le h o.2 := fun h x0 x1 x2 x3 hE => ih hE
    rcases br_e hE with ⟨_, hE⟩ | ⟨_, hE⟩
    · exact moX15_isHill_22 mk_8 hE
    · obtain ⟨o_2, eo_2, hE⟩ := cl_e hE
      refine (moX15_isSign eo_2).tr ?_
      rcases br_e hE with ⟨_, hE⟩ | ⟨_, hE⟩
      · exact moX15_isHill_22 mk_8 hE
      · exact le_some2 hE
set_option maxRecDepth 20000 in
theorem moX15_isHill {o : Int32 × Hp} {F : Nat} {h : Hp} {x0 : Nat} {x1 : Nat} {x2 : Int32} (hE : sX15_isHill F h x0 x1 x2 = some o) : Le h o.2 := by
  obtain ⟨o_1, eo_1, hE⟩ := cl_e hE
  refine (moX15_nextToken eo_1).tr ?_
  exact moX15_isHill_8 _ hE
set_option maxRecDepth 20000 in
theorem bX15_isHill_62 {p : Program} {l : Launch} {e : Env} {s : State} {m : MethodId} {args : Array Value} {below : List Frame} {meth : Method} {c : Code} {X : Ec} {h0 : Hp} {o : Int32 × Hp} {F : Nat} (C : Cx X p s m args meth c RX15 cX15_isHill 5 (some .boolean) "isHill") {h : Hp} {H : Heap} {locs : List Loc} (hkm : Km h0 h) (hW : Wx X h H) (hZ : va_S (aA (eB X)) s.heap H locs) (ls : Array Slot) (hl : lv_has ls 5 []) (hE : sX15_isHill_62 F h  = some o) : W p l e (rm 2 49) s m args below meth c H locs 0 0 (MQ below (QI X h0 o.1 o.2) args s 0 0 (aA (eB X))) (F0 m 62 ls []) := by
  refine lv_iconst (v := (0 : Int32)) C.1 C.2.1 dX15_isHill_62 (by decide) ?_
  exact x_iret C rfl (by decide) hW hZ hkm hE dX15_isHill_63
set_option maxRecDepth 20000 in
theorem bX15_isHill_128 {p : Program} {l : Launch} {e : Env} {s : State} {m : MethodId} {args : Array Value} {below : List Frame} {meth : Method} {c : Code} {X : Ec} {h0 : Hp} {o : Int32 × Hp} {F : Nat} (C : Cx X p s m args meth c RX15 cX15_isHill 5 (some .boolean) "isHill") {h : Hp} {H : Heap} {locs : List Loc} (hkm : Km h0 h) (hW : Wx X h H) (hZ : va_S (aA (eB X)) s.heap H locs) (ls : Array Slot) (hl : lv_has ls 5 []) (hE : sX15_isHill_128 F h  = some o) : W p l e (rm 2 49) s m args below meth c H locs 0 0 (MQ below (QI X h0 o.1 o.2) args s 0 0 (aA (eB X))) (F0 m 128 ls []) := by
  refine lv_iconst (v := (0 : Int32)) C.1 C.2.1 dX15_isHill_128 (by decide) ?_
  exact x_iret C rfl (by decide) hW hZ hkm hE dX15_isHill_129
set_option maxRecDepth 20000 in
theorem bX15_isHill_22 {p : Program} {l : Launch} {e : Env} {s : State} {m : MethodId} {args : Array Value} {below : List Frame} {meth : Method} {c : Code} {X : Ec} {h0 : Hp} {o : Int32 × Hp} {k_8 : Hp → Nat → Nat → Int32 → Int32 → Option (Int32 × Hp)} {F : Nat} (C : Cx X p s m args meth c RX15 cX15_isHill 5 (some .boolean) "isHill") (hk_8 : ∀ (h : Hp) (x0 : Nat) (x1 : Nat) (x2 : Int32) (x3 : Int32) (H : Heap) (locs : List Loc), hK h x0 = 15 → hK h x1 = 16 → Km h0 h → Wx X h H → va_S (aA (eB X)) s.heap H locs → ∀ (ls : Array Slot), lv_has ls 5 [(0, .ref x0), (1, .ref x1), (2, .int x2), (3, .int x3)] → k_8 h x0 x1 x2 x3 = some o → W p l e (rm 2 49) s m args below meth c H locs 0 0 (MQ below (QI X h0 o.1 o.2) args s 0 0 (aA (eB X))) (F0 m 8 ls [])) {h : Hp} {x0 : Nat} {x1 : Nat} {x2 : Int32} {H : Heap} {locs : List Loc} (k_x0 : hK h x0 = 15) (k_x1 : hK h x1 = 16) (hkm : Km h0 h) (hW : Wx X h H) (hZ : va_S (aA (eB X)) s.heap H locs) (ls : Array Slot) (hl : lv_has ls 5 [(0, .ref x0), (1, .ref x1), (2, .int x2)]) (hE : sX15_isHill_22 F k_8 h x0 x1 x2 = some o) : W p l e (rm 2 49) s m args below meth c H locs 0 0 (MQ below (QI X h0 o.1 o.2) args s 0 0 (aA (eB X))) (F0 m 22 ls []) := by
  refine lv_aload_n C.1 C.2.1 dX15_isHill_22 rfl (lv_at hl 0 rfl) ?_
  refine gf_X15_34 C hW k_x0 dX15_isHill_23 ?_
  refine lv_iconst (v := (1 : Int32)) C.1 C.2.1 dX15_isHill_26 (by decide) ?_
  refine lv_icmp_ne (tgt := 62) C.1 C.2.1 dX15_isHill_27 (by decide) (fun c_1 => ?_) (fun c_1 => ?_)
  · have hE := br_n hE c_1
    exact bX15_isHill_62 C hkm hW hZ _ (lv_sub hl [] rfl) hE
  · have hE := br_p hE c_1
    refine lv_aload_n C.1 C.2.1 dX15_isHill_30 rfl (lv_at hl 0 rfl) ?_
    refine gf_X15_24 C hW k_x0 dX15_isHill_31 ?_
    refine lv_aload_n C.1 C.2.1 dX15_isHill_34 rfl (lv_at hl 0 rfl) ?_
    refine gf_X15_27 C hW k_x0 dX15_isHill_35 ?_
    refine lv_iconst (v := (1 : Int32)) C.1 C.2.1 dX15_isHill_38 (by decide) ?_
    refine lv_iadd C.1 C.2.1 dX15_isHill_39 ?_
    refine lv_icmp_ne (tgt := 62) C.1 C.2.1 dX15_isHill_40 (by decide) (fun c_2 => ?_) (fun c_2 => ?_)
    · have hE := br_n hE c_2
      exact bX15_isHill_62 C hkm hW hZ _ (lv_sub hl [] rfl) hE
    · have hE := br_p hE c_2
      refine lv_aload_n C.1 C.2.1 dX15_isHill_43 rfl (lv_at hl 1 rfl) ?_
      refine lv_aload_n C.1 C.2.1 dX15_isHill_44 rfl (lv_at hl 0 rfl) ?_
      refine gf_X15_27 C hW k_x0 dX15_isHill_45 ?_
      obtain ⟨g_3, hE⟩ := gd_e hE
      refine y_bald C hW k_x1 g_3 dX15_isHill_48 ?_
      refine lv_bipush (v := (97 : Int32)) C.1 C.2.1 dX15_isHill_49 (by decide) ?_
      refine lv_isub C.1 C.2.1 dX15_isHill_51 ?_
      refine lv_aload_n C.1 C.2.1 dX15_isHill_52 rfl (lv_at hl 0 rfl) ?_
      obtain ⟨r_4, er_4, hE⟩ := cl_e hE
      refine gf_X15_57 C hW k_x0 er_4 dX15_isHill_53 (fun k_r_4 => ?_)
      refine gf_X15_88 C hW k_r_4 dX15_isHill_56 ?_
      refine lv_icmp_lt (tgt := 64) C.1 C.2.1 dX15_isHill_59 (by decide) (fun c_5 => ?_) (fun c_5 => ?_)
      · have hE := br_p hE c_5
        refine lv_aload_n C.1 C.2.1 dX15_isHill_64 rfl (lv_at hl 1 rfl) ?_
        refine lv_aload_n C.1 C.2.1 dX15_isHill_65 rfl (lv_at hl 0 rfl) ?_
        refine gf_X15_27 C hW k_x0 dX15_isHill_66 ?_
        obtain ⟨g_6, hE⟩ := gd_e hE
        refine y_bald C hW k_x1 g_6 dX15_isHill_69 ?_
        refine lv_bipush (v := (97 : Int32)) C.1 C.2.1 dX15_isHill_70 (by decide) ?_
        refine lv_isub C.1 C.2.1 dX15_isHill_72 ?_
        obtain ⟨v_7, ev_7, hE⟩ := nm_e2 hE
        refine x_nmI ev_7 ?_
        refine lv_istore (lv' := [(4, .int v_7), (0, .ref x0), (1, .ref x1), (2, .int x2)]) C.1 C.2.1 dX15_isHill_73 hl (by decide) rfl (fun ls hl => ?_)
        refine lv_aload_n C.1 C.2.1 dX15_isHill_75 rfl (lv_at hl 1 rfl) ?_
        refine lv_aload_n C.1 C.2.1 dX15_isHill_76 rfl (lv_at hl 2 rfl) ?_
        refine lv_iload_n C.1 C.2.1 dX15_isHill_77 rfl (lv_at hl 3 rfl) ?_
        obtain ⟨o_8, eo_8, hE⟩ := cl_e hE
        refine x_kV (o := o_8) (z_runV (As := [.ref x1, .int x2]) (rest := []) C (ct_X15_nextToken l X F k_x0 k_x1 eo_8) cw_X15_74 hW hZ k_x0 (by decide) rfl rfl rfl hl.1 (Nat.le_of_ble_eq_true rfl) rfl dX15_isHill_78 ⟨Nat.le_of_ble_eq_true rfl, Nat.le_of_ble_eq_true rfl⟩ ⟨Nat.le_refl _, Nat.le_refl _⟩) hZ (fun _ _ hW km hZ => ?_)
        replace hkm := hkm.tr km
        replace k_x0 := km.at k_x0 (by decide)
        replace k_x1 := km.at k_x1 (by decide)
        refine lv_aload_n C.1 C.2.1 dX15_isHill_81 rfl (lv_at hl 1 rfl) ?_
        refine lv_iconst (v := (1 : Int32)) C.1 C.2.1 dX15_isHill_82 (by decide) ?_
        refine lv_aload_n C.1 C.2.1 dX15_isHill_83 rfl (lv_at hl 1 rfl) ?_
        obtain ⟨r_9, er_9, hE⟩ := cl_e hE
        refine gf_X15_57 C hW k_x0 er_9 dX15_isHill_84 (fun k_r_9 => ?_)
        refine gf_X15_91 C hW k_r_9 dX15_isHill_87 ?_
        obtain ⟨o_10, eo_10, hE⟩ := cl_e hE
        refine x_kI (o := o_10) (z_runV (As := [.int (1 : Int32), .int (hI o_8 r_9 1)]) (rest := []) C (ct_X15_isNumber l X k_x0 eo_10) cw_X15_84 hW hZ k_x0 (by decide) rfl rfl rfl hl.1 (Nat.le_of_ble_eq_true rfl) rfl dX15_isHill_90 ⟨Nat.le_of_ble_eq_true rfl, Nat.le_of_ble_eq_true rfl⟩ ⟨Nat.le_refl _, Nat.le_refl _⟩) hZ (fun _ _ hW km hZ => ?_)
        replace hkm := hkm.tr km
        replace k_x0 := km.at k_x0 (by decide)
        replace k_x1 := km.at k_x1 (by decide)
        refine lv_if_eq (tgt := 128) C.1 C.2.1 dX15_isHill_93 (by decide) (fun c_11 => ?_) (fun c_11 => ?_)
        · have hE := br_p hE c_11
          exact bX15_isHill_128 C hkm hW hZ _ (lv_sub hl [] rfl) hE
        · have hE := br_n hE c_11
          refine lv_aload_n C.1 C.2.1 dX15_isHill_96 rfl (lv_at hl 1 rfl) ?_
          obtain ⟨r_12, er_12, hE⟩ := cl_e hE
          refine gf_X15_57 C hW k_x0 er_12 dX15_isHill_97 (fun k_r_12 => ?_)
          refine gf_X15_235 C hW k_r_12 dX15_isHill_100 ?_
          refine lv_aload_n C.1 C.2.1 dX15_isHill_103 rfl (lv_at hl 1 rfl) ?_
          refine gf_X15_44 C hW k_x0 dX15_isHill_104 ?_
          refine lv_iconst (v := (1 : Int32)) C.1 C.2.1 dX15_isHill_107 (by decide) ?_
          refine lv_isub C.1 C.2.1 dX15_isHill_108 ?_
          refine lv_aload_n C.1 C.2.1 dX15_isHill_109 rfl (lv_at hl 1 rfl) ?_
          obtain ⟨r_13, er_13, hE⟩ := cl_e hE
          refine gf_X15_57 C hW k_x0 er_13 dX15_isHill_110 (fun k_r_13 => ?_)
          refine gf_X15_88 C hW k_r_13 dX15_isHill_113 ?_
          refine lv_imul C.1 C.2.1 dX15_isHill_116 ?_
          refine lv_iload C.1 C.2.1 dX15_isHill_117 (lv_at hl 0 rfl) ?_
          refine lv_iadd C.1 C.2.1 dX15_isHill_119 ?_
          refine lv_lshr C.1 C.2.1 dX15_isHill_120 rfl ?_
          refine lv_lconst (v := (1 : Int64)) C.1 C.2.1 dX15_isHill_121 (by decide) ?_
          refine lv_land C.1 C.2.1 dX15_isHill_122 ?_
          refine lv_lconst (v := (1 : Int64)) C.1 C.2.1 dX15_isHill_123 (by decide) ?_
          refine W.lcmp C.1 C.2.1 dX15_isHill_124 ?_
          refine lv_if_ne (tgt := 130) C.1 C.2.1 dX15_isHill_125 (by decide) (fun c_14 => ?_) (fun c_14 => ?_)
          · have hE := br_n hE c_14
            refine lv_aload_n C.1 C.2.1 dX15_isHill_130 rfl (lv_at hl 1 rfl) ?_
            obtain ⟨r_15, er_15, hE⟩ := cl_e hE
            refine gf_X15_57 C hW k_x0 er_15 dX15_isHill_131 (fun k_r_15 => ?_)
            refine lv_dup C.1 C.2.1 dX15_isHill_134 rfl ?_
            refine gf_X15_235 C hW k_r_15 dX15_isHill_135 ?_
            refine lv_lconst (v := (1 : Int64)) C.1 C.2.1 dX15_isHill_138 (by decide) ?_
            refine lv_aload_n C.1 C.2.1 dX15_isHill_139 rfl (lv_at hl 1 rfl) ?_
            refine gf_X15_44 C hW k_x0 dX15_isHill_140 ?_
            refine lv_iconst (v := (1 : Int32)) C.1 C.2.1 dX15_isHill_143 (by decide) ?_
            refine lv_isub C.1 C.2.1 dX15_isHill_144 ?_
            refine lv_aload_n C.1 C.2.1 dX15_isHill_145 rfl (lv_at hl 1 rfl) ?_
            obtain ⟨r_16, er_16, hE⟩ := cl_e hE
            refine gf_X15_57 C hW k_x0 er_16 dX15_isHill_146 (fun k_r_16 => ?_)
            refine gf_X15_88 C hW k_r_16 dX15_isHill_149 ?_
            refine lv_imul C.1 C.2.1 dX15_isHill_152 ?_
            refine lv_iload C.1 C.2.1 dX15_isHill_153 (lv_at hl 0 rfl) ?_
            refine lv_iadd C.1 C.2.1 dX15_isHill_155 ?_
            refine lv_lshl C.1 C.2.1 dX15_isHill_156 rfl ?_
            refine lv_lor C.1 C.2.1 dX15_isHill_157 ?_
            obtain ⟨h_17, eh_17, hE⟩ := nm_e2 hE
            refine pf_X15_235 C hW hZ k_r_15 eh_17 dX15_isHill_158 (fun _ _ hW km hZ => ?_)
            replace hkm := hkm.tr km
            replace k_x0 := km.at k_x0 (by decide)
            replace k_x1 := km.at k_x1 (by decide)
            refine lv_iconst (v := (1 : Int32)) C.1 C.2.1 dX15_isHill_161 (by decide) ?_
            refine lv_istore_n (lv' := [(3, .int (1 : Int32)), (4, .int v_7), (0, .ref x0), (1, .ref x1), (2, .int x2)]) C.1 C.2.1 dX15_isHill_162 rfl hl (by decide) rfl (fun ls hl => ?_)
            refine lv_aload_n C.1 C.2.1 dX15_isHill_163 rfl (lv_at hl 2 rfl) ?_
            refine lv_aload_n C.1 C.2.1 dX15_isHill_164 rfl (lv_at hl 3 rfl) ?_
            refine lv_iload_n C.1 C.2.1 dX15_isHill_165 rfl (lv_at hl 4 rfl) ?_
            obtain ⟨o_18, eo_18, hE⟩ := cl_e hE
            refine x_kV (o := o_18) (z_runV (As := [.ref x1, .int x2]) (rest := []) C (ct_X15_nextToken l X F k_x0 k_x1 eo_18) cw_X15_74 hW hZ k_x0 (by decide) rfl rfl rfl hl.1 (Nat.le_of_ble_eq_true rfl) rfl dX15_isHill_166 ⟨Nat.le_of_ble_eq_true rfl, Nat.le_of_ble_eq_true rfl⟩ ⟨Nat.le_refl _, Nat.le_refl _⟩) hZ (fun _ _ hW km hZ => ?_)
            replace hkm := hkm.tr km
            replace k_x0 := km.at k_x0 (by decide)
            replace k_x1 := km.at k_x1 (by decide)
            refine lv_goto (tgt := 8) C.1 C.2.1 dX15_isHill_169 (by decide) ?_
            exact hk_8 _ _ _ _ _ _ _ k_x0 k_x1 hkm hW hZ _ (lv_sub hl [2, 3, 4, 0] rfl) hE
          · have hE := br_p hE c_14
            exact bX15_isHill_128 C hkm hW hZ _ (lv_sub hl [] rfl) hE
      · have hE := br_n hE c_5
        exact bX15_isHill_62 C hkm hW hZ _ (lv_sub hl [] rfl) hE
set_option maxRecDepth 20000 in
theorem bX15_isHill_8 {p : Program} {l : Launch} {e : Env} {s : State} {m : MethodId} {args : Array Value} {below : List Frame} {meth : Method} {c : Code} {X : Ec} {h0 : Hp} {o : Int32 × Hp} {F : Nat} (C : Cx X p s m args meth c RX15 cX15_isHill 5 (some .boolean) "isHill") : ∀ (f : Nat) {h : Hp} {x0 : Nat} {x1 : Nat} {x2 : Int32} {x3 : Int32} {H : Heap} {locs : List Loc} (k_x0 : hK h x0 = 15) (k_x1 : hK h x1 = 16), Km h0 h → Wx X h H → va_S (aA (eB X)) s.heap H locs → ∀ (ls : Array Slot), lv_has ls 5 [(0, .ref x0), (1, .ref x1), (2, .int x2), (3, .int x3)] → sX15_isHill_8 F f h x0 x1 x2 x3 = some o → W p l e (rm 2 49) s m args below meth c H locs 0 0 (MQ below (QI X h0 o.1 o.2) args s 0 0 (aA (eB X))) (F0 m 8 ls []) := by
  intro f
  induction f with
  | zero =>
    intro h x0 x1 x2 x3 H locs k_x0 k_x1 hkm hW hZ ls hl hE
    rw [sX15_isHill_8] at hE
    cases hE
  | succ f ih =>
    intro h x0 x1 x2 x3 H locs k_x0 k_x1 hkm hW hZ ls hl hE
    rw [sX15_isHill_8] at hE
    have hk_8 : ∀ (h : Hp) (x0 : Nat) (x1 : Nat) (x2 : Int32) (x3 : Int32) (H : Heap) (locs : List Loc), hK h x0 = 15 → hK h x1 = 16 → Km h0 h → Wx X h H → va_S (aA (eB X)) s.heap H locs → ∀ (ls : Array Slot), lv_has ls 5 [(0, .ref x0), (1, .ref x1), (2, .int x2), (3, .int x3)] → sX15_isHill_8 F f h x0 x1 x2 x3 = some o → W p l e (rm 2 49) s m args below meth c H locs 0 0 (MQ below (QI X h0 o.1 o.2) args s 0 0 (aA (eB X))) (F0 m 8 ls []) := fun h x0 x1 x2 x3 H locs k_x0 k_x1 a b c ls hl hE => ih k_x0 k_x1 a b c ls hl hE
    refine lv_iload_n C.1 C.2.1 dX15_isHill_8 rfl (lv_at hl 3 rfl) ?_
    refine lv_if_eq (tgt := 22) C.1 C.2.1 dX15_isHill_9 (by decide) (fun c_1 => ?_) (fun c_1 => ?_)
    · have hE := br_p hE c_1
      exact bX15_isHill_22 C hk_8 k_x0 k_x1 hkm hW hZ _ (lv_sub hl [0, 1, 2] rfl) hE
    · have hE := br_n hE c_1
      refine lv_aload_n C.1 C.2.1 dX15_isHill_12 rfl (lv_at hl 0 rfl) ?_
      refine lv_aload_n C.1 C.2.1 dX15_isHill_13 rfl (lv_at hl 1 rfl) ?_
      refine lv_bipush (v := (59 : Int32)) C.1 C.2.1 dX15_isHill_14 (by decide) ?_
      obtain ⟨o_2, eo_2, hE⟩ := cl_e hE
      refine x_kI (o := o_2) (z_runV (As := [.ref x1, .int (59 : Int32)]) (rest := []) C (ct_X15_isSign l X k_x0 k_x1 eo_2) cw_X15_94 hW hZ k_x0 (by decide) rfl rfl rfl hl.1 (Nat.le_of_ble_eq_true rfl) rfl dX15_isHill_16 ⟨Nat.le_of_ble_eq_true rfl, Nat.le_of_ble_eq_true rfl⟩ ⟨Nat.le_refl _, Nat.le_refl _⟩) hZ (fun _ _ hW km hZ => ?_)
      replace hkm := hkm.tr km
      replace k_x0 := km.at k_x0 (by decide)
      replace k_x1 := km.at k_x1 (by decide)
      refine lv_if_ne (tgt := 172) C.1 C.2.1 dX15_isHill_19 (by decide) (fun c_3 => ?_) (fun c_3 => ?_)
      · have hE := br_n hE c_3
        refine lv_iconst (v := (1 : Int32)) C.1 C.2.1 dX15_isHill_172 (by decide) ?_
        exact x_iret C rfl (by decide) hW hZ hkm hE dX15_isHill_173
      · have hE := br_p hE c_3
        exact bX15_isHill_22 C hk_8 k_x0 k_x1 hkm hW hZ _ (lv_sub hl [0, 1, 2] rfl) hE
set_option maxRecDepth 20000 in
theorem ct_X15_isHill (l : Launch) (X : Ec) (F : Nat) {h : Hp} {x0 : Nat} {x1 : Nat} {x2 : Int32} {o : Int32 × Hp} (k_x0 : hK h x0 = 15) (k_x1 : hK h x1 = 16) (hE : sX15_isHill F h x0 x1 x2 = some o) : MetI l yX15_isHill cX15_isHill 5 (some .boolean) 2 49 X [.ref x0, .ref x1, .int x2] h o := by
  refine x_met (by decide) (Nat.le_of_ble_eq_true rfl) ?_
  intro p e s m below meth c ls C hl hW hZ
  have hl : lv_has ls 5 [(0, .ref x0), (1, .ref x1), (2, .int x2)] := hl
  have hkm : Km h h := Km.rf h
  refine lv_aload_n C.1 C.2.1 dX15_isHill_0 rfl (lv_at hl 0 rfl) ?_
  refine lv_aload_n C.1 C.2.1 dX15_isHill_1 rfl (lv_at hl 1 rfl) ?_
  refine lv_iload_n C.1 C.2.1 dX15_isHill_2 rfl (lv_at hl 2 rfl) ?_
  obtain ⟨o_1, eo_1, hE⟩ := cl_e hE
  refine x_kV (o := o_1) (z_runV (As := [.ref x1, .int x2]) (rest := []) C (ct_X15_nextToken l X F k_x0 k_x1 eo_1) cw_X15_74 hW hZ k_x0 (by decide) rfl rfl rfl hl.1 (Nat.le_of_ble_eq_true rfl) rfl dX15_isHill_3 ⟨Nat.le_of_ble_eq_true rfl, Nat.le_of_ble_eq_true rfl⟩ ⟨Nat.le_refl _, Nat.le_refl _⟩) hZ (fun _ _ hW km hZ => ?_)
  replace hkm := hkm.tr km
  replace k_x0 := km.at k_x0 (by decide)
  replace k_x1 := km.at k_x1 (by decide)
  refine lv_iconst (v := (0 : Int32)) C.1 C.2.1 dX15_isHill_6 (by decide) ?_
  refine lv_istore_n (lv' := [(3, .int (0 : Int32)), (0, .ref x0), (1, .ref x1), (2, .int x2)]) C.1 C.2.1 dX15_isHill_7 rfl hl (by decide) rfl (fun ls hl => ?_)
  exact bX15_isHill_8 C F k_x0 k_x1 hkm hW hZ _ (lv_sub hl [1, 2, 3, 0] rfl) hE
set_option maxRecDepth 100000 in
theorem n_1849 : Cond.fieldLinkNest RX15 242 (TX14 22).1 (TX14 22).2.1 (TX14 22).2.2.1 "GameRulesModel" ∈ tables_1 := List.mem_of_getElem? (i := 1849) rfl
set_option maxRecDepth 100000 in
theorem n_1851 : Cond.fieldLinkNest RX15 244 (TX14 23).1 (TX14 23).2.1 (TX14 23).2.2.1 "GameRulesModel" ∈ tables_1 := List.mem_of_getElem? (i := 1851) rfl
section
variable {p : Program} {l : Launch} {e : Env} {R : Room} {s : State} {m : MethodId} {args : Array Value} {below : List Frame} {meth : Method} {c : Code} {H : Heap} {locs : List Loc} {cells slots : Nat} {Q : State → Prop}
variable {cc : ByteArray} {pc : Nat} {ls : Array Slot} {rest : List Value} {X : Ec} {h h1 : Hp} {nL : Nat} {rt : Option FieldType} {mn : String}
theorem pf_X15_244 {a : Nat} {v : Int32} (C : Cx X p s m args meth c RX15 cc nL rt mn) (hW : Wx X h H) (hZ : va_S (aA (eB X)) s.heap H locs) (ha : hK h a = 14) (eh : h1 = wI h a 23 v) (hdg : decode cc pc = .ok (.putfield 244, 3)) (kk : ∀ (H1 : Heap) (locs1 : List Loc), Wx X h1 H1 → Km h h1 → va_S (aA (eB X)) s.heap H1 locs1 → W p l e R s m args below meth c H1 locs1 cells slots Q (F0 m (pc + 3) ls rest)) : W p l e R s m args below meth c H locs cells slots Q (F0 m pc ls (.int v :: .ref a :: rest)) :=
  y_putiN (ty := .int) C hW hZ ha i_X14 tyX14 tyX14_ok nmX14 (by decide) rfl rfl (by decide) n_1851 rfl (by decide +kernel) rfl rfl rfl eh hdg kk
theorem pf_X15_242 {a : Nat} {v : Int32} (C : Cx X p s m args meth c RX15 cc nL rt mn) (hW : Wx X h H) (hZ : va_S (aA (eB X)) s.heap H locs) (ha : hK h a = 14) (eh : h1 = wI h a 22 v) (hdg : decode cc pc = .ok (.putfield 242, 3)) (kk : ∀ (H1 : Heap) (locs1 : List Loc), Wx X h1 H1 → Km h h1 → va_S (aA (eB X)) s.heap H1 locs1 → W p l e R s m args below meth c H1 locs1 cells slots Q (F0 m (pc + 3) ls rest)) : W p l e R s m args below meth c H locs cells slots Q (F0 m pc ls (.int v :: .ref a :: rest)) :=
  y_putiN (ty := .int) C hW hZ ha i_X14 tyX14 tyX14_ok nmX14 (by decide) rfl rfl (by decide) n_1849 rfl (by decide +kernel) rfl rfl rfl eh hdg kk
end
theorem dX15_isOutcome_0 : decode cX15_isOutcome 0 = .ok (.aload_n 0, 1) := by decide +kernel
theorem dX15_isOutcome_1 : decode cX15_isOutcome 1 = .ok (.aload_n 1, 1) := by decide +kernel
theorem dX15_isOutcome_2 : decode cX15_isOutcome 2 = .ok (.iload_n 2, 1) := by decide +kernel
theorem dX15_isOutcome_3 : decode cX15_isOutcome 3 = .ok (.invokevirtual 74, 3) := by decide +kernel
theorem dX15_isOutcome_6 : decode cX15_isOutcome 6 = .ok (.aload_n 0, 1) := by decide +kernel
theorem dX15_isOutcome_7 : decode cX15_isOutcome 7 = .ok (.aload_n 1, 1) := by decide +kernel
theorem dX15_isOutcome_8 : decode cX15_isOutcome 8 = .ok (.ldc 238, 2) := by decide +kernel
theorem dX15_isOutcome_10 : decode cX15_isOutcome 10 = .ok (.invokevirtual 80, 3) := by decide +kernel
theorem dX15_isOutcome_13 : decode cX15_isOutcome 13 = .ok (.ifCond .eq 7, 3) := by decide +kernel
theorem dX15_isOutcome_16 : decode cX15_isOutcome 16 = .ok (.iconst 1, 1) := by decide +kernel
theorem dX15_isOutcome_17 : decode cX15_isOutcome 17 = .ok (.goto 18, 3) := by decide +kernel
theorem dX15_isOutcome_20 : decode cX15_isOutcome 20 = .ok (.aload_n 0, 1) := by decide +kernel
theorem dX15_isOutcome_21 : decode cX15_isOutcome 21 = .ok (.aload_n 1, 1) := by decide +kernel
theorem dX15_isOutcome_22 : decode cX15_isOutcome 22 = .ok (.ldc 240, 2) := by decide +kernel
theorem dX15_isOutcome_24 : decode cX15_isOutcome 24 = .ok (.invokevirtual 80, 3) := by decide +kernel
theorem dX15_isOutcome_27 : decode cX15_isOutcome 27 = .ok (.ifCond .eq 7, 3) := by decide +kernel
theorem dX15_isOutcome_30 : decode cX15_isOutcome 30 = .ok (.iconst 2, 1) := by decide +kernel
theorem dX15_isOutcome_31 : decode cX15_isOutcome 31 = .ok (.goto 4, 3) := by decide +kernel
theorem dX15_isOutcome_34 : decode cX15_isOutcome 34 = .ok (.iconst 0, 1) := by decide +kernel
theorem dX15_isOutcome_35 : decode cX15_isOutcome 35 = .ok (.istore 4, 2) := by decide +kernel
theorem dX15_isOutcome_37 : decode cX15_isOutcome 37 = .ok (.iload 4, 2) := by decide +kernel
theorem dX15_isOutcome_39 : decode cX15_isOutcome 39 = .ok (.ifCond .ne 5, 3) := by decide +kernel
theorem dX15_isOutcome_42 : decode cX15_isOutcome 42 = .ok (.iconst 0, 1) := by decide +kernel
theorem dX15_isOutcome_43 : decode cX15_isOutcome 43 = .ok (.ireturn, 1) := by decide +kernel
theorem dX15_isOutcome_44 : decode cX15_isOutcome 44 = .ok (.iload_n 3, 1) := by decide +kernel
theorem dX15_isOutcome_45 : decode cX15_isOutcome 45 = .ok (.ifCond .eq 15, 3) := by decide +kernel
theorem dX15_isOutcome_48 : decode cX15_isOutcome 48 = .ok (.aload_n 0, 1) := by decide +kernel
theorem dX15_isOutcome_49 : decode cX15_isOutcome 49 = .ok (.getfield 57, 3) := by decide +kernel
theorem dX15_isOutcome_52 : decode cX15_isOutcome 52 = .ok (.iload 4, 2) := by decide +kernel
theorem dX15_isOutcome_54 : decode cX15_isOutcome 54 = .ok (.putfield 242, 3) := by decide +kernel
theorem dX15_isOutcome_57 : decode cX15_isOutcome 57 = .ok (.goto 12, 3) := by decide +kernel
theorem dX15_isOutcome_60 : decode cX15_isOutcome 60 = .ok (.aload_n 0, 1) := by decide +kernel
theorem dX15_isOutcome_61 : decode cX15_isOutcome 61 = .ok (.getfield 57, 3) := by decide +kernel
theorem dX15_isOutcome_64 : decode cX15_isOutcome 64 = .ok (.iload 4, 2) := by decide +kernel
theorem dX15_isOutcome_66 : decode cX15_isOutcome 66 = .ok (.putfield 244, 3) := by decide +kernel
theorem dX15_isOutcome_69 : decode cX15_isOutcome 69 = .ok (.aload_n 0, 1) := by decide +kernel
theorem dX15_isOutcome_70 : decode cX15_isOutcome 70 = .ok (.aload_n 1, 1) := by decide +kernel
theorem dX15_isOutcome_71 : decode cX15_isOutcome 71 = .ok (.iload_n 2, 1) := by decide +kernel
theorem dX15_isOutcome_72 : decode cX15_isOutcome 72 = .ok (.invokevirtual 129, 3) := by decide +kernel
theorem dX15_isOutcome_75 : decode cX15_isOutcome 75 = .ok (.ireturn, 1) := by decide +kernel
set_option maxRecDepth 20000 in
theorem moX15_isOutcome_69 {o : Int32 × Hp} {F : Nat} {h : Hp} {x0 : Nat} {x1 : Nat} {x2 : Int32} (hE : sX15_isOutcome_69 F h x0 x1 x2 = some o) : Le h o.2 := by
  obtain ⟨o_1, eo_1, hE⟩ := cl_e hE
  refine (moX15_goesOn eo_1).tr ?_
  obtain ⟨g_2, hE⟩ := gd_e hE
  exact le_some2 hE
set_option maxRecDepth 20000 in
theorem moX15_isOutcome_35 {o : Int32 × Hp} {F : Nat} {h : Hp} {x0 : Nat} {x1 : Nat} {x2 : Int32} {x3 : Int32} {t0 : Int32} (hE : sX15_isOutcome_35 F h x0 x1 x2 x3 t0 = some o) : Le h o.2 := by
  rcases br_e hE with ⟨_, hE⟩ | ⟨_, hE⟩
  · exact le_some2 hE
  · rcases br_e hE with ⟨_, hE⟩ | ⟨_, hE⟩
    · obtain ⟨r_3, er_3, hE⟩ := cl_e hE
      obtain ⟨h_4, eh_4, hE⟩ := nm_e2 hE
      refine (le_I eh_4).tr ?_
      exact moX15_isOutcome_69 hE
    · obtain ⟨r_5, er_5, hE⟩ := cl_e hE
      obtain ⟨h_6, eh_6, hE⟩ := nm_e2 hE
      refine (le_I eh_6).tr ?_
      exact moX15_isOutcome_69 hE
set_option maxRecDepth 20000 in
theorem moX15_isOutcome {o : Int32 × Hp} {F : Nat} {h : Hp} {x0 : Nat} {x1 : Nat} {x2 : Int32} {x3 : Int32} (hE : sX15_isOutcome F h x0 x1 x2 x3 = some o) : Le h o.2 := by
  obtain ⟨o_1, eo_1, hE⟩ := cl_e hE
  refine (moX15_nextToken eo_1).tr ?_
  obtain ⟨o_2, eo_2, hE⟩ := cl_e hE
  refine (moX15_isWord eo_2).tr ?_
  rcases br_e hE with ⟨_, hE⟩ | ⟨_, hE⟩
  · obtain ⟨o_4, eo_4, hE⟩ := cl_e hE
    refine (moX15_isWord eo_4).tr ?_
    rcases br_e hE with ⟨_, hE⟩ | ⟨_, hE⟩
    · exact moX15_isOutcome_35 hE
    · exact moX15_isOutcome_35 hE
  · exact moX15_isOutcome_35 hE
set_option maxRecDepth 20000 in
theorem bX15_isOutcome_69 {p : Program} {l : Launch} {e : Env} {s : State} {m : MethodId} {args : Array Value} {below : List Frame} {meth : Method} {c : Code} {X : Ec} {h0 : Hp} {o : Int32 × Hp} {F : Nat} (C : Cx X p s m args meth c RX15 cX15_isOutcome 5 (some .boolean) "isOutcome") {h : Hp} {x0 : Nat} {x1 : Nat} {x2 : Int32} {H : Heap} {locs : List Loc} (k_x0 : hK h x0 = 15) (k_x1 : hK h x1 = 16) (hkm : Km h0 h) (hW : Wx X h H) (hZ : va_S (aA (eB X)) s.heap H locs) (ls : Array Slot) (hl : lv_has ls 5 [(0, .ref x0), (1, .ref x1), (2, .int x2)]) (hE : sX15_isOutcome_69 F h x0 x1 x2 = some o) : W p l e (rm 5 108) s m args below meth c H locs 0 0 (MQ below (QI X h0 o.1 o.2) args s 0 0 (aA (eB X))) (F0 m 69 ls []) := by
  refine lv_aload_n C.1 C.2.1 dX15_isOutcome_69 rfl (lv_at hl 0 rfl) ?_
  refine lv_aload_n C.1 C.2.1 dX15_isOutcome_70 rfl (lv_at hl 1 rfl) ?_
  refine lv_iload_n C.1 C.2.1 dX15_isOutcome_71 rfl (lv_at hl 2 rfl) ?_
  obtain ⟨o_1, eo_1, hE⟩ := cl_e hE
  refine x_kI (o := o_1) (z_runV (As := [.ref x1, .int x2]) (rest := []) C (ct_X15_goesOn l X F k_x0 k_x1 eo_1) cw_X15_129 hW hZ k_x0 (by decide) rfl rfl rfl hl.1 (Nat.le_of_ble_eq_true rfl) rfl dX15_isOutcome_72 ⟨Nat.le_of_ble_eq_true rfl, Nat.le_of_ble_eq_true rfl⟩ ⟨Nat.le_refl _, Nat.le_refl _⟩) hZ (fun _ _ hW km hZ => ?_)
  replace hkm := hkm.tr km
  replace k_x0 := km.at k_x0 (by decide)
  replace k_x1 := km.at k_x1 (by decide)
  obtain ⟨g_2, hE⟩ := gd_e hE
  exact x_iret C rfl (narB g_2) hW hZ hkm hE dX15_isOutcome_75
set_option maxRecDepth 20000 in
theorem bX15_isOutcome_35 {p : Program} {l : Launch} {e : Env} {s : State} {m : MethodId} {args : Array Value} {below : List Frame} {meth : Method} {c : Code} {X : Ec} {h0 : Hp} {o : Int32 × Hp} {F : Nat} (C : Cx X p s m args meth c RX15 cX15_isOutcome 5 (some .boolean) "isOutcome") {h : Hp} {x0 : Nat} {x1 : Nat} {x2 : Int32} {x3 : Int32} {t0 : Int32} {H : Heap} {locs : List Loc} (k_x0 : hK h x0 = 15) (k_x1 : hK h x1 = 16) (hkm : Km h0 h) (hW : Wx X h H) (hZ : va_S (aA (eB X)) s.heap H locs) (ls : Array Slot) (hl : lv_has ls 5 [(0, .ref x0), (1, .ref x1), (2, .int x2), (3, .int x3)]) (hE : sX15_isOutcome_35 F h x0 x1 x2 x3 t0 = some o) : W p l e (rm 5 108) s m args below meth c H locs 0 0 (MQ below (QI X h0 o.1 o.2) args s 0 0 (aA (eB X))) (F0 m 35 ls [.int t0]) := by
  refine lv_istore (lv' := [(4, .int t0), (0, .ref x0), (1, .ref x1), (2, .int x2), (3, .int x3)]) C.1 C.2.1 dX15_isOutcome_35 hl (by decide) rfl (fun ls hl => ?_)
  refine lv_iload C.1 C.2.1 dX15_isOutcome_37 (lv_at hl 0 rfl) ?_
  refine lv_if_ne (tgt := 44) C.1 C.2.1 dX15_isOutcome_39 (by decide) (fun c_1 => ?_) (fun c_1 => ?_)
  · have hE := br_n hE c_1
    refine lv_iload_n C.1 C.2.1 dX15_isOutcome_44 rfl (lv_at hl 4 rfl) ?_
    refine lv_if_eq (tgt := 60) C.1 C.2.1 dX15_isOutcome_45 (by decide) (fun c_2 => ?_) (fun c_2 => ?_)
    · have hE := br_p hE c_2
      refine lv_aload_n C.1 C.2.1 dX15_isOutcome_60 rfl (lv_at hl 1 rfl) ?_
      obtain ⟨r_3, er_3, hE⟩ := cl_e hE
      refine gf_X15_57 C hW k_x0 er_3 dX15_isOutcome_61 (fun k_r_3 => ?_)
      refine lv_iload C.1 C.2.1 dX15_isOutcome_64 (lv_at hl 0 rfl) ?_
      obtain ⟨h_4, eh_4, hE⟩ := nm_e2 hE
      refine pf_X15_244 C hW hZ k_r_3 eh_4 dX15_isOutcome_66 (fun _ _ hW km hZ => ?_)
      replace hkm := hkm.tr km
      replace k_x0 := km.at k_x0 (by decide)
      replace k_x1 := km.at k_x1 (by decide)
      exact bX15_isOutcome_69 C k_x0 k_x1 hkm hW hZ _ (lv_sub hl [1, 2, 3] rfl) hE
    · have hE := br_n hE c_2
      refine lv_aload_n C.1 C.2.1 dX15_isOutcome_48 rfl (lv_at hl 1 rfl) ?_
      obtain ⟨r_5, er_5, hE⟩ := cl_e hE
      refine gf_X15_57 C hW k_x0 er_5 dX15_isOutcome_49 (fun k_r_5 => ?_)
      refine lv_iload C.1 C.2.1 dX15_isOutcome_52 (lv_at hl 0 rfl) ?_
      obtain ⟨h_6, eh_6, hE⟩ := nm_e2 hE
      refine pf_X15_242 C hW hZ k_r_5 eh_6 dX15_isOutcome_54 (fun _ _ hW km hZ => ?_)
      replace hkm := hkm.tr km
      replace k_x0 := km.at k_x0 (by decide)
      replace k_x1 := km.at k_x1 (by decide)
      refine lv_goto (tgt := 69) C.1 C.2.1 dX15_isOutcome_57 (by decide) ?_
      exact bX15_isOutcome_69 C k_x0 k_x1 hkm hW hZ _ (lv_sub hl [1, 2, 3] rfl) hE
  · have hE := br_p hE c_1
    refine lv_iconst (v := (0 : Int32)) C.1 C.2.1 dX15_isOutcome_42 (by decide) ?_
    exact x_iret C rfl (by decide) hW hZ hkm hE dX15_isOutcome_43
set_option maxRecDepth 20000 in
theorem ct_X15_isOutcome (l : Launch) (X : Ec) (F : Nat) {h : Hp} {x0 : Nat} {x1 : Nat} {x2 : Int32} {x3 : Int32} {o : Int32 × Hp} (k_x0 : hK h x0 = 15) (k_x1 : hK h x1 = 16) (hE : sX15_isOutcome F h x0 x1 x2 x3 = some o) : MetI l yX15_isOutcome cX15_isOutcome 5 (some .boolean) 5 108 X [.ref x0, .ref x1, .int x2, .int x3] h o := by
  refine x_met (by decide) (Nat.le_of_ble_eq_true rfl) ?_
  intro p e s m below meth c ls C hl hW hZ
  have hl : lv_has ls 5 [(0, .ref x0), (1, .ref x1), (2, .int x2), (3, .int x3)] := hl
  have hkm : Km h h := Km.rf h
  refine lv_aload_n C.1 C.2.1 dX15_isOutcome_0 rfl (lv_at hl 0 rfl) ?_
  refine lv_aload_n C.1 C.2.1 dX15_isOutcome_1 rfl (lv_at hl 1 rfl) ?_
  refine lv_iload_n C.1 C.2.1 dX15_isOutcome_2 rfl (lv_at hl 2 rfl) ?_
  obtain ⟨o_1, eo_1, hE⟩ := cl_e hE
  refine x_kV (o := o_1) (z_runV (As := [.ref x1, .int x2]) (rest := []) C (ct_X15_nextToken l X F k_x0 k_x1 eo_1) cw_X15_74 hW hZ k_x0 (by decide) rfl rfl rfl hl.1 (Nat.le_of_ble_eq_true rfl) rfl dX15_isOutcome_3 ⟨Nat.le_of_ble_eq_true rfl, Nat.le_of_ble_eq_true rfl⟩ ⟨Nat.le_refl _, Nat.le_refl _⟩) hZ (fun _ _ hW km hZ => ?_)
  replace hkm := hkm.tr km
  replace k_x0 := km.at k_x0 (by decide)
  replace k_x1 := km.at k_x1 (by decide)
  refine lv_aload_n C.1 C.2.1 dX15_isOutcome_6 rfl (lv_at hl 0 rfl) ?_
  refine lv_aload_n C.1 C.2.1 dX15_isOutcome_7 rfl (lv_at hl 1 rfl) ?_
  refine va_ldcS C.1 C.2.1 C.2.2.2.1 (C.2.2.2.2.2.2.2.2.1 49 (by decide)).2 dX15_isOutcome_8 ?_
  obtain ⟨o_2, eo_2, hE⟩ := cl_e hE
  refine x_kI (o := o_2) (z_runV (As := [.ref x1, .ref (X.2.2.2.1 49)]) (rest := []) C (ct_X15_isWord l X F k_x0 k_x1 (by decide) eo_2) cw_X15_80 hW hZ k_x0 (by decide) rfl rfl rfl hl.1 (Nat.le_of_ble_eq_true rfl) rfl dX15_isOutcome_10 ⟨Nat.le_of_ble_eq_true rfl, Nat.le_of_ble_eq_true rfl⟩ ⟨Nat.le_refl _, Nat.le_refl _⟩) hZ (fun _ _ hW km hZ => ?_)
  replace hkm := hkm.tr km
  replace k_x0 := km.at k_x0 (by decide)
  replace k_x1 := km.at k_x1 (by decide)
  refine lv_if_eq (tgt := 20) C.1 C.2.1 dX15_isOutcome_13 (by decide) (fun c_3 => ?_) (fun c_3 => ?_)
  · have hE := br_p hE c_3
    refine lv_aload_n C.1 C.2.1 dX15_isOutcome_20 rfl (lv_at hl 0 rfl) ?_
    refine lv_aload_n C.1 C.2.1 dX15_isOutcome_21 rfl (lv_at hl 1 rfl) ?_
    refine va_ldcS C.1 C.2.1 C.2.2.2.1 (C.2.2.2.2.2.2.2.2.1 50 (by decide)).2 dX15_isOutcome_22 ?_
    obtain ⟨o_4, eo_4, hE⟩ := cl_e hE
    refine x_kI (o := o_4) (z_runV (As := [.ref x1, .ref (X.2.2.2.1 50)]) (rest := []) C (ct_X15_isWord l X F k_x0 k_x1 (by decide) eo_4) cw_X15_80 hW hZ k_x0 (by decide) rfl rfl rfl hl.1 (Nat.le_of_ble_eq_true rfl) rfl dX15_isOutcome_24 ⟨Nat.le_of_ble_eq_true rfl, Nat.le_of_ble_eq_true rfl⟩ ⟨Nat.le_refl _, Nat.le_refl _⟩) hZ (fun _ _ hW km hZ => ?_)
    replace hkm := hkm.tr km
    replace k_x0 := km.at k_x0 (by decide)
    replace k_x1 := km.at k_x1 (by decide)
    refine lv_if_eq (tgt := 34) C.1 C.2.1 dX15_isOutcome_27 (by decide) (fun c_5 => ?_) (fun c_5 => ?_)
    · have hE := br_p hE c_5
      refine lv_iconst (v := (0 : Int32)) C.1 C.2.1 dX15_isOutcome_34 (by decide) ?_
      exact bX15_isOutcome_35 C k_x0 k_x1 hkm hW hZ _ (lv_sub hl [0, 1, 2, 3] rfl) hE
    · have hE := br_n hE c_5
      refine lv_iconst (v := (2 : Int32)) C.1 C.2.1 dX15_isOutcome_30 (by decide) ?_
      refine lv_goto (tgt := 35) C.1 C.2.1 dX15_isOutcome_31 (by decide) ?_
      exact bX15_isOutcome_35 C k_x0 k_x1 hkm hW hZ _ (lv_sub hl [0, 1, 2, 3] rfl) hE
  · have hE := br_n hE c_3
    refine lv_iconst (v := (1 : Int32)) C.1 C.2.1 dX15_isOutcome_16 (by decide) ?_
    refine lv_goto (tgt := 35) C.1 C.2.1 dX15_isOutcome_17 (by decide) ?_
    exact bX15_isOutcome_35 C k_x0 k_x1 hkm hW hZ _ (lv_sub hl [0, 1, 2, 3] rfl) hE
set_option maxRecDepth 100000 in
theorem ms_132 : Cond.selects RX15 yX15_isOutcome yX15_isOutcome ∈ W0 := w0_in (List.mem_append_left _ (List.mem_of_getElem? (i := 132) rfl)) rfl
set_option maxRecDepth 100000 in
theorem ms_131 : Cond.selects RX15 yX15_isHill yX15_isHill ∈ W0 := w0_in (List.mem_append_left _ (List.mem_of_getElem? (i := 131) rfl)) rfl
set_option maxRecDepth 100000 in
theorem ms_130 : Cond.selects RX15 yX15_isChecks yX15_isChecks ∈ W0 := w0_in (List.mem_append_left _ (List.mem_of_getElem? (i := 130) rfl)) rfl
set_option maxRecDepth 100000 in
theorem ms_129 : Cond.selects RX15 yX15_isBlast yX15_isBlast ∈ W0 := w0_in (List.mem_append_left _ (List.mem_of_getElem? (i := 129) rfl)) rfl
set_option maxRecDepth 100000 in
theorem ms_128 : Cond.selects RX15 yX15_isCastle yX15_isCastle ∈ W0 := w0_in (List.mem_append_left _ (List.mem_of_getElem? (i := 128) rfl)) rfl
set_option maxRecDepth 100000 in
theorem ms_126 : Cond.selects RX15 yX15_isRoyal yX15_isRoyal ∈ W0 := w0_in (List.mem_append_left _ (List.mem_of_getElem? (i := 126) rfl)) rfl
set_option maxRecDepth 100000 in
theorem ms_125 : Cond.selects RX15 yX15_isOnce yX15_isOnce ∈ W0 := w0_in (List.mem_append_left _ (List.mem_of_getElem? (i := 125) rfl)) rfl
set_option maxRecDepth 100000 in
theorem ms_124 : Cond.selects RX15 yX15_isBecoming yX15_isBecoming ∈ W0 := w0_in (List.mem_append_left _ (List.mem_of_getElem? (i := 124) rfl)) rfl
set_option maxRecDepth 100000 in
theorem ms_120 : Cond.selects RX15 yX15_isMan yX15_isMan ∈ W0 := w0_in (List.mem_append_left _ (List.mem_of_getElem? (i := 120) rfl)) rfl
set_option maxRecDepth 100000 in
theorem n_1835 : Cond.fieldLinkNest RX15 126 (TX14 15).1 (TX14 15).2.1 (TX14 15).2.2.1 "GameRulesModel" ∈ tables_1 := List.mem_of_getElem? (i := 1835) rfl
set_option maxRecDepth 100000 in
theorem n_1837 : Cond.fieldLinkNest RX15 134 (TX14 16).1 (TX14 16).2.1 (TX14 16).2.2.1 "GameRulesModel" ∈ tables_1 := List.mem_of_getElem? (i := 1837) rfl
set_option maxRecDepth 100000 in
theorem n_1839 : Cond.fieldLinkNest RX15 138 (TX14 17).1 (TX14 17).2.1 (TX14 17).2.2.1 "GameRulesModel" ∈ tables_1 := List.mem_of_getElem? (i := 1839) rfl
set_option maxRecDepth 100000 in
theorem n_1841 : Cond.fieldLinkNest RX15 142 (TX14 18).1 (TX14 18).2.1 (TX14 18).2.2.1 "GameRulesModel" ∈ tables_1 := List.mem_of_getElem? (i := 1841) rfl
set_option maxRecDepth 100000 in
theorem m_2026 : Cond.methodLink RX15 103 yX15_isMan ∈ W0 := w0_in (List.mem_append_right _ (List.mem_of_getElem? (i := 2026) rfl)) rfl
set_option maxRecDepth 100000 in
theorem m_2028 : Cond.instanceMethod yX15_isMan ∈ W0 := w0_in (List.mem_append_right _ (List.mem_of_getElem? (i := 2028) rfl)) rfl
set_option maxRecDepth 100000 in
theorem m_2029 : Cond.code yX15_isMan cX15_isMan 4 (some .boolean) ∈ W0 := w0_in (List.mem_append_right _ (List.mem_of_getElem? (i := 2029) rfl)) rfl
set_option maxRecDepth 100000 in
theorem m_2055 : Cond.methodLink RX15 108 yX15_isBecoming ∈ W0 := w0_in (List.mem_append_right _ (List.mem_of_getElem? (i := 2055) rfl)) rfl
set_option maxRecDepth 100000 in
theorem m_2057 : Cond.instanceMethod yX15_isBecoming ∈ W0 := w0_in (List.mem_append_right _ (List.mem_of_getElem? (i := 2057) rfl)) rfl
set_option maxRecDepth 100000 in
theorem m_2058 : Cond.code yX15_isBecoming cX15_isBecoming 8 (some .boolean) ∈ W0 := w0_in (List.mem_append_right _ (List.mem_of_getElem? (i := 2058) rfl)) rfl
set_option maxRecDepth 100000 in
theorem m_2064 : Cond.methodLink RX15 113 yX15_isOnce ∈ W0 := w0_in (List.mem_append_right _ (List.mem_of_getElem? (i := 2064) rfl)) rfl
set_option maxRecDepth 100000 in
theorem m_2066 : Cond.instanceMethod yX15_isOnce ∈ W0 := w0_in (List.mem_append_right _ (List.mem_of_getElem? (i := 2066) rfl)) rfl
set_option maxRecDepth 100000 in
theorem m_2067 : Cond.code yX15_isOnce cX15_isOnce 3 (some .boolean) ∈ W0 := w0_in (List.mem_append_right _ (List.mem_of_getElem? (i := 2067) rfl)) rfl
set_option maxRecDepth 100000 in
theorem m_2068 : Cond.methodLink RX15 116 yX15_isRoyal ∈ W0 := w0_in (List.mem_append_right _ (List.mem_of_getElem? (i := 2068) rfl)) rfl
set_option maxRecDepth 100000 in
theorem m_2070 : Cond.instanceMethod yX15_isRoyal ∈ W0 := w0_in (List.mem_append_right _ (List.mem_of_getElem? (i := 2070) rfl)) rfl
set_option maxRecDepth 100000 in
theorem m_2071 : Cond.code yX15_isRoyal cX15_isRoyal 4 (some .boolean) ∈ W0 := w0_in (List.mem_append_right _ (List.mem_of_getElem? (i := 2071) rfl)) rfl
set_option maxRecDepth 100000 in
theorem m_2077 : Cond.methodLink RX15 121 yX15_isCastle ∈ W0 := w0_in (List.mem_append_right _ (List.mem_of_getElem? (i := 2077) rfl)) rfl
set_option maxRecDepth 100000 in
theorem m_2079 : Cond.instanceMethod yX15_isCastle ∈ W0 := w0_in (List.mem_append_right _ (List.mem_of_getElem? (i := 2079) rfl)) rfl
set_option maxRecDepth 100000 in
theorem m_2080 : Cond.code yX15_isCastle cX15_isCastle 4 (some .boolean) ∈ W0 := w0_in (List.mem_append_right _ (List.mem_of_getElem? (i := 2080) rfl)) rfl
set_option maxRecDepth 100000 in
theorem m_2085 : Cond.methodLink RX15 144 yX15_isBlast ∈ W0 := w0_in (List.mem_append_right _ (List.mem_of_getElem? (i := 2085) rfl)) rfl
set_option maxRecDepth 100000 in
theorem m_2087 : Cond.instanceMethod yX15_isBlast ∈ W0 := w0_in (List.mem_append_right _ (List.mem_of_getElem? (i := 2087) rfl)) rfl
set_option maxRecDepth 100000 in
theorem m_2088 : Cond.code yX15_isBlast cX15_isBlast 4 (some .boolean) ∈ W0 := w0_in (List.mem_append_right _ (List.mem_of_getElem? (i := 2088) rfl)) rfl
set_option maxRecDepth 100000 in
theorem m_2090 : Cond.methodLink RX15 149 yX15_isChecks ∈ W0 := w0_in (List.mem_append_right _ (List.mem_of_getElem? (i := 2090) rfl)) rfl
set_option maxRecDepth 100000 in
theorem m_2092 : Cond.instanceMethod yX15_isChecks ∈ W0 := w0_in (List.mem_append_right _ (List.mem_of_getElem? (i := 2092) rfl)) rfl
set_option maxRecDepth 100000 in
theorem m_2093 : Cond.code yX15_isChecks cX15_isChecks 3 (some .boolean) ∈ W0 := w0_in (List.mem_append_right _ (List.mem_of_getElem? (i := 2093) rfl)) rfl
set_option maxRecDepth 100000 in
theorem m_2095 : Cond.methodLink RX15 154 yX15_isHill ∈ W0 := w0_in (List.mem_append_right _ (List.mem_of_getElem? (i := 2095) rfl)) rfl
set_option maxRecDepth 100000 in
theorem m_2097 : Cond.instanceMethod yX15_isHill ∈ W0 := w0_in (List.mem_append_right _ (List.mem_of_getElem? (i := 2097) rfl)) rfl
set_option maxRecDepth 100000 in
theorem m_2098 : Cond.code yX15_isHill cX15_isHill 5 (some .boolean) ∈ W0 := w0_in (List.mem_append_right _ (List.mem_of_getElem? (i := 2098) rfl)) rfl
set_option maxRecDepth 100000 in
theorem m_2100 : Cond.methodLink RX15 159 yX15_isOutcome ∈ W0 := w0_in (List.mem_append_right _ (List.mem_of_getElem? (i := 2100) rfl)) rfl
set_option maxRecDepth 100000 in
theorem m_2102 : Cond.instanceMethod yX15_isOutcome ∈ W0 := w0_in (List.mem_append_right _ (List.mem_of_getElem? (i := 2102) rfl)) rfl
set_option maxRecDepth 100000 in
theorem m_2103 : Cond.code yX15_isOutcome cX15_isOutcome 5 (some .boolean) ∈ W0 := w0_in (List.mem_append_right _ (List.mem_of_getElem? (i := 2103) rfl)) rfl
section
variable {p : Program} {l : Launch} {e : Env} {R : Room} {s : State} {m : MethodId} {args : Array Value} {below : List Frame} {meth : Method} {c : Code} {H : Heap} {locs : List Loc} {cells slots : Nat} {Q : State → Prop}
variable {cc : ByteArray} {pc : Nat} {ls : Array Slot} {rest : List Value} {X : Ec} {h h1 : Hp} {nL : Nat} {rt : Option FieldType} {mn : String}
theorem pf_X15_142 {a : Nat} {v : Int32} (C : Cx X p s m args meth c RX15 cc nL rt mn) (hW : Wx X h H) (hZ : va_S (aA (eB X)) s.heap H locs) (ha : hK h a = 14) (hn : narrow .boolean (.int v) = .int v) (eh : h1 = wI h a 18 v) (hdg : decode cc pc = .ok (.putfield 142, 3)) (kk : ∀ (H1 : Heap) (locs1 : List Loc), Wx X h1 H1 → Km h h1 → va_S (aA (eB X)) s.heap H1 locs1 → W p l e R s m args below meth c H1 locs1 cells slots Q (F0 m (pc + 3) ls rest)) : W p l e R s m args below meth c H locs cells slots Q (F0 m pc ls (.int v :: .ref a :: rest)) :=
  y_putiN (ty := .boolean) C hW hZ ha i_X14 tyX14 tyX14_ok nmX14 (by decide) rfl rfl (by decide) n_1841 rfl (by decide +kernel) rfl hn (fitZ hn) eh hdg kk
theorem pf_X15_138 {a : Nat} {v : Int32} (C : Cx X p s m args meth c RX15 cc nL rt mn) (hW : Wx X h H) (hZ : va_S (aA (eB X)) s.heap H locs) (ha : hK h a = 14) (hn : narrow .boolean (.int v) = .int v) (eh : h1 = wI h a 17 v) (hdg : decode cc pc = .ok (.putfield 138, 3)) (kk : ∀ (H1 : Heap) (locs1 : List Loc), Wx X h1 H1 → Km h h1 → va_S (aA (eB X)) s.heap H1 locs1 → W p l e R s m args below meth c H1 locs1 cells slots Q (F0 m (pc + 3) ls rest)) : W p l e R s m args below meth c H locs cells slots Q (F0 m pc ls (.int v :: .ref a :: rest)) :=
  y_putiN (ty := .boolean) C hW hZ ha i_X14 tyX14 tyX14_ok nmX14 (by decide) rfl rfl (by decide) n_1839 rfl (by decide +kernel) rfl hn (fitZ hn) eh hdg kk
theorem pf_X15_134 {a : Nat} {v : Int32} (C : Cx X p s m args meth c RX15 cc nL rt mn) (hW : Wx X h H) (hZ : va_S (aA (eB X)) s.heap H locs) (ha : hK h a = 14) (hn : narrow .boolean (.int v) = .int v) (eh : h1 = wI h a 16 v) (hdg : decode cc pc = .ok (.putfield 134, 3)) (kk : ∀ (H1 : Heap) (locs1 : List Loc), Wx X h1 H1 → Km h h1 → va_S (aA (eB X)) s.heap H1 locs1 → W p l e R s m args below meth c H1 locs1 cells slots Q (F0 m (pc + 3) ls rest)) : W p l e R s m args below meth c H locs cells slots Q (F0 m pc ls (.int v :: .ref a :: rest)) :=
  y_putiN (ty := .boolean) C hW hZ ha i_X14 tyX14 tyX14_ok nmX14 (by decide) rfl rfl (by decide) n_1837 rfl (by decide +kernel) rfl hn (fitZ hn) eh hdg kk
theorem pf_X15_126 {a : Nat} {v : Int32} (C : Cx X p s m args meth c RX15 cc nL rt mn) (hW : Wx X h H) (hZ : va_S (aA (eB X)) s.heap H locs) (ha : hK h a = 14) (hn : narrow .boolean (.int v) = .int v) (eh : h1 = wI h a 15 v) (hdg : decode cc pc = .ok (.putfield 126, 3)) (kk : ∀ (H1 : Heap) (locs1 : List Loc), Wx X h1 H1 → Km h h1 → va_S (aA (eB X)) s.heap H1 locs1 → W p l e R s m args below meth c H1 locs1 cells slots Q (F0 m (pc + 3) ls rest)) : W p l e R s m args below meth c H locs cells slots Q (F0 m pc ls (.int v :: .ref a :: rest)) :=
  y_putiN (ty := .boolean) C hW hZ ha i_X14 tyX14 tyX14_ok nmX14 (by decide) rfl rfl (by decide) n_1835 rfl (by decide +kernel) rfl hn (fitZ hn) eh hdg kk
end
theorem cw_X15_113 : cwd RX15 113 yX15_isOnce cX15_isOnce 3 (some .boolean) false 1 := ⟨m_2067, m_2064, m_19, ⟨m_2066, ms_125⟩, by decide, by decide, by decide +kernel⟩
theorem cw_X15_159 : cwd RX15 159 yX15_isOutcome cX15_isOutcome 5 (some .boolean) false 3 := ⟨m_2103, m_2100, m_19, ⟨m_2102, ms_132⟩, by decide, by decide, by decide +kernel⟩
theorem cw_X15_154 : cwd RX15 154 yX15_isHill cX15_isHill 5 (some .boolean) false 2 := ⟨m_2098, m_2095, m_19, ⟨m_2097, ms_131⟩, by decide, by decide, by decide +kernel⟩
theorem cw_X15_149 : cwd RX15 149 yX15_isChecks cX15_isChecks 3 (some .boolean) false 2 := ⟨m_2093, m_2090, m_19, ⟨m_2092, ms_130⟩, by decide, by decide, by decide +kernel⟩
theorem cw_X15_144 : cwd RX15 144 yX15_isBlast cX15_isBlast 4 (some .boolean) false 2 := ⟨m_2088, m_2085, m_19, ⟨m_2087, ms_129⟩, by decide, by decide, by decide +kernel⟩
theorem cw_X15_121 : cwd RX15 121 yX15_isCastle cX15_isCastle 4 (some .boolean) false 2 := ⟨m_2080, m_2077, m_19, ⟨m_2079, ms_128⟩, by decide, by decide, by decide +kernel⟩
theorem cw_X15_116 : cwd RX15 116 yX15_isRoyal cX15_isRoyal 4 (some .boolean) false 2 := ⟨m_2071, m_2068, m_19, ⟨m_2070, ms_126⟩, by decide, by decide, by decide +kernel⟩
theorem cw_X15_108 : cwd RX15 108 yX15_isBecoming cX15_isBecoming 8 (some .boolean) false 2 := ⟨m_2058, m_2055, m_19, ⟨m_2057, ms_124⟩, by decide, by decide, by decide +kernel⟩
theorem cw_X15_103 : cwd RX15 103 yX15_isMan cX15_isMan 4 (some .boolean) false 2 := ⟨m_2029, m_2026, m_19, ⟨m_2028, ms_120⟩, by decide, by decide, by decide +kernel⟩
theorem dX15_isSentence_0 : decode cX15_isSentence 0 = .ok (.aload_n 0, 1) := by decide +kernel
theorem dX15_isSentence_1 : decode cX15_isSentence 1 = .ok (.aload_n 1, 1) := by decide +kernel
theorem dX15_isSentence_2 : decode cX15_isSentence 2 = .ok (.ldc 101, 2) := by decide +kernel
theorem dX15_isSentence_4 : decode cX15_isSentence 4 = .ok (.invokevirtual 80, 3) := by decide +kernel
theorem dX15_isSentence_7 : decode cX15_isSentence 7 = .ok (.ifCond .eq 10, 3) := by decide +kernel
theorem dX15_isSentence_10 : decode cX15_isSentence 10 = .ok (.aload_n 0, 1) := by decide +kernel
theorem dX15_isSentence_11 : decode cX15_isSentence 11 = .ok (.aload_n 1, 1) := by decide +kernel
theorem dX15_isSentence_12 : decode cX15_isSentence 12 = .ok (.iload_n 2, 1) := by decide +kernel
theorem dX15_isSentence_13 : decode cX15_isSentence 13 = .ok (.invokevirtual 103, 3) := by decide +kernel
theorem dX15_isSentence_16 : decode cX15_isSentence 16 = .ok (.ireturn, 1) := by decide +kernel
theorem dX15_isSentence_17 : decode cX15_isSentence 17 = .ok (.aload_n 0, 1) := by decide +kernel
theorem dX15_isSentence_18 : decode cX15_isSentence 18 = .ok (.aload_n 1, 1) := by decide +kernel
theorem dX15_isSentence_19 : decode cX15_isSentence 19 = .ok (.ldc 106, 2) := by decide +kernel
theorem dX15_isSentence_21 : decode cX15_isSentence 21 = .ok (.invokevirtual 80, 3) := by decide +kernel
theorem dX15_isSentence_24 : decode cX15_isSentence 24 = .ok (.ifCond .eq 10, 3) := by decide +kernel
theorem dX15_isSentence_27 : decode cX15_isSentence 27 = .ok (.aload_n 0, 1) := by decide +kernel
theorem dX15_isSentence_28 : decode cX15_isSentence 28 = .ok (.aload_n 1, 1) := by decide +kernel
theorem dX15_isSentence_29 : decode cX15_isSentence 29 = .ok (.iload_n 2, 1) := by decide +kernel
theorem dX15_isSentence_30 : decode cX15_isSentence 30 = .ok (.invokevirtual 108, 3) := by decide +kernel
theorem dX15_isSentence_33 : decode cX15_isSentence 33 = .ok (.ireturn, 1) := by decide +kernel
theorem dX15_isSentence_34 : decode cX15_isSentence 34 = .ok (.aload_n 0, 1) := by decide +kernel
theorem dX15_isSentence_35 : decode cX15_isSentence 35 = .ok (.aload_n 1, 1) := by decide +kernel
theorem dX15_isSentence_36 : decode cX15_isSentence 36 = .ok (.ldc 111, 2) := by decide +kernel
theorem dX15_isSentence_38 : decode cX15_isSentence 38 = .ok (.invokevirtual 80, 3) := by decide +kernel
theorem dX15_isSentence_41 : decode cX15_isSentence 41 = .ok (.ifCond .eq 26, 3) := by decide +kernel
theorem dX15_isSentence_44 : decode cX15_isSentence 44 = .ok (.aload_n 0, 1) := by decide +kernel
theorem dX15_isSentence_45 : decode cX15_isSentence 45 = .ok (.iconst 0, 1) := by decide +kernel
theorem dX15_isSentence_46 : decode cX15_isSentence 46 = .ok (.invokevirtual 113, 3) := by decide +kernel
theorem dX15_isSentence_49 : decode cX15_isSentence 49 = .ok (.ifCond .eq 16, 3) := by decide +kernel
theorem dX15_isSentence_52 : decode cX15_isSentence 52 = .ok (.aload_n 0, 1) := by decide +kernel
theorem dX15_isSentence_53 : decode cX15_isSentence 53 = .ok (.aload_n 1, 1) := by decide +kernel
theorem dX15_isSentence_54 : decode cX15_isSentence 54 = .ok (.iload_n 2, 1) := by decide +kernel
theorem dX15_isSentence_55 : decode cX15_isSentence 55 = .ok (.invokevirtual 116, 3) := by decide +kernel
theorem dX15_isSentence_58 : decode cX15_isSentence 58 = .ok (.ifCond .eq 7, 3) := by decide +kernel
theorem dX15_isSentence_61 : decode cX15_isSentence 61 = .ok (.iconst 1, 1) := by decide +kernel
theorem dX15_isSentence_62 : decode cX15_isSentence 62 = .ok (.goto 4, 3) := by decide +kernel
theorem dX15_isSentence_65 : decode cX15_isSentence 65 = .ok (.iconst 0, 1) := by decide +kernel
theorem dX15_isSentence_66 : decode cX15_isSentence 66 = .ok (.ireturn, 1) := by decide +kernel
theorem dX15_isSentence_67 : decode cX15_isSentence 67 = .ok (.aload_n 0, 1) := by decide +kernel
theorem dX15_isSentence_68 : decode cX15_isSentence 68 = .ok (.aload_n 1, 1) := by decide +kernel
theorem dX15_isSentence_69 : decode cX15_isSentence 69 = .ok (.ldc 119, 2) := by decide +kernel
theorem dX15_isSentence_71 : decode cX15_isSentence 71 = .ok (.invokevirtual 80, 3) := by decide +kernel
theorem dX15_isSentence_74 : decode cX15_isSentence 74 = .ok (.ifCond .eq 26, 3) := by decide +kernel
theorem dX15_isSentence_77 : decode cX15_isSentence 77 = .ok (.aload_n 0, 1) := by decide +kernel
theorem dX15_isSentence_78 : decode cX15_isSentence 78 = .ok (.iconst 1, 1) := by decide +kernel
theorem dX15_isSentence_79 : decode cX15_isSentence 79 = .ok (.invokevirtual 113, 3) := by decide +kernel
theorem dX15_isSentence_82 : decode cX15_isSentence 82 = .ok (.ifCond .eq 16, 3) := by decide +kernel
theorem dX15_isSentence_85 : decode cX15_isSentence 85 = .ok (.aload_n 0, 1) := by decide +kernel
theorem dX15_isSentence_86 : decode cX15_isSentence 86 = .ok (.aload_n 1, 1) := by decide +kernel
theorem dX15_isSentence_87 : decode cX15_isSentence 87 = .ok (.iload_n 2, 1) := by decide +kernel
theorem dX15_isSentence_88 : decode cX15_isSentence 88 = .ok (.invokevirtual 121, 3) := by decide +kernel
theorem dX15_isSentence_91 : decode cX15_isSentence 91 = .ok (.ifCond .eq 7, 3) := by decide +kernel
theorem dX15_isSentence_94 : decode cX15_isSentence 94 = .ok (.iconst 1, 1) := by decide +kernel
theorem dX15_isSentence_95 : decode cX15_isSentence 95 = .ok (.goto 4, 3) := by decide +kernel
theorem dX15_isSentence_98 : decode cX15_isSentence 98 = .ok (.iconst 0, 1) := by decide +kernel
theorem dX15_isSentence_99 : decode cX15_isSentence 99 = .ok (.ireturn, 1) := by decide +kernel
theorem dX15_isSentence_100 : decode cX15_isSentence 100 = .ok (.aload_n 0, 1) := by decide +kernel
theorem dX15_isSentence_101 : decode cX15_isSentence 101 = .ok (.aload_n 1, 1) := by decide +kernel
theorem dX15_isSentence_102 : decode cX15_isSentence 102 = .ok (.ldc 124, 2) := by decide +kernel
theorem dX15_isSentence_104 : decode cX15_isSentence 104 = .ok (.invokevirtual 80, 3) := by decide +kernel
theorem dX15_isSentence_107 : decode cX15_isSentence 107 = .ok (.ifCond .eq 34, 3) := by decide +kernel
theorem dX15_isSentence_110 : decode cX15_isSentence 110 = .ok (.aload_n 0, 1) := by decide +kernel
theorem dX15_isSentence_111 : decode cX15_isSentence 111 = .ok (.getfield 57, 3) := by decide +kernel
theorem dX15_isSentence_114 : decode cX15_isSentence 114 = .ok (.iconst 1, 1) := by decide +kernel
theorem dX15_isSentence_115 : decode cX15_isSentence 115 = .ok (.putfield 126, 3) := by decide +kernel
theorem dX15_isSentence_118 : decode cX15_isSentence 118 = .ok (.aload_n 0, 1) := by decide +kernel
theorem dX15_isSentence_119 : decode cX15_isSentence 119 = .ok (.iconst 2, 1) := by decide +kernel
theorem dX15_isSentence_120 : decode cX15_isSentence 120 = .ok (.invokevirtual 113, 3) := by decide +kernel
theorem dX15_isSentence_123 : decode cX15_isSentence 123 = .ok (.ifCond .eq 16, 3) := by decide +kernel
theorem dX15_isSentence_126 : decode cX15_isSentence 126 = .ok (.aload_n 0, 1) := by decide +kernel
theorem dX15_isSentence_127 : decode cX15_isSentence 127 = .ok (.aload_n 1, 1) := by decide +kernel
theorem dX15_isSentence_128 : decode cX15_isSentence 128 = .ok (.iload_n 2, 1) := by decide +kernel
theorem dX15_isSentence_129 : decode cX15_isSentence 129 = .ok (.invokevirtual 129, 3) := by decide +kernel
theorem dX15_isSentence_132 : decode cX15_isSentence 132 = .ok (.ifCond .eq 7, 3) := by decide +kernel
theorem dX15_isSentence_135 : decode cX15_isSentence 135 = .ok (.iconst 1, 1) := by decide +kernel
theorem dX15_isSentence_136 : decode cX15_isSentence 136 = .ok (.goto 4, 3) := by decide +kernel
theorem dX15_isSentence_139 : decode cX15_isSentence 139 = .ok (.iconst 0, 1) := by decide +kernel
theorem dX15_isSentence_140 : decode cX15_isSentence 140 = .ok (.ireturn, 1) := by decide +kernel
theorem dX15_isSentence_141 : decode cX15_isSentence 141 = .ok (.aload_n 0, 1) := by decide +kernel
theorem dX15_isSentence_142 : decode cX15_isSentence 142 = .ok (.aload_n 1, 1) := by decide +kernel
theorem dX15_isSentence_143 : decode cX15_isSentence 143 = .ok (.ldc 132, 2) := by decide +kernel
theorem dX15_isSentence_145 : decode cX15_isSentence 145 = .ok (.invokevirtual 80, 3) := by decide +kernel
theorem dX15_isSentence_148 : decode cX15_isSentence 148 = .ok (.ifCond .eq 34, 3) := by decide +kernel
theorem dX15_isSentence_151 : decode cX15_isSentence 151 = .ok (.aload_n 0, 1) := by decide +kernel
theorem dX15_isSentence_152 : decode cX15_isSentence 152 = .ok (.getfield 57, 3) := by decide +kernel
theorem dX15_isSentence_155 : decode cX15_isSentence 155 = .ok (.iconst 1, 1) := by decide +kernel
theorem dX15_isSentence_156 : decode cX15_isSentence 156 = .ok (.putfield 134, 3) := by decide +kernel
theorem dX15_isSentence_159 : decode cX15_isSentence 159 = .ok (.aload_n 0, 1) := by decide +kernel
theorem dX15_isSentence_160 : decode cX15_isSentence 160 = .ok (.iconst 3, 1) := by decide +kernel
theorem dX15_isSentence_161 : decode cX15_isSentence 161 = .ok (.invokevirtual 113, 3) := by decide +kernel
theorem dX15_isSentence_164 : decode cX15_isSentence 164 = .ok (.ifCond .eq 16, 3) := by decide +kernel
theorem dX15_isSentence_167 : decode cX15_isSentence 167 = .ok (.aload_n 0, 1) := by decide +kernel
theorem dX15_isSentence_168 : decode cX15_isSentence 168 = .ok (.aload_n 1, 1) := by decide +kernel
theorem dX15_isSentence_169 : decode cX15_isSentence 169 = .ok (.iload_n 2, 1) := by decide +kernel
theorem dX15_isSentence_170 : decode cX15_isSentence 170 = .ok (.invokevirtual 129, 3) := by decide +kernel
theorem dX15_isSentence_173 : decode cX15_isSentence 173 = .ok (.ifCond .eq 7, 3) := by decide +kernel
theorem dX15_isSentence_176 : decode cX15_isSentence 176 = .ok (.iconst 1, 1) := by decide +kernel
theorem dX15_isSentence_177 : decode cX15_isSentence 177 = .ok (.goto 4, 3) := by decide +kernel
theorem dX15_isSentence_180 : decode cX15_isSentence 180 = .ok (.iconst 0, 1) := by decide +kernel
theorem dX15_isSentence_181 : decode cX15_isSentence 181 = .ok (.ireturn, 1) := by decide +kernel
theorem dX15_isSentence_182 : decode cX15_isSentence 182 = .ok (.aload_n 0, 1) := by decide +kernel
theorem dX15_isSentence_183 : decode cX15_isSentence 183 = .ok (.aload_n 1, 1) := by decide +kernel
theorem dX15_isSentence_184 : decode cX15_isSentence 184 = .ok (.ldc 136, 2) := by decide +kernel
theorem dX15_isSentence_186 : decode cX15_isSentence 186 = .ok (.invokevirtual 80, 3) := by decide +kernel
theorem dX15_isSentence_189 : decode cX15_isSentence 189 = .ok (.ifCond .eq 34, 3) := by decide +kernel
theorem dX15_isSentence_192 : decode cX15_isSentence 192 = .ok (.aload_n 0, 1) := by decide +kernel
theorem dX15_isSentence_193 : decode cX15_isSentence 193 = .ok (.getfield 57, 3) := by decide +kernel
theorem dX15_isSentence_196 : decode cX15_isSentence 196 = .ok (.iconst 1, 1) := by decide +kernel
theorem dX15_isSentence_197 : decode cX15_isSentence 197 = .ok (.putfield 138, 3) := by decide +kernel
theorem dX15_isSentence_200 : decode cX15_isSentence 200 = .ok (.aload_n 0, 1) := by decide +kernel
theorem dX15_isSentence_201 : decode cX15_isSentence 201 = .ok (.iconst 4, 1) := by decide +kernel
theorem dX15_isSentence_202 : decode cX15_isSentence 202 = .ok (.invokevirtual 113, 3) := by decide +kernel
theorem dX15_isSentence_205 : decode cX15_isSentence 205 = .ok (.ifCond .eq 16, 3) := by decide +kernel
theorem dX15_isSentence_208 : decode cX15_isSentence 208 = .ok (.aload_n 0, 1) := by decide +kernel
theorem dX15_isSentence_209 : decode cX15_isSentence 209 = .ok (.aload_n 1, 1) := by decide +kernel
theorem dX15_isSentence_210 : decode cX15_isSentence 210 = .ok (.iload_n 2, 1) := by decide +kernel
theorem dX15_isSentence_211 : decode cX15_isSentence 211 = .ok (.invokevirtual 129, 3) := by decide +kernel
theorem dX15_isSentence_214 : decode cX15_isSentence 214 = .ok (.ifCond .eq 7, 3) := by decide +kernel
theorem dX15_isSentence_217 : decode cX15_isSentence 217 = .ok (.iconst 1, 1) := by decide +kernel
theorem dX15_isSentence_218 : decode cX15_isSentence 218 = .ok (.goto 4, 3) := by decide +kernel
theorem dX15_isSentence_221 : decode cX15_isSentence 221 = .ok (.iconst 0, 1) := by decide +kernel
theorem dX15_isSentence_222 : decode cX15_isSentence 222 = .ok (.ireturn, 1) := by decide +kernel
theorem dX15_isSentence_223 : decode cX15_isSentence 223 = .ok (.aload_n 0, 1) := by decide +kernel
theorem dX15_isSentence_224 : decode cX15_isSentence 224 = .ok (.aload_n 1, 1) := by decide +kernel
theorem dX15_isSentence_225 : decode cX15_isSentence 225 = .ok (.ldc 140, 2) := by decide +kernel
theorem dX15_isSentence_227 : decode cX15_isSentence 227 = .ok (.invokevirtual 80, 3) := by decide +kernel
theorem dX15_isSentence_230 : decode cX15_isSentence 230 = .ok (.ifCond .eq 34, 3) := by decide +kernel
theorem dX15_isSentence_233 : decode cX15_isSentence 233 = .ok (.aload_n 0, 1) := by decide +kernel
theorem dX15_isSentence_234 : decode cX15_isSentence 234 = .ok (.getfield 57, 3) := by decide +kernel
theorem dX15_isSentence_237 : decode cX15_isSentence 237 = .ok (.iconst 1, 1) := by decide +kernel
theorem dX15_isSentence_238 : decode cX15_isSentence 238 = .ok (.putfield 142, 3) := by decide +kernel
theorem dX15_isSentence_241 : decode cX15_isSentence 241 = .ok (.aload_n 0, 1) := by decide +kernel
theorem dX15_isSentence_242 : decode cX15_isSentence 242 = .ok (.iconst 5, 1) := by decide +kernel
theorem dX15_isSentence_243 : decode cX15_isSentence 243 = .ok (.invokevirtual 113, 3) := by decide +kernel
theorem dX15_isSentence_246 : decode cX15_isSentence 246 = .ok (.ifCond .eq 16, 3) := by decide +kernel
theorem dX15_isSentence_249 : decode cX15_isSentence 249 = .ok (.aload_n 0, 1) := by decide +kernel
theorem dX15_isSentence_250 : decode cX15_isSentence 250 = .ok (.aload_n 1, 1) := by decide +kernel
theorem dX15_isSentence_251 : decode cX15_isSentence 251 = .ok (.iload_n 2, 1) := by decide +kernel
theorem dX15_isSentence_252 : decode cX15_isSentence 252 = .ok (.invokevirtual 144, 3) := by decide +kernel
theorem dX15_isSentence_255 : decode cX15_isSentence 255 = .ok (.ifCond .eq 7, 3) := by decide +kernel
theorem dX15_isSentence_258 : decode cX15_isSentence 258 = .ok (.iconst 1, 1) := by decide +kernel
theorem dX15_isSentence_259 : decode cX15_isSentence 259 = .ok (.goto 4, 3) := by decide +kernel
theorem dX15_isSentence_262 : decode cX15_isSentence 262 = .ok (.iconst 0, 1) := by decide +kernel
theorem dX15_isSentence_263 : decode cX15_isSentence 263 = .ok (.ireturn, 1) := by decide +kernel
theorem dX15_isSentence_264 : decode cX15_isSentence 264 = .ok (.aload_n 0, 1) := by decide +kernel
theorem dX15_isSentence_265 : decode cX15_isSentence 265 = .ok (.aload_n 1, 1) := by decide +kernel
theorem dX15_isSentence_266 : decode cX15_isSentence 266 = .ok (.ldc 147, 2) := by decide +kernel
theorem dX15_isSentence_268 : decode cX15_isSentence 268 = .ok (.invokevirtual 80, 3) := by decide +kernel
theorem dX15_isSentence_271 : decode cX15_isSentence 271 = .ok (.ifCond .eq 27, 3) := by decide +kernel
theorem dX15_isSentence_274 : decode cX15_isSentence 274 = .ok (.aload_n 0, 1) := by decide +kernel
theorem dX15_isSentence_275 : decode cX15_isSentence 275 = .ok (.bipush 6, 2) := by decide +kernel
theorem dX15_isSentence_277 : decode cX15_isSentence 277 = .ok (.invokevirtual 113, 3) := by decide +kernel
theorem dX15_isSentence_280 : decode cX15_isSentence 280 = .ok (.ifCond .eq 16, 3) := by decide +kernel
theorem dX15_isSentence_283 : decode cX15_isSentence 283 = .ok (.aload_n 0, 1) := by decide +kernel
theorem dX15_isSentence_284 : decode cX15_isSentence 284 = .ok (.aload_n 1, 1) := by decide +kernel
theorem dX15_isSentence_285 : decode cX15_isSentence 285 = .ok (.iload_n 2, 1) := by decide +kernel
theorem dX15_isSentence_286 : decode cX15_isSentence 286 = .ok (.invokevirtual 149, 3) := by decide +kernel
theorem dX15_isSentence_289 : decode cX15_isSentence 289 = .ok (.ifCond .eq 7, 3) := by decide +kernel
theorem dX15_isSentence_292 : decode cX15_isSentence 292 = .ok (.iconst 1, 1) := by decide +kernel
theorem dX15_isSentence_293 : decode cX15_isSentence 293 = .ok (.goto 4, 3) := by decide +kernel
theorem dX15_isSentence_296 : decode cX15_isSentence 296 = .ok (.iconst 0, 1) := by decide +kernel
theorem dX15_isSentence_297 : decode cX15_isSentence 297 = .ok (.ireturn, 1) := by decide +kernel
theorem dX15_isSentence_298 : decode cX15_isSentence 298 = .ok (.aload_n 0, 1) := by decide +kernel
theorem dX15_isSentence_299 : decode cX15_isSentence 299 = .ok (.aload_n 1, 1) := by decide +kernel
theorem dX15_isSentence_300 : decode cX15_isSentence 300 = .ok (.ldc 152, 2) := by decide +kernel
theorem dX15_isSentence_302 : decode cX15_isSentence 302 = .ok (.invokevirtual 80, 3) := by decide +kernel
theorem dX15_isSentence_305 : decode cX15_isSentence 305 = .ok (.ifCond .eq 27, 3) := by decide +kernel
theorem dX15_isSentence_308 : decode cX15_isSentence 308 = .ok (.aload_n 0, 1) := by decide +kernel
theorem dX15_isSentence_309 : decode cX15_isSentence 309 = .ok (.bipush 7, 2) := by decide +kernel
theorem dX15_isSentence_311 : decode cX15_isSentence 311 = .ok (.invokevirtual 113, 3) := by decide +kernel
theorem dX15_isSentence_314 : decode cX15_isSentence 314 = .ok (.ifCond .eq 16, 3) := by decide +kernel
theorem dX15_isSentence_317 : decode cX15_isSentence 317 = .ok (.aload_n 0, 1) := by decide +kernel
theorem dX15_isSentence_318 : decode cX15_isSentence 318 = .ok (.aload_n 1, 1) := by decide +kernel
theorem dX15_isSentence_319 : decode cX15_isSentence 319 = .ok (.iload_n 2, 1) := by decide +kernel
theorem dX15_isSentence_320 : decode cX15_isSentence 320 = .ok (.invokevirtual 154, 3) := by decide +kernel
theorem dX15_isSentence_323 : decode cX15_isSentence 323 = .ok (.ifCond .eq 7, 3) := by decide +kernel
theorem dX15_isSentence_326 : decode cX15_isSentence 326 = .ok (.iconst 1, 1) := by decide +kernel
theorem dX15_isSentence_327 : decode cX15_isSentence 327 = .ok (.goto 4, 3) := by decide +kernel
theorem dX15_isSentence_330 : decode cX15_isSentence 330 = .ok (.iconst 0, 1) := by decide +kernel
theorem dX15_isSentence_331 : decode cX15_isSentence 331 = .ok (.ireturn, 1) := by decide +kernel
theorem dX15_isSentence_332 : decode cX15_isSentence 332 = .ok (.aload_n 0, 1) := by decide +kernel
theorem dX15_isSentence_333 : decode cX15_isSentence 333 = .ok (.aload_n 1, 1) := by decide +kernel
theorem dX15_isSentence_334 : decode cX15_isSentence 334 = .ok (.ldc 157, 2) := by decide +kernel
theorem dX15_isSentence_336 : decode cX15_isSentence 336 = .ok (.invokevirtual 80, 3) := by decide +kernel
theorem dX15_isSentence_339 : decode cX15_isSentence 339 = .ok (.ifCond .eq 28, 3) := by decide +kernel
theorem dX15_isSentence_342 : decode cX15_isSentence 342 = .ok (.aload_n 0, 1) := by decide +kernel
theorem dX15_isSentence_343 : decode cX15_isSentence 343 = .ok (.bipush 8, 2) := by decide +kernel
theorem dX15_isSentence_345 : decode cX15_isSentence 345 = .ok (.invokevirtual 113, 3) := by decide +kernel
theorem dX15_isSentence_348 : decode cX15_isSentence 348 = .ok (.ifCond .eq 17, 3) := by decide +kernel
theorem dX15_isSentence_351 : decode cX15_isSentence 351 = .ok (.aload_n 0, 1) := by decide +kernel
theorem dX15_isSentence_352 : decode cX15_isSentence 352 = .ok (.aload_n 1, 1) := by decide +kernel
theorem dX15_isSentence_353 : decode cX15_isSentence 353 = .ok (.iload_n 2, 1) := by decide +kernel
theorem dX15_isSentence_354 : decode cX15_isSentence 354 = .ok (.iconst 1, 1) := by decide +kernel
theorem dX15_isSentence_355 : decode cX15_isSentence 355 = .ok (.invokevirtual 159, 3) := by decide +kernel
theorem dX15_isSentence_358 : decode cX15_isSentence 358 = .ok (.ifCond .eq 7, 3) := by decide +kernel
theorem dX15_isSentence_361 : decode cX15_isSentence 361 = .ok (.iconst 1, 1) := by decide +kernel
theorem dX15_isSentence_362 : decode cX15_isSentence 362 = .ok (.goto 4, 3) := by decide +kernel
theorem dX15_isSentence_365 : decode cX15_isSentence 365 = .ok (.iconst 0, 1) := by decide +kernel
theorem dX15_isSentence_366 : decode cX15_isSentence 366 = .ok (.ireturn, 1) := by decide +kernel
theorem dX15_isSentence_367 : decode cX15_isSentence 367 = .ok (.aload_n 0, 1) := by decide +kernel
theorem dX15_isSentence_368 : decode cX15_isSentence 368 = .ok (.aload_n 1, 1) := by decide +kernel
theorem dX15_isSentence_369 : decode cX15_isSentence 369 = .ok (.ldc 163, 2) := by decide +kernel
theorem dX15_isSentence_371 : decode cX15_isSentence 371 = .ok (.invokevirtual 80, 3) := by decide +kernel
theorem dX15_isSentence_374 : decode cX15_isSentence 374 = .ok (.ifCond .eq 26, 3) := by decide +kernel
theorem dX15_isSentence_377 : decode cX15_isSentence 377 = .ok (.aload_n 0, 1) := by decide +kernel
theorem dX15_isSentence_378 : decode cX15_isSentence 378 = .ok (.bipush 9, 2) := by decide +kernel
theorem dX15_isSentence_380 : decode cX15_isSentence 380 = .ok (.invokevirtual 113, 3) := by decide +kernel
theorem dX15_isSentence_383 : decode cX15_isSentence 383 = .ok (.ifCond .eq 17, 3) := by decide +kernel
theorem dX15_isSentence_386 : decode cX15_isSentence 386 = .ok (.aload_n 0, 1) := by decide +kernel
theorem dX15_isSentence_387 : decode cX15_isSentence 387 = .ok (.aload_n 1, 1) := by decide +kernel
theorem dX15_isSentence_388 : decode cX15_isSentence 388 = .ok (.iload_n 2, 1) := by decide +kernel
theorem dX15_isSentence_389 : decode cX15_isSentence 389 = .ok (.iconst 0, 1) := by decide +kernel
theorem dX15_isSentence_390 : decode cX15_isSentence 390 = .ok (.invokevirtual 159, 3) := by decide +kernel
theorem dX15_isSentence_393 : decode cX15_isSentence 393 = .ok (.ifCond .eq 7, 3) := by decide +kernel
theorem dX15_isSentence_396 : decode cX15_isSentence 396 = .ok (.iconst 1, 1) := by decide +kernel
theorem dX15_isSentence_397 : decode cX15_isSentence 397 = .ok (.goto 4, 3) := by decide +kernel
theorem dX15_isSentence_400 : decode cX15_isSentence 400 = .ok (.iconst 0, 1) := by decide +kernel
theorem dX15_isSentence_401 : decode cX15_isSentence 401 = .ok (.ireturn, 1) := by decide +kernel
set_option maxRecDepth 20000 in
theorem moX15_isSentence_401 {o : Int32 × Hp} {F : Nat} {h : Hp} {t0 : Int32} (hE : sX15_isSentence_401 F h  t0 = some o) : Le h o.2 := by
  obtain ⟨g_1, hE⟩ := gd_e hE
  exact le_some2 hE
set_option maxRecDepth 20000 in
theorem moX15_isSentence_400 {o : Int32 × Hp} {F : Nat} {h : Hp} (hE : sX15_isSentence_400 F h  = some o) : Le h o.2 := by
  exact moX15_isSentence_401 hE
set_option maxRecDepth 20000 in
theorem moX15_isSentence_366 {o : Int32 × Hp} {F : Nat} {h : Hp} {t0 : Int32} (hE : sX15_isSentence_366 F h  t0 = some o) : Le h o.2 := by
  obtain ⟨g_1, hE⟩ := gd_e hE
  exact le_some2 hE
set_option maxRecDepth 20000 in
theorem moX15_isSentence_365 {o : Int32 × Hp} {F : Nat} {h : Hp} (hE : sX15_isSentence_365 F h  = some o) : Le h o.2 := by
  exact moX15_isSentence_366 hE
set_option maxRecDepth 20000 in
theorem moX15_isSentence_331 {o : Int32 × Hp} {F : Nat} {h : Hp} {t0 : Int32} (hE : sX15_isSentence_331 F h  t0 = some o) : Le h o.2 := by
  obtain ⟨g_1, hE⟩ := gd_e hE
  exact le_some2 hE
set_option maxRecDepth 20000 in
theorem moX15_isSentence_330 {o : Int32 × Hp} {F : Nat} {h : Hp} (hE : sX15_isSentence_330 F h  = some o) : Le h o.2 := by
  exact moX15_isSentence_331 hE
set_option maxRecDepth 20000 in
theorem moX15_isSentence_297 {o : Int32 × Hp} {F : Nat} {h : Hp} {t0 : Int32} (hE : sX15_isSentence_297 F h  t0 = some o) : Le h o.2 := by
  obtain ⟨g_1, hE⟩ := gd_e hE
  exact le_some2 hE
set_option maxRecDepth 20000 in
theorem moX15_isSentence_296 {o : Int32 × Hp} {F : Nat} {h : Hp} (hE : sX15_isSentence_296 F h  = some o) : Le h o.2 := by
  exact moX15_isSentence_297 hE
set_option maxRecDepth 20000 in
theorem moX15_isSentence_263 {o : Int32 × Hp} {F : Nat} {h : Hp} {t0 : Int32} (hE : sX15_isSentence_263 F h  t0 = some o) : Le h o.2 := by
  obtain ⟨g_1, hE⟩ := gd_e hE
  exact le_some2 hE
set_option maxRecDepth 20000 in
theorem moX15_isSentence_262 {o : Int32 × Hp} {F : Nat} {h : Hp} (hE : sX15_isSentence_262 F h  = some o) : Le h o.2 := by
  exact moX15_isSentence_263 hE
set_option maxRecDepth 20000 in
theorem moX15_isSentence_222 {o : Int32 × Hp} {F : Nat} {h : Hp} {t0 : Int32} (hE : sX15_isSentence_222 F h  t0 = some o) : Le h o.2 := by
  obtain ⟨g_1, hE⟩ := gd_e hE
  exact le_some2 hE
set_option maxRecDepth 20000 in
theorem moX15_isSentence_221 {o : Int32 × Hp} {F : Nat} {h : Hp} (hE : sX15_isSentence_221 F h  = some o) : Le h o.2 := by
  exact moX15_isSentence_222 hE
set_option maxRecDepth 20000 in
theorem moX15_isSentence_181 {o : Int32 × Hp} {F : Nat} {h : Hp} {t0 : Int32} (hE : sX15_isSentence_181 F h  t0 = some o) : Le h o.2 := by
  obtain ⟨g_1, hE⟩ := gd_e hE
  exact le_some2 hE
set_option maxRecDepth 20000 in
theorem moX15_isSentence_180 {o : Int32 × Hp} {F : Nat} {h : Hp} (hE : sX15_isSentence_180 F h  = some o) : Le h o.2 := by
  exact moX15_isSentence_181 hE
set_option maxRecDepth 20000 in
theorem moX15_isSentence_140 {o : Int32 × Hp} {F : Nat} {h : Hp} {t0 : Int32} (hE : sX15_isSentence_140 F h  t0 = some o) : Le h o.2 := by
  obtain ⟨g_1, hE⟩ := gd_e hE
  exact le_some2 hE
set_option maxRecDepth 20000 in
theorem moX15_isSentence_139 {o : Int32 × Hp} {F : Nat} {h : Hp} (hE : sX15_isSentence_139 F h  = some o) : Le h o.2 := by
  exact moX15_isSentence_140 hE
set_option maxRecDepth 20000 in
theorem moX15_isSentence_99 {o : Int32 × Hp} {F : Nat} {h : Hp} {t0 : Int32} (hE : sX15_isSentence_99 F h  t0 = some o) : Le h o.2 := by
  obtain ⟨g_1, hE⟩ := gd_e hE
  exact le_some2 hE
set_option maxRecDepth 20000 in
theorem moX15_isSentence_98 {o : Int32 × Hp} {F : Nat} {h : Hp} (hE : sX15_isSentence_98 F h  = some o) : Le h o.2 := by
  exact moX15_isSentence_99 hE
set_option maxRecDepth 20000 in
theorem moX15_isSentence_66 {o : Int32 × Hp} {F : Nat} {h : Hp} {t0 : Int32} (hE : sX15_isSentence_66 F h  t0 = some o) : Le h o.2 := by
  obtain ⟨g_1, hE⟩ := gd_e hE
  exact le_some2 hE
set_option maxRecDepth 20000 in
theorem moX15_isSentence_65 {o : Int32 × Hp} {F : Nat} {h : Hp} (hE : sX15_isSentence_65 F h  = some o) : Le h o.2 := by
  exact moX15_isSentence_66 hE
set_option maxRecDepth 20000 in
theorem moX15_isSentence {o : Int32 × Hp} {F : Nat} {h : Hp} {x0 : Nat} {x1 : Nat} {x2 : Int32} (hE : sX15_isSentence F h x0 x1 x2 = some o) : Le h o.2 := by
  obtain ⟨o_1, eo_1, hE⟩ := cl_e hE
  refine (moX15_isWord eo_1).tr ?_
  rcases br_e hE with ⟨_, hE⟩ | ⟨_, hE⟩
  · obtain ⟨o_3, eo_3, hE⟩ := cl_e hE
    refine (moX15_isWord eo_3).tr ?_
    rcases br_e hE with ⟨_, hE⟩ | ⟨_, hE⟩
    · obtain ⟨o_5, eo_5, hE⟩ := cl_e hE
      refine (moX15_isWord eo_5).tr ?_
      rcases br_e hE with ⟨_, hE⟩ | ⟨_, hE⟩
      · obtain ⟨o_7, eo_7, hE⟩ := cl_e hE
        refine (moX15_isWord eo_7).tr ?_
        rcases br_e hE with ⟨_, hE⟩ | ⟨_, hE⟩
        · obtain ⟨o_9, eo_9, hE⟩ := cl_e hE
          refine (moX15_isWord eo_9).tr ?_
          rcases br_e hE with ⟨_, hE⟩ | ⟨_, hE⟩
          · obtain ⟨o_11, eo_11, hE⟩ := cl_e hE
            refine (moX15_isWord eo_11).tr ?_
            rcases br_e hE with ⟨_, hE⟩ | ⟨_, hE⟩
            · obtain ⟨o_13, eo_13, hE⟩ := cl_e hE
              refine (moX15_isWord eo_13).tr ?_
              rcases br_e hE with ⟨_, hE⟩ | ⟨_, hE⟩
              · obtain ⟨o_15, eo_15, hE⟩ := cl_e hE
                refine (moX15_isWord eo_15).tr ?_
                rcases br_e hE with ⟨_, hE⟩ | ⟨_, hE⟩
                · obtain ⟨o_17, eo_17, hE⟩ := cl_e hE
                  refine (moX15_isWord eo_17).tr ?_
                  rcases br_e hE with ⟨_, hE⟩ | ⟨_, hE⟩
                  · obtain ⟨o_19, eo_19, hE⟩ := cl_e hE
                    refine (moX15_isWord eo_19).tr ?_
                    rcases br_e hE with ⟨_, hE⟩ | ⟨_, hE⟩
                    · obtain ⟨o_21, eo_21, hE⟩ := cl_e hE
                      refine (moX15_isWord eo_21).tr ?_
                      rcases br_e hE with ⟨_, hE⟩ | ⟨_, hE⟩
                      · obtain ⟨o_23, eo_23, hE⟩ := cl_e hE
                        refine (moX15_isWord eo_23).tr ?_
                        rcases br_e hE with ⟨_, hE⟩ | ⟨_, hE⟩
                        · exact moX15_isSentence_400 hE
                        · obtain ⟨o_25, eo_25, hE⟩ := cl_e hE
                          refine (moX15_isOnce eo_25).tr ?_
                          rcases br_e hE with ⟨_, hE⟩ | ⟨_, hE⟩
                          · exact moX15_isSentence_400 hE
                          · obtain ⟨o_27, eo_27, hE⟩ := cl_e hE
                            refine (moX15_isOutcome eo_27).tr ?_
                            rcases br_e hE with ⟨_, hE⟩ | ⟨_, hE⟩
                            · exact moX15_isSentence_400 hE
                            · exact moX15_isSentence_401 hE
                      · obtain ⟨o_29, eo_29, hE⟩ := cl_e hE
                        refine (moX15_isOnce eo_29).tr ?_
                        rcases br_e hE with ⟨_, hE⟩ | ⟨_, hE⟩
                        · exact moX15_isSentence_365 hE
                        · obtain ⟨o_31, eo_31, hE⟩ := cl_e hE
                          refine (moX15_isOutcome eo_31).tr ?_
                          rcases br_e hE with ⟨_, hE⟩ | ⟨_, hE⟩
                          · exact moX15_isSentence_365 hE
                          · exact moX15_isSentence_366 hE
                    · obtain ⟨o_33, eo_33, hE⟩ := cl_e hE
                      refine (moX15_isOnce eo_33).tr ?_
                      rcases br_e hE with ⟨_, hE⟩ | ⟨_, hE⟩
                      · exact moX15_isSentence_330 hE
                      · obtain ⟨o_35, eo_35, hE⟩ := cl_e hE
                        refine (moX15_isHill eo_35).tr ?_
                        rcases br_e hE with ⟨_, hE⟩ | ⟨_, hE⟩
                        · exact moX15_isSentence_330 hE
                        · exact moX15_isSentence_331 hE
                  · obtain ⟨o_37, eo_37, hE⟩ := cl_e hE
                    refine (moX15_isOnce eo_37).tr ?_
                    rcases br_e hE with ⟨_, hE⟩ | ⟨_, hE⟩
                    · exact moX15_isSentence_296 hE
                    · obtain ⟨o_39, eo_39, hE⟩ := cl_e hE
                      refine (moX15_isChecks eo_39).tr ?_
                      rcases br_e hE with ⟨_, hE⟩ | ⟨_, hE⟩
                      · exact moX15_isSentence_296 hE
                      · exact moX15_isSentence_297 hE
                · obtain ⟨r_41, er_41, hE⟩ := cl_e hE
                  obtain ⟨h_42, eh_42, hE⟩ := nm_e2 hE
                  refine (le_I eh_42).tr ?_
                  obtain ⟨o_43, eo_43, hE⟩ := cl_e hE
                  refine (moX15_isOnce eo_43).tr ?_
                  rcases br_e hE with ⟨_, hE⟩ | ⟨_, hE⟩
                  · exact moX15_isSentence_262 hE
                  · obtain ⟨o_45, eo_45, hE⟩ := cl_e hE
                    refine (moX15_isBlast eo_45).tr ?_
                    rcases br_e hE with ⟨_, hE⟩ | ⟨_, hE⟩
                    · exact moX15_isSentence_262 hE
                    · exact moX15_isSentence_263 hE
              · obtain ⟨r_47, er_47, hE⟩ := cl_e hE
                obtain ⟨h_48, eh_48, hE⟩ := nm_e2 hE
                refine (le_I eh_48).tr ?_
                obtain ⟨o_49, eo_49, hE⟩ := cl_e hE
                refine (moX15_isOnce eo_49).tr ?_
                rcases br_e hE with ⟨_, hE⟩ | ⟨_, hE⟩
                · exact moX15_isSentence_221 hE
                · obtain ⟨o_51, eo_51, hE⟩ := cl_e hE
                  refine (moX15_goesOn eo_51).tr ?_
                  rcases br_e hE with ⟨_, hE⟩ | ⟨_, hE⟩
                  · exact moX15_isSentence_221 hE
                  · exact moX15_isSentence_222 hE
            · obtain ⟨r_53, er_53, hE⟩ := cl_e hE
              obtain ⟨h_54, eh_54, hE⟩ := nm_e2 hE
              refine (le_I eh_54).tr ?_
              obtain ⟨o_55, eo_55, hE⟩ := cl_e hE
              refine (moX15_isOnce eo_55).tr ?_
              rcases br_e hE with ⟨_, hE⟩ | ⟨_, hE⟩
              · exact moX15_isSentence_180 hE
              · obtain ⟨o_57, eo_57, hE⟩ := cl_e hE
                refine (moX15_goesOn eo_57).tr ?_
                rcases br_e hE with ⟨_, hE⟩ | ⟨_, hE⟩
                · exact moX15_isSentence_180 hE
                · exact moX15_isSentence_181 hE
          · obtain ⟨r_59, er_59, hE⟩ := cl_e hE
            obtain ⟨h_60, eh_60, hE⟩ := nm_e2 hE
            refine (le_I eh_60).tr ?_
            obtain ⟨o_61, eo_61, hE⟩ := cl_e hE
            refine (moX15_isOnce eo_61).tr ?_
            rcases br_e hE with ⟨_, hE⟩ | ⟨_, hE⟩
            · exact moX15_isSentence_139 hE
            · obtain ⟨o_63, eo_63, hE⟩ := cl_e hE
              refine (moX15_goesOn eo_63).tr ?_
              rcases br_e hE with ⟨_, hE⟩ | ⟨_, hE⟩
              · exact moX15_isSentence_139 hE
              · exact moX15_isSentence_140 hE
        · obtain ⟨o_65, eo_65, hE⟩ := cl_e hE
          refine (moX15_isOnce eo_65).tr ?_
          rcases br_e hE with ⟨_, hE⟩ | ⟨_, hE⟩
          · exact moX15_isSentence_98 hE
          · obtain ⟨o_67, eo_67, hE⟩ := cl_e hE
            refine (moX15_isCastle eo_67).tr ?_
            rcases br_e hE with ⟨_, hE⟩ | ⟨_, hE⟩
            · exact moX15_isSentence_98 hE
            · exact moX15_isSentence_99 hE
      · obtain ⟨o_69, eo_69, hE⟩ := cl_e hE
        refine (moX15_isOnce eo_69).tr ?_
        rcases br_e hE with ⟨_, hE⟩ | ⟨_, hE⟩
        · exact moX15_isSentence_65 hE
        · obtain ⟨o_71, eo_71, hE⟩ := cl_e hE
          refine (moX15_isRoyal eo_71).tr ?_
          rcases br_e hE with ⟨_, hE⟩ | ⟨_, hE⟩
          · exact moX15_isSentence_65 hE
          · exact moX15_isSentence_66 hE
    · obtain ⟨o_73, eo_73, hE⟩ := cl_e hE
      refine (moX15_isBecoming eo_73).tr ?_
      obtain ⟨g_74, hE⟩ := gd_e hE
      exact le_some2 hE
  · obtain ⟨o_75, eo_75, hE⟩ := cl_e hE
    refine (moX15_isMan eo_75).tr ?_
    obtain ⟨g_76, hE⟩ := gd_e hE
    exact le_some2 hE
set_option maxRecDepth 20000 in
theorem bX15_isSentence_401 {p : Program} {l : Launch} {e : Env} {s : State} {m : MethodId} {args : Array Value} {below : List Frame} {meth : Method} {c : Code} {X : Ec} {h0 : Hp} {o : Int32 × Hp} {F : Nat} (C : Cx X p s m args meth c RX15 cX15_isSentence 3 (some .boolean) "isSentence") {h : Hp} {t0 : Int32} {H : Heap} {locs : List Loc} (hkm : Km h0 h) (hW : Wx X h H) (hZ : va_S (aA (eB X)) s.heap H locs) (ls : Array Slot) (hl : lv_has ls 3 []) (hE : sX15_isSentence_401 F h  t0 = some o) : W p l e (rm 8 178) s m args below meth c H locs 0 0 (MQ below (QI X h0 o.1 o.2) args s 0 0 (aA (eB X))) (F0 m 401 ls [.int t0]) := by
  obtain ⟨g_1, hE⟩ := gd_e hE
  exact x_iret C rfl (narB g_1) hW hZ hkm hE dX15_isSentence_401
set_option maxRecDepth 20000 in
theorem bX15_isSentence_400 {p : Program} {l : Launch} {e : Env} {s : State} {m : MethodId} {args : Array Value} {below : List Frame} {meth : Method} {c : Code} {X : Ec} {h0 : Hp} {o : Int32 × Hp} {F : Nat} (C : Cx X p s m args meth c RX15 cX15_isSentence 3 (some .boolean) "isSentence") {h : Hp} {H : Heap} {locs : List Loc} (hkm : Km h0 h) (hW : Wx X h H) (hZ : va_S (aA (eB X)) s.heap H locs) (ls : Array Slot) (hl : lv_has ls 3 []) (hE : sX15_isSentence_400 F h  = some o) : W p l e (rm 8 178) s m args below meth c H locs 0 0 (MQ below (QI X h0 o.1 o.2) args s 0 0 (aA (eB X))) (F0 m 400 ls []) := by
  refine lv_iconst (v := (0 : Int32)) C.1 C.2.1 dX15_isSentence_400 (by decide) ?_
  exact bX15_isSentence_401 C hkm hW hZ _ (lv_sub hl [] rfl) hE
set_option maxRecDepth 20000 in
theorem bX15_isSentence_366 {p : Program} {l : Launch} {e : Env} {s : State} {m : MethodId} {args : Array Value} {below : List Frame} {meth : Method} {c : Code} {X : Ec} {h0 : Hp} {o : Int32 × Hp} {F : Nat} (C : Cx X p s m args meth c RX15 cX15_isSentence 3 (some .boolean) "isSentence") {h : Hp} {t0 : Int32} {H : Heap} {locs : List Loc} (hkm : Km h0 h) (hW : Wx X h H) (hZ : va_S (aA (eB X)) s.heap H locs) (ls : Array Slot) (hl : lv_has ls 3 []) (hE : sX15_isSentence_366 F h  t0 = some o) : W p l e (rm 8 178) s m args below meth c H locs 0 0 (MQ below (QI X h0 o.1 o.2) args s 0 0 (aA (eB X))) (F0 m 366 ls [.int t0]) := by
  obtain ⟨g_1, hE⟩ := gd_e hE
  exact x_iret C rfl (narB g_1) hW hZ hkm hE dX15_isSentence_366
set_option maxRecDepth 20000 in
theorem bX15_isSentence_365 {p : Program} {l : Launch} {e : Env} {s : State} {m : MethodId} {args : Array Value} {below : List Frame} {meth : Method} {c : Code} {X : Ec} {h0 : Hp} {o : Int32 × Hp} {F : Nat} (C : Cx X p s m args meth c RX15 cX15_isSentence 3 (some .boolean) "isSentence") {h : Hp} {H : Heap} {locs : List Loc} (hkm : Km h0 h) (hW : Wx X h H) (hZ : va_S (aA (eB X)) s.heap H locs) (ls : Array Slot) (hl : lv_has ls 3 []) (hE : sX15_isSentence_365 F h  = some o) : W p l e (rm 8 178) s m args below meth c H locs 0 0 (MQ below (QI X h0 o.1 o.2) args s 0 0 (aA (eB X))) (F0 m 365 ls []) := by
  refine lv_iconst (v := (0 : Int32)) C.1 C.2.1 dX15_isSentence_365 (by decide) ?_
  exact bX15_isSentence_366 C hkm hW hZ _ (lv_sub hl [] rfl) hE
set_option maxRecDepth 20000 in
theorem bX15_isSentence_331 {p : Program} {l : Launch} {e : Env} {s : State} {m : MethodId} {args : Array Value} {below : List Frame} {meth : Method} {c : Code} {X : Ec} {h0 : Hp} {o : Int32 × Hp} {F : Nat} (C : Cx X p s m args meth c RX15 cX15_isSentence 3 (some .boolean) "isSentence") {h : Hp} {t0 : Int32} {H : Heap} {locs : List Loc} (hkm : Km h0 h) (hW : Wx X h H) (hZ : va_S (aA (eB X)) s.heap H locs) (ls : Array Slot) (hl : lv_has ls 3 []) (hE : sX15_isSentence_331 F h  t0 = some o) : W p l e (rm 8 178) s m args below meth c H locs 0 0 (MQ below (QI X h0 o.1 o.2) args s 0 0 (aA (eB X))) (F0 m 331 ls [.int t0]) := by
  obtain ⟨g_1, hE⟩ := gd_e hE
  exact x_iret C rfl (narB g_1) hW hZ hkm hE dX15_isSentence_331
set_option maxRecDepth 20000 in
theorem bX15_isSentence_330 {p : Program} {l : Launch} {e : Env} {s : State} {m : MethodId} {args : Array Value} {below : List Frame} {meth : Method} {c : Code} {X : Ec} {h0 : Hp} {o : Int32 × Hp} {F : Nat} (C : Cx X p s m args meth c RX15 cX15_isSentence 3 (some .boolean) "isSentence") {h : Hp} {H : Heap} {locs : List Loc} (hkm : Km h0 h) (hW : Wx X h H) (hZ : va_S (aA (eB X)) s.heap H locs) (ls : Array Slot) (hl : lv_has ls 3 []) (hE : sX15_isSentence_330 F h  = some o) : W p l e (rm 8 178) s m args below meth c H locs 0 0 (MQ below (QI X h0 o.1 o.2) args s 0 0 (aA (eB X))) (F0 m 330 ls []) := by
  refine lv_iconst (v := (0 : Int32)) C.1 C.2.1 dX15_isSentence_330 (by decide) ?_
  exact bX15_isSentence_331 C hkm hW hZ _ (lv_sub hl [] rfl) hE
set_option maxRecDepth 20000 in
theorem bX15_isSentence_297 {p : Program} {l : Launch} {e : Env} {s : State} {m : MethodId} {args : Array Value} {below : List Frame} {meth : Method} {c : Code} {X : Ec} {h0 : Hp} {o : Int32 × Hp} {F : Nat} (C : Cx X p s m args meth c RX15 cX15_isSentence 3 (some .boolean) "isSentence") {h : Hp} {t0 : Int32} {H : Heap} {locs : List Loc} (hkm : Km h0 h) (hW : Wx X h H) (hZ : va_S (aA (eB X)) s.heap H locs) (ls : Array Slot) (hl : lv_has ls 3 []) (hE : sX15_isSentence_297 F h  t0 = some o) : W p l e (rm 8 178) s m args below meth c H locs 0 0 (MQ below (QI X h0 o.1 o.2) args s 0 0 (aA (eB X))) (F0 m 297 ls [.int t0]) := by
  obtain ⟨g_1, hE⟩ := gd_e hE
  exact x_iret C rfl (narB g_1) hW hZ hkm hE dX15_isSentence_297
set_option maxRecDepth 20000 in
theorem bX15_isSentence_296 {p : Program} {l : Launch} {e : Env} {s : State} {m : MethodId} {args : Array Value} {below : List Frame} {meth : Method} {c : Code} {X : Ec} {h0 : Hp} {o : Int32 × Hp} {F : Nat} (C : Cx X p s m args meth c RX15 cX15_isSentence 3 (some .boolean) "isSentence") {h : Hp} {H : Heap} {locs : List Loc} (hkm : Km h0 h) (hW : Wx X h H) (hZ : va_S (aA (eB X)) s.heap H locs) (ls : Array Slot) (hl : lv_has ls 3 []) (hE : sX15_isSentence_296 F h  = some o) : W p l e (rm 8 178) s m args below meth c H locs 0 0 (MQ below (QI X h0 o.1 o.2) args s 0 0 (aA (eB X))) (F0 m 296 ls []) := by
  refine lv_iconst (v := (0 : Int32)) C.1 C.2.1 dX15_isSentence_296 (by decide) ?_
  exact bX15_isSentence_297 C hkm hW hZ _ (lv_sub hl [] rfl) hE
set_option maxRecDepth 20000 in
theorem bX15_isSentence_263 {p : Program} {l : Launch} {e : Env} {s : State} {m : MethodId} {args : Array Value} {below : List Frame} {meth : Method} {c : Code} {X : Ec} {h0 : Hp} {o : Int32 × Hp} {F : Nat} (C : Cx X p s m args meth c RX15 cX15_isSentence 3 (some .boolean) "isSentence") {h : Hp} {t0 : Int32} {H : Heap} {locs : List Loc} (hkm : Km h0 h) (hW : Wx X h H) (hZ : va_S (aA (eB X)) s.heap H locs) (ls : Array Slot) (hl : lv_has ls 3 []) (hE : sX15_isSentence_263 F h  t0 = some o) : W p l e (rm 8 178) s m args below meth c H locs 0 0 (MQ below (QI X h0 o.1 o.2) args s 0 0 (aA (eB X))) (F0 m 263 ls [.int t0]) := by
  obtain ⟨g_1, hE⟩ := gd_e hE
  exact x_iret C rfl (narB g_1) hW hZ hkm hE dX15_isSentence_263
set_option maxRecDepth 20000 in
theorem bX15_isSentence_262 {p : Program} {l : Launch} {e : Env} {s : State} {m : MethodId} {args : Array Value} {below : List Frame} {meth : Method} {c : Code} {X : Ec} {h0 : Hp} {o : Int32 × Hp} {F : Nat} (C : Cx X p s m args meth c RX15 cX15_isSentence 3 (some .boolean) "isSentence") {h : Hp} {H : Heap} {locs : List Loc} (hkm : Km h0 h) (hW : Wx X h H) (hZ : va_S (aA (eB X)) s.heap H locs) (ls : Array Slot) (hl : lv_has ls 3 []) (hE : sX15_isSentence_262 F h  = some o) : W p l e (rm 8 178) s m args below meth c H locs 0 0 (MQ below (QI X h0 o.1 o.2) args s 0 0 (aA (eB X))) (F0 m 262 ls []) := by
  refine lv_iconst (v := (0 : Int32)) C.1 C.2.1 dX15_isSentence_262 (by decide) ?_
  exact bX15_isSentence_263 C hkm hW hZ _ (lv_sub hl [] rfl) hE
set_option maxRecDepth 20000 in
theorem bX15_isSentence_222 {p : Program} {l : Launch} {e : Env} {s : State} {m : MethodId} {args : Array Value} {below : List Frame} {meth : Method} {c : Code} {X : Ec} {h0 : Hp} {o : Int32 × Hp} {F : Nat} (C : Cx X p s m args meth c RX15 cX15_isSentence 3 (some .boolean) "isSentence") {h : Hp} {t0 : Int32} {H : Heap} {locs : List Loc} (hkm : Km h0 h) (hW : Wx X h H) (hZ : va_S (aA (eB X)) s.heap H locs) (ls : Array Slot) (hl : lv_has ls 3 []) (hE : sX15_isSentence_222 F h  t0 = some o) : W p l e (rm 8 178) s m args below meth c H locs 0 0 (MQ below (QI X h0 o.1 o.2) args s 0 0 (aA (eB X))) (F0 m 222 ls [.int t0]) := by
  obtain ⟨g_1, hE⟩ := gd_e hE
  exact x_iret C rfl (narB g_1) hW hZ hkm hE dX15_isSentence_222
set_option maxRecDepth 20000 in
theorem bX15_isSentence_221 {p : Program} {l : Launch} {e : Env} {s : State} {m : MethodId} {args : Array Value} {below : List Frame} {meth : Method} {c : Code} {X : Ec} {h0 : Hp} {o : Int32 × Hp} {F : Nat} (C : Cx X p s m args meth c RX15 cX15_isSentence 3 (some .boolean) "isSentence") {h : Hp} {H : Heap} {locs : List Loc} (hkm : Km h0 h) (hW : Wx X h H) (hZ : va_S (aA (eB X)) s.heap H locs) (ls : Array Slot) (hl : lv_has ls 3 []) (hE : sX15_isSentence_221 F h  = some o) : W p l e (rm 8 178) s m args below meth c H locs 0 0 (MQ below (QI X h0 o.1 o.2) args s 0 0 (aA (eB X))) (F0 m 221 ls []) := by
  refine lv_iconst (v := (0 : Int32)) C.1 C.2.1 dX15_isSentence_221 (by decide) ?_
  exact bX15_isSentence_222 C hkm hW hZ _ (lv_sub hl [] rfl) hE
set_option maxRecDepth 20000 in
theorem bX15_isSentence_181 {p : Program} {l : Launch} {e : Env} {s : State} {m : MethodId} {args : Array Value} {below : List Frame} {meth : Method} {c : Code} {X : Ec} {h0 : Hp} {o : Int32 × Hp} {F : Nat} (C : Cx X p s m args meth c RX15 cX15_isSentence 3 (some .boolean) "isSentence") {h : Hp} {t0 : Int32} {H : Heap} {locs : List Loc} (hkm : Km h0 h) (hW : Wx X h H) (hZ : va_S (aA (eB X)) s.heap H locs) (ls : Array Slot) (hl : lv_has ls 3 []) (hE : sX15_isSentence_181 F h  t0 = some o) : W p l e (rm 8 178) s m args below meth c H locs 0 0 (MQ below (QI X h0 o.1 o.2) args s 0 0 (aA (eB X))) (F0 m 181 ls [.int t0]) := by
  obtain ⟨g_1, hE⟩ := gd_e hE
  exact x_iret C rfl (narB g_1) hW hZ hkm hE dX15_isSentence_181
set_option maxRecDepth 20000 in
theorem bX15_isSentence_180 {p : Program} {l : Launch} {e : Env} {s : State} {m : MethodId} {args : Array Value} {below : List Frame} {meth : Method} {c : Code} {X : Ec} {h0 : Hp} {o : Int32 × Hp} {F : Nat} (C : Cx X p s m args meth c RX15 cX15_isSentence 3 (some .boolean) "isSentence") {h : Hp} {H : Heap} {locs : List Loc} (hkm : Km h0 h) (hW : Wx X h H) (hZ : va_S (aA (eB X)) s.heap H locs) (ls : Array Slot) (hl : lv_has ls 3 []) (hE : sX15_isSentence_180 F h  = some o) : W p l e (rm 8 178) s m args below meth c H locs 0 0 (MQ below (QI X h0 o.1 o.2) args s 0 0 (aA (eB X))) (F0 m 180 ls []) := by
  refine lv_iconst (v := (0 : Int32)) C.1 C.2.1 dX15_isSentence_180 (by decide) ?_
  exact bX15_isSentence_181 C hkm hW hZ _ (lv_sub hl [] rfl) hE
set_option maxRecDepth 20000 in
theorem bX15_isSentence_140 {p : Program} {l : Launch} {e : Env} {s : State} {m : MethodId} {args : Array Value} {below : List Frame} {meth : Method} {c : Code} {X : Ec} {h0 : Hp} {o : Int32 × Hp} {F : Nat} (C : Cx X p s m args meth c RX15 cX15_isSentence 3 (some .boolean) "isSentence") {h : Hp} {t0 : Int32} {H : Heap} {locs : List Loc} (hkm : Km h0 h) (hW : Wx X h H) (hZ : va_S (aA (eB X)) s.heap H locs) (ls : Array Slot) (hl : lv_has ls 3 []) (hE : sX15_isSentence_140 F h  t0 = some o) : W p l e (rm 8 178) s m args below meth c H locs 0 0 (MQ below (QI X h0 o.1 o.2) args s 0 0 (aA (eB X))) (F0 m 140 ls [.int t0]) := by
  obtain ⟨g_1, hE⟩ := gd_e hE
  exact x_iret C rfl (narB g_1) hW hZ hkm hE dX15_isSentence_140
set_option maxRecDepth 20000 in
theorem bX15_isSentence_139 {p : Program} {l : Launch} {e : Env} {s : State} {m : MethodId} {args : Array Value} {below : List Frame} {meth : Method} {c : Code} {X : Ec} {h0 : Hp} {o : Int32 × Hp} {F : Nat} (C : Cx X p s m args meth c RX15 cX15_isSentence 3 (some .boolean) "isSentence") {h : Hp} {H : Heap} {locs : List Loc} (hkm : Km h0 h) (hW : Wx X h H) (hZ : va_S (aA (eB X)) s.heap H locs) (ls : Array Slot) (hl : lv_has ls 3 []) (hE : sX15_isSentence_139 F h  = some o) : W p l e (rm 8 178) s m args below meth c H locs 0 0 (MQ below (QI X h0 o.1 o.2) args s 0 0 (aA (eB X))) (F0 m 139 ls []) := by
  refine lv_iconst (v := (0 : Int32)) C.1 C.2.1 dX15_isSentence_139 (by decide) ?_
  exact bX15_isSentence_140 C hkm hW hZ _ (lv_sub hl [] rfl) hE
set_option maxRecDepth 20000 in
theorem bX15_isSentence_99 {p : Program} {l : Launch} {e : Env} {s : State} {m : MethodId} {args : Array Value} {below : List Frame} {meth : Method} {c : Code} {X : Ec} {h0 : Hp} {o : Int32 × Hp} {F : Nat} (C : Cx X p s m args meth c RX15 cX15_isSentence 3 (some .boolean) "isSentence") {h : Hp} {t0 : Int32} {H : Heap} {locs : List Loc} (hkm : Km h0 h) (hW : Wx X h H) (hZ : va_S (aA (eB X)) s.heap H locs) (ls : Array Slot) (hl : lv_has ls 3 []) (hE : sX15_isSentence_99 F h  t0 = some o) : W p l e (rm 8 178) s m args below meth c H locs 0 0 (MQ below (QI X h0 o.1 o.2) args s 0 0 (aA (eB X))) (F0 m 99 ls [.int t0]) := by
  obtain ⟨g_1, hE⟩ := gd_e hE
  exact x_iret C rfl (narB g_1) hW hZ hkm hE dX15_isSentence_99
set_option maxRecDepth 20000 in
theorem bX15_isSentence_98 {p : Program} {l : Launch} {e : Env} {s : State} {m : MethodId} {args : Array Value} {below : List Frame} {meth : Method} {c : Code} {X : Ec} {h0 : Hp} {o : Int32 × Hp} {F : Nat} (C : Cx X p s m args meth c RX15 cX15_isSentence 3 (some .boolean) "isSentence") {h : Hp} {H : Heap} {locs : List Loc} (hkm : Km h0 h) (hW : Wx X h H) (hZ : va_S (aA (eB X)) s.heap H locs) (ls : Array Slot) (hl : lv_has ls 3 []) (hE : sX15_isSentence_98 F h  = some o) : W p l e (rm 8 178) s m args below meth c H locs 0 0 (MQ below (QI X h0 o.1 o.2) args s 0 0 (aA (eB X))) (F0 m 98 ls []) := by
  refine lv_iconst (v := (0 : Int32)) C.1 C.2.1 dX15_isSentence_98 (by decide) ?_
  exact bX15_isSentence_99 C hkm hW hZ _ (lv_sub hl [] rfl) hE
set_option maxRecDepth 20000 in
theorem bX15_isSentence_66 {p : Program} {l : Launch} {e : Env} {s : State} {m : MethodId} {args : Array Value} {below : List Frame} {meth : Method} {c : Code} {X : Ec} {h0 : Hp} {o : Int32 × Hp} {F : Nat} (C : Cx X p s m args meth c RX15 cX15_isSentence 3 (some .boolean) "isSentence") {h : Hp} {t0 : Int32} {H : Heap} {locs : List Loc} (hkm : Km h0 h) (hW : Wx X h H) (hZ : va_S (aA (eB X)) s.heap H locs) (ls : Array Slot) (hl : lv_has ls 3 []) (hE : sX15_isSentence_66 F h  t0 = some o) : W p l e (rm 8 178) s m args below meth c H locs 0 0 (MQ below (QI X h0 o.1 o.2) args s 0 0 (aA (eB X))) (F0 m 66 ls [.int t0]) := by
  obtain ⟨g_1, hE⟩ := gd_e hE
  exact x_iret C rfl (narB g_1) hW hZ hkm hE dX15_isSentence_66
set_option maxRecDepth 20000 in
theorem bX15_isSentence_65 {p : Program} {l : Launch} {e : Env} {s : State} {m : MethodId} {args : Array Value} {below : List Frame} {meth : Method} {c : Code} {X : Ec} {h0 : Hp} {o : Int32 × Hp} {F : Nat} (C : Cx X p s m args meth c RX15 cX15_isSentence 3 (some .boolean) "isSentence") {h : Hp} {H : Heap} {locs : List Loc} (hkm : Km h0 h) (hW : Wx X h H) (hZ : va_S (aA (eB X)) s.heap H locs) (ls : Array Slot) (hl : lv_has ls 3 []) (hE : sX15_isSentence_65 F h  = some o) : W p l e (rm 8 178) s m args below meth c H locs 0 0 (MQ below (QI X h0 o.1 o.2) args s 0 0 (aA (eB X))) (F0 m 65 ls []) := by
  refine lv_iconst (v := (0 : Int32)) C.1 C.2.1 dX15_isSentence_65 (by decide) ?_
  exact bX15_isSentence_66 C hkm hW hZ _ (lv_sub hl [] rfl) hE
set_option maxRecDepth 20000 in
theorem ct_X15_isSentence (l : Launch) (X : Ec) (F : Nat) {h : Hp} {x0 : Nat} {x1 : Nat} {x2 : Int32} {o : Int32 × Hp} (k_x0 : hK h x0 = 15) (k_x1 : hK h x1 = 16) (hE : sX15_isSentence F h x0 x1 x2 = some o) : MetI l yX15_isSentence cX15_isSentence 3 (some .boolean) 8 178 X [.ref x0, .ref x1, .int x2] h o := by
  refine x_met (by decide) (Nat.le_of_ble_eq_true rfl) ?_
  intro p e s m below meth c ls C hl hW hZ
  have hl : lv_has ls 3 [(0, .ref x0), (1, .ref x1), (2, .int x2)] := hl
  have hkm : Km h h := Km.rf h
  refine lv_aload_n C.1 C.2.1 dX15_isSentence_0 rfl (lv_at hl 0 rfl) ?_
  refine lv_aload_n C.1 C.2.1 dX15_isSentence_1 rfl (lv_at hl 1 rfl) ?_
  refine va_ldcS C.1 C.2.1 C.2.2.2.1 (C.2.2.2.2.2.2.2.2.1 30 (by decide)).2 dX15_isSentence_2 ?_
  obtain ⟨o_1, eo_1, hE⟩ := cl_e hE
  refine x_kI (o := o_1) (z_runV (As := [.ref x1, .ref (X.2.2.2.1 30)]) (rest := []) C (ct_X15_isWord l X F k_x0 k_x1 (by decide) eo_1) cw_X15_80 hW hZ k_x0 (by decide) rfl rfl rfl hl.1 (Nat.le_of_ble_eq_true rfl) rfl dX15_isSentence_4 ⟨Nat.le_of_ble_eq_true rfl, Nat.le_of_ble_eq_true rfl⟩ ⟨Nat.le_refl _, Nat.le_refl _⟩) hZ (fun _ _ hW km hZ => ?_)
  replace hkm := hkm.tr km
  replace k_x0 := km.at k_x0 (by decide)
  replace k_x1 := km.at k_x1 (by decide)
  refine lv_if_eq (tgt := 17) C.1 C.2.1 dX15_isSentence_7 (by decide) (fun c_2 => ?_) (fun c_2 => ?_)
  · have hE := br_p hE c_2
    refine lv_aload_n C.1 C.2.1 dX15_isSentence_17 rfl (lv_at hl 0 rfl) ?_
    refine lv_aload_n C.1 C.2.1 dX15_isSentence_18 rfl (lv_at hl 1 rfl) ?_
    refine va_ldcS C.1 C.2.1 C.2.2.2.1 (C.2.2.2.2.2.2.2.2.1 39 (by decide)).2 dX15_isSentence_19 ?_
    obtain ⟨o_3, eo_3, hE⟩ := cl_e hE
    refine x_kI (o := o_3) (z_runV (As := [.ref x1, .ref (X.2.2.2.1 39)]) (rest := []) C (ct_X15_isWord l X F k_x0 k_x1 (by decide) eo_3) cw_X15_80 hW hZ k_x0 (by decide) rfl rfl rfl hl.1 (Nat.le_of_ble_eq_true rfl) rfl dX15_isSentence_21 ⟨Nat.le_of_ble_eq_true rfl, Nat.le_of_ble_eq_true rfl⟩ ⟨Nat.le_refl _, Nat.le_refl _⟩) hZ (fun _ _ hW km hZ => ?_)
    replace hkm := hkm.tr km
    replace k_x0 := km.at k_x0 (by decide)
    replace k_x1 := km.at k_x1 (by decide)
    refine lv_if_eq (tgt := 34) C.1 C.2.1 dX15_isSentence_24 (by decide) (fun c_4 => ?_) (fun c_4 => ?_)
    · have hE := br_p hE c_4
      refine lv_aload_n C.1 C.2.1 dX15_isSentence_34 rfl (lv_at hl 0 rfl) ?_
      refine lv_aload_n C.1 C.2.1 dX15_isSentence_35 rfl (lv_at hl 1 rfl) ?_
      refine va_ldcS C.1 C.2.1 C.2.2.2.1 (C.2.2.2.2.2.2.2.2.1 40 (by decide)).2 dX15_isSentence_36 ?_
      obtain ⟨o_5, eo_5, hE⟩ := cl_e hE
      refine x_kI (o := o_5) (z_runV (As := [.ref x1, .ref (X.2.2.2.1 40)]) (rest := []) C (ct_X15_isWord l X F k_x0 k_x1 (by decide) eo_5) cw_X15_80 hW hZ k_x0 (by decide) rfl rfl rfl hl.1 (Nat.le_of_ble_eq_true rfl) rfl dX15_isSentence_38 ⟨Nat.le_of_ble_eq_true rfl, Nat.le_of_ble_eq_true rfl⟩ ⟨Nat.le_refl _, Nat.le_refl _⟩) hZ (fun _ _ hW km hZ => ?_)
      replace hkm := hkm.tr km
      replace k_x0 := km.at k_x0 (by decide)
      replace k_x1 := km.at k_x1 (by decide)
      refine lv_if_eq (tgt := 67) C.1 C.2.1 dX15_isSentence_41 (by decide) (fun c_6 => ?_) (fun c_6 => ?_)
      · have hE := br_p hE c_6
        refine lv_aload_n C.1 C.2.1 dX15_isSentence_67 rfl (lv_at hl 0 rfl) ?_
        refine lv_aload_n C.1 C.2.1 dX15_isSentence_68 rfl (lv_at hl 1 rfl) ?_
        refine va_ldcS C.1 C.2.1 C.2.2.2.1 (C.2.2.2.2.2.2.2.2.1 41 (by decide)).2 dX15_isSentence_69 ?_
        obtain ⟨o_7, eo_7, hE⟩ := cl_e hE
        refine x_kI (o := o_7) (z_runV (As := [.ref x1, .ref (X.2.2.2.1 41)]) (rest := []) C (ct_X15_isWord l X F k_x0 k_x1 (by decide) eo_7) cw_X15_80 hW hZ k_x0 (by decide) rfl rfl rfl hl.1 (Nat.le_of_ble_eq_true rfl) rfl dX15_isSentence_71 ⟨Nat.le_of_ble_eq_true rfl, Nat.le_of_ble_eq_true rfl⟩ ⟨Nat.le_refl _, Nat.le_refl _⟩) hZ (fun _ _ hW km hZ => ?_)
        replace hkm := hkm.tr km
        replace k_x0 := km.at k_x0 (by decide)
        replace k_x1 := km.at k_x1 (by decide)
        refine lv_if_eq (tgt := 100) C.1 C.2.1 dX15_isSentence_74 (by decide) (fun c_8 => ?_) (fun c_8 => ?_)
        · have hE := br_p hE c_8
          refine lv_aload_n C.1 C.2.1 dX15_isSentence_100 rfl (lv_at hl 0 rfl) ?_
          refine lv_aload_n C.1 C.2.1 dX15_isSentence_101 rfl (lv_at hl 1 rfl) ?_
          refine va_ldcS C.1 C.2.1 C.2.2.2.1 (C.2.2.2.2.2.2.2.2.1 42 (by decide)).2 dX15_isSentence_102 ?_
          obtain ⟨o_9, eo_9, hE⟩ := cl_e hE
          refine x_kI (o := o_9) (z_runV (As := [.ref x1, .ref (X.2.2.2.1 42)]) (rest := []) C (ct_X15_isWord l X F k_x0 k_x1 (by decide) eo_9) cw_X15_80 hW hZ k_x0 (by decide) rfl rfl rfl hl.1 (Nat.le_of_ble_eq_true rfl) rfl dX15_isSentence_104 ⟨Nat.le_of_ble_eq_true rfl, Nat.le_of_ble_eq_true rfl⟩ ⟨Nat.le_refl _, Nat.le_refl _⟩) hZ (fun _ _ hW km hZ => ?_)
          replace hkm := hkm.tr km
          replace k_x0 := km.at k_x0 (by decide)
          replace k_x1 := km.at k_x1 (by decide)
          refine lv_if_eq (tgt := 141) C.1 C.2.1 dX15_isSentence_107 (by decide) (fun c_10 => ?_) (fun c_10 => ?_)
          · have hE := br_p hE c_10
            refine lv_aload_n C.1 C.2.1 dX15_isSentence_141 rfl (lv_at hl 0 rfl) ?_
            refine lv_aload_n C.1 C.2.1 dX15_isSentence_142 rfl (lv_at hl 1 rfl) ?_
            refine va_ldcS C.1 C.2.1 C.2.2.2.1 (C.2.2.2.2.2.2.2.2.1 43 (by decide)).2 dX15_isSentence_143 ?_
            obtain ⟨o_11, eo_11, hE⟩ := cl_e hE
            refine x_kI (o := o_11) (z_runV (As := [.ref x1, .ref (X.2.2.2.1 43)]) (rest := []) C (ct_X15_isWord l X F k_x0 k_x1 (by decide) eo_11) cw_X15_80 hW hZ k_x0 (by decide) rfl rfl rfl hl.1 (Nat.le_of_ble_eq_true rfl) rfl dX15_isSentence_145 ⟨Nat.le_of_ble_eq_true rfl, Nat.le_of_ble_eq_true rfl⟩ ⟨Nat.le_refl _, Nat.le_refl _⟩) hZ (fun _ _ hW km hZ => ?_)
            replace hkm := hkm.tr km
            replace k_x0 := km.at k_x0 (by decide)
            replace k_x1 := km.at k_x1 (by decide)
            refine lv_if_eq (tgt := 182) C.1 C.2.1 dX15_isSentence_148 (by decide) (fun c_12 => ?_) (fun c_12 => ?_)
            · have hE := br_p hE c_12
              refine lv_aload_n C.1 C.2.1 dX15_isSentence_182 rfl (lv_at hl 0 rfl) ?_
              refine lv_aload_n C.1 C.2.1 dX15_isSentence_183 rfl (lv_at hl 1 rfl) ?_
              refine va_ldcS C.1 C.2.1 C.2.2.2.1 (C.2.2.2.2.2.2.2.2.1 44 (by decide)).2 dX15_isSentence_184 ?_
              obtain ⟨o_13, eo_13, hE⟩ := cl_e hE
              refine x_kI (o := o_13) (z_runV (As := [.ref x1, .ref (X.2.2.2.1 44)]) (rest := []) C (ct_X15_isWord l X F k_x0 k_x1 (by decide) eo_13) cw_X15_80 hW hZ k_x0 (by decide) rfl rfl rfl hl.1 (Nat.le_of_ble_eq_true rfl) rfl dX15_isSentence_186 ⟨Nat.le_of_ble_eq_true rfl, Nat.le_of_ble_eq_true rfl⟩ ⟨Nat.le_refl _, Nat.le_refl _⟩) hZ (fun _ _ hW km hZ => ?_)
              replace hkm := hkm.tr km
              replace k_x0 := km.at k_x0 (by decide)
              replace k_x1 := km.at k_x1 (by decide)
              refine lv_if_eq (tgt := 223) C.1 C.2.1 dX15_isSentence_189 (by decide) (fun c_14 => ?_) (fun c_14 => ?_)
              · have hE := br_p hE c_14
                refine lv_aload_n C.1 C.2.1 dX15_isSentence_223 rfl (lv_at hl 0 rfl) ?_
                refine lv_aload_n C.1 C.2.1 dX15_isSentence_224 rfl (lv_at hl 1 rfl) ?_
                refine va_ldcS C.1 C.2.1 C.2.2.2.1 (C.2.2.2.2.2.2.2.2.1 45 (by decide)).2 dX15_isSentence_225 ?_
                obtain ⟨o_15, eo_15, hE⟩ := cl_e hE
                refine x_kI (o := o_15) (z_runV (As := [.ref x1, .ref (X.2.2.2.1 45)]) (rest := []) C (ct_X15_isWord l X F k_x0 k_x1 (by decide) eo_15) cw_X15_80 hW hZ k_x0 (by decide) rfl rfl rfl hl.1 (Nat.le_of_ble_eq_true rfl) rfl dX15_isSentence_227 ⟨Nat.le_of_ble_eq_true rfl, Nat.le_of_ble_eq_true rfl⟩ ⟨Nat.le_refl _, Nat.le_refl _⟩) hZ (fun _ _ hW km hZ => ?_)
                replace hkm := hkm.tr km
                replace k_x0 := km.at k_x0 (by decide)
                replace k_x1 := km.at k_x1 (by decide)
                refine lv_if_eq (tgt := 264) C.1 C.2.1 dX15_isSentence_230 (by decide) (fun c_16 => ?_) (fun c_16 => ?_)
                · have hE := br_p hE c_16
                  refine lv_aload_n C.1 C.2.1 dX15_isSentence_264 rfl (lv_at hl 0 rfl) ?_
                  refine lv_aload_n C.1 C.2.1 dX15_isSentence_265 rfl (lv_at hl 1 rfl) ?_
                  refine va_ldcS C.1 C.2.1 C.2.2.2.1 (C.2.2.2.2.2.2.2.2.1 46 (by decide)).2 dX15_isSentence_266 ?_
                  obtain ⟨o_17, eo_17, hE⟩ := cl_e hE
                  refine x_kI (o := o_17) (z_runV (As := [.ref x1, .ref (X.2.2.2.1 46)]) (rest := []) C (ct_X15_isWord l X F k_x0 k_x1 (by decide) eo_17) cw_X15_80 hW hZ k_x0 (by decide) rfl rfl rfl hl.1 (Nat.le_of_ble_eq_true rfl) rfl dX15_isSentence_268 ⟨Nat.le_of_ble_eq_true rfl, Nat.le_of_ble_eq_true rfl⟩ ⟨Nat.le_refl _, Nat.le_refl _⟩) hZ (fun _ _ hW km hZ => ?_)
                  replace hkm := hkm.tr km
                  replace k_x0 := km.at k_x0 (by decide)
                  replace k_x1 := km.at k_x1 (by decide)
                  refine lv_if_eq (tgt := 298) C.1 C.2.1 dX15_isSentence_271 (by decide) (fun c_18 => ?_) (fun c_18 => ?_)
                  · have hE := br_p hE c_18
                    refine lv_aload_n C.1 C.2.1 dX15_isSentence_298 rfl (lv_at hl 0 rfl) ?_
                    refine lv_aload_n C.1 C.2.1 dX15_isSentence_299 rfl (lv_at hl 1 rfl) ?_
                    refine va_ldcS C.1 C.2.1 C.2.2.2.1 (C.2.2.2.2.2.2.2.2.1 47 (by decide)).2 dX15_isSentence_300 ?_
                    obtain ⟨o_19, eo_19, hE⟩ := cl_e hE
                    refine x_kI (o := o_19) (z_runV (As := [.ref x1, .ref (X.2.2.2.1 47)]) (rest := []) C (ct_X15_isWord l X F k_x0 k_x1 (by decide) eo_19) cw_X15_80 hW hZ k_x0 (by decide) rfl rfl rfl hl.1 (Nat.le_of_ble_eq_true rfl) rfl dX15_isSentence_302 ⟨Nat.le_of_ble_eq_true rfl, Nat.le_of_ble_eq_true rfl⟩ ⟨Nat.le_refl _, Nat.le_refl _⟩) hZ (fun _ _ hW km hZ => ?_)
                    replace hkm := hkm.tr km
                    replace k_x0 := km.at k_x0 (by decide)
                    replace k_x1 := km.at k_x1 (by decide)
                    refine lv_if_eq (tgt := 332) C.1 C.2.1 dX15_isSentence_305 (by decide) (fun c_20 => ?_) (fun c_20 => ?_)
                    · have hE := br_p hE c_20
                      refine lv_aload_n C.1 C.2.1 dX15_isSentence_332 rfl (lv_at hl 0 rfl) ?_
                      refine lv_aload_n C.1 C.2.1 dX15_isSentence_333 rfl (lv_at hl 1 rfl) ?_
                      refine va_ldcS C.1 C.2.1 C.2.2.2.1 (C.2.2.2.2.2.2.2.2.1 48 (by decide)).2 dX15_isSentence_334 ?_
                      obtain ⟨o_21, eo_21, hE⟩ := cl_e hE
                      refine x_kI (o := o_21) (z_runV (As := [.ref x1, .ref (X.2.2.2.1 48)]) (rest := []) C (ct_X15_isWord l X F k_x0 k_x1 (by decide) eo_21) cw_X15_80 hW hZ k_x0 (by decide) rfl rfl rfl hl.1 (Nat.le_of_ble_eq_true rfl) rfl dX15_isSentence_336 ⟨Nat.le_of_ble_eq_true rfl, Nat.le_of_ble_eq_true rfl⟩ ⟨Nat.le_refl _, Nat.le_refl _⟩) hZ (fun _ _ hW km hZ => ?_)
                      replace hkm := hkm.tr km
                      replace k_x0 := km.at k_x0 (by decide)
                      replace k_x1 := km.at k_x1 (by decide)
                      refine lv_if_eq (tgt := 367) C.1 C.2.1 dX15_isSentence_339 (by decide) (fun c_22 => ?_) (fun c_22 => ?_)
                      · have hE := br_p hE c_22
                        refine lv_aload_n C.1 C.2.1 dX15_isSentence_367 rfl (lv_at hl 0 rfl) ?_
                        refine lv_aload_n C.1 C.2.1 dX15_isSentence_368 rfl (lv_at hl 1 rfl) ?_
                        refine va_ldcS C.1 C.2.1 C.2.2.2.1 (C.2.2.2.2.2.2.2.2.1 51 (by decide)).2 dX15_isSentence_369 ?_
                        obtain ⟨o_23, eo_23, hE⟩ := cl_e hE
                        refine x_kI (o := o_23) (z_runV (As := [.ref x1, .ref (X.2.2.2.1 51)]) (rest := []) C (ct_X15_isWord l X F k_x0 k_x1 (by decide) eo_23) cw_X15_80 hW hZ k_x0 (by decide) rfl rfl rfl hl.1 (Nat.le_of_ble_eq_true rfl) rfl dX15_isSentence_371 ⟨Nat.le_of_ble_eq_true rfl, Nat.le_of_ble_eq_true rfl⟩ ⟨Nat.le_refl _, Nat.le_refl _⟩) hZ (fun _ _ hW km hZ => ?_)
                        replace hkm := hkm.tr km
                        replace k_x0 := km.at k_x0 (by decide)
                        replace k_x1 := km.at k_x1 (by decide)
                        refine lv_if_eq (tgt := 400) C.1 C.2.1 dX15_isSentence_374 (by decide) (fun c_24 => ?_) (fun c_24 => ?_)
                        · have hE := br_p hE c_24
                          exact bX15_isSentence_400 C hkm hW hZ _ (lv_sub hl [] rfl) hE
                        · have hE := br_n hE c_24
                          refine lv_aload_n C.1 C.2.1 dX15_isSentence_377 rfl (lv_at hl 0 rfl) ?_
                          refine lv_bipush (v := (9 : Int32)) C.1 C.2.1 dX15_isSentence_378 (by decide) ?_
                          obtain ⟨o_25, eo_25, hE⟩ := cl_e hE
                          refine x_kI (o := o_25) (z_runV (As := [.int (9 : Int32)]) (rest := []) C (ct_X15_isOnce l X k_x0 eo_25) cw_X15_113 hW hZ k_x0 (by decide) rfl rfl rfl hl.1 (Nat.le_of_ble_eq_true rfl) rfl dX15_isSentence_380 ⟨Nat.le_of_ble_eq_true rfl, Nat.le_of_ble_eq_true rfl⟩ ⟨Nat.le_refl _, Nat.le_refl _⟩) hZ (fun _ _ hW km hZ => ?_)
                          replace hkm := hkm.tr km
                          replace k_x0 := km.at k_x0 (by decide)
                          replace k_x1 := km.at k_x1 (by decide)
                          refine lv_if_eq (tgt := 400) C.1 C.2.1 dX15_isSentence_383 (by decide) (fun c_26 => ?_) (fun c_26 => ?_)
                          · have hE := br_p hE c_26
                            exact bX15_isSentence_400 C hkm hW hZ _ (lv_sub hl [] rfl) hE
                          · have hE := br_n hE c_26
                            refine lv_aload_n C.1 C.2.1 dX15_isSentence_386 rfl (lv_at hl 0 rfl) ?_
                            refine lv_aload_n C.1 C.2.1 dX15_isSentence_387 rfl (lv_at hl 1 rfl) ?_
                            refine lv_iload_n C.1 C.2.1 dX15_isSentence_388 rfl (lv_at hl 2 rfl) ?_
                            refine lv_iconst (v := (0 : Int32)) C.1 C.2.1 dX15_isSentence_389 (by decide) ?_
                            obtain ⟨o_27, eo_27, hE⟩ := cl_e hE
                            refine x_kI (o := o_27) (z_runV (As := [.ref x1, .int x2, .int (0 : Int32)]) (rest := []) C (ct_X15_isOutcome l X F k_x0 k_x1 eo_27) cw_X15_159 hW hZ k_x0 (by decide) rfl rfl rfl hl.1 (Nat.le_of_ble_eq_true rfl) rfl dX15_isSentence_390 ⟨Nat.le_of_ble_eq_true rfl, Nat.le_of_ble_eq_true rfl⟩ ⟨Nat.le_refl _, Nat.le_refl _⟩) hZ (fun _ _ hW km hZ => ?_)
                            replace hkm := hkm.tr km
                            replace k_x0 := km.at k_x0 (by decide)
                            replace k_x1 := km.at k_x1 (by decide)
                            refine lv_if_eq (tgt := 400) C.1 C.2.1 dX15_isSentence_393 (by decide) (fun c_28 => ?_) (fun c_28 => ?_)
                            · have hE := br_p hE c_28
                              exact bX15_isSentence_400 C hkm hW hZ _ (lv_sub hl [] rfl) hE
                            · have hE := br_n hE c_28
                              refine lv_iconst (v := (1 : Int32)) C.1 C.2.1 dX15_isSentence_396 (by decide) ?_
                              refine lv_goto (tgt := 401) C.1 C.2.1 dX15_isSentence_397 (by decide) ?_
                              exact bX15_isSentence_401 C hkm hW hZ _ (lv_sub hl [] rfl) hE
                      · have hE := br_n hE c_22
                        refine lv_aload_n C.1 C.2.1 dX15_isSentence_342 rfl (lv_at hl 0 rfl) ?_
                        refine lv_bipush (v := (8 : Int32)) C.1 C.2.1 dX15_isSentence_343 (by decide) ?_
                        obtain ⟨o_29, eo_29, hE⟩ := cl_e hE
                        refine x_kI (o := o_29) (z_runV (As := [.int (8 : Int32)]) (rest := []) C (ct_X15_isOnce l X k_x0 eo_29) cw_X15_113 hW hZ k_x0 (by decide) rfl rfl rfl hl.1 (Nat.le_of_ble_eq_true rfl) rfl dX15_isSentence_345 ⟨Nat.le_of_ble_eq_true rfl, Nat.le_of_ble_eq_true rfl⟩ ⟨Nat.le_refl _, Nat.le_refl _⟩) hZ (fun _ _ hW km hZ => ?_)
                        replace hkm := hkm.tr km
                        replace k_x0 := km.at k_x0 (by decide)
                        replace k_x1 := km.at k_x1 (by decide)
                        refine lv_if_eq (tgt := 365) C.1 C.2.1 dX15_isSentence_348 (by decide) (fun c_30 => ?_) (fun c_30 => ?_)
                        · have hE := br_p hE c_30
                          exact bX15_isSentence_365 C hkm hW hZ _ (lv_sub hl [] rfl) hE
                        · have hE := br_n hE c_30
                          refine lv_aload_n C.1 C.2.1 dX15_isSentence_351 rfl (lv_at hl 0 rfl) ?_
                          refine lv_aload_n C.1 C.2.1 dX15_isSentence_352 rfl (lv_at hl 1 rfl) ?_
                          refine lv_iload_n C.1 C.2.1 dX15_isSentence_353 rfl (lv_at hl 2 rfl) ?_
                          refine lv_iconst (v := (1 : Int32)) C.1 C.2.1 dX15_isSentence_354 (by decide) ?_
                          obtain ⟨o_31, eo_31, hE⟩ := cl_e hE
                          refine x_kI (o := o_31) (z_runV (As := [.ref x1, .int x2, .int (1 : Int32)]) (rest := []) C (ct_X15_isOutcome l X F k_x0 k_x1 eo_31) cw_X15_159 hW hZ k_x0 (by decide) rfl rfl rfl hl.1 (Nat.le_of_ble_eq_true rfl) rfl dX15_isSentence_355 ⟨Nat.le_of_ble_eq_true rfl, Nat.le_of_ble_eq_true rfl⟩ ⟨Nat.le_refl _, Nat.le_refl _⟩) hZ (fun _ _ hW km hZ => ?_)
                          replace hkm := hkm.tr km
                          replace k_x0 := km.at k_x0 (by decide)
                          replace k_x1 := km.at k_x1 (by decide)
                          refine lv_if_eq (tgt := 365) C.1 C.2.1 dX15_isSentence_358 (by decide) (fun c_32 => ?_) (fun c_32 => ?_)
                          · have hE := br_p hE c_32
                            exact bX15_isSentence_365 C hkm hW hZ _ (lv_sub hl [] rfl) hE
                          · have hE := br_n hE c_32
                            refine lv_iconst (v := (1 : Int32)) C.1 C.2.1 dX15_isSentence_361 (by decide) ?_
                            refine lv_goto (tgt := 366) C.1 C.2.1 dX15_isSentence_362 (by decide) ?_
                            exact bX15_isSentence_366 C hkm hW hZ _ (lv_sub hl [] rfl) hE
                    · have hE := br_n hE c_20
                      refine lv_aload_n C.1 C.2.1 dX15_isSentence_308 rfl (lv_at hl 0 rfl) ?_
                      refine lv_bipush (v := (7 : Int32)) C.1 C.2.1 dX15_isSentence_309 (by decide) ?_
                      obtain ⟨o_33, eo_33, hE⟩ := cl_e hE
                      refine x_kI (o := o_33) (z_runV (As := [.int (7 : Int32)]) (rest := []) C (ct_X15_isOnce l X k_x0 eo_33) cw_X15_113 hW hZ k_x0 (by decide) rfl rfl rfl hl.1 (Nat.le_of_ble_eq_true rfl) rfl dX15_isSentence_311 ⟨Nat.le_of_ble_eq_true rfl, Nat.le_of_ble_eq_true rfl⟩ ⟨Nat.le_refl _, Nat.le_refl _⟩) hZ (fun _ _ hW km hZ => ?_)
                      replace hkm := hkm.tr km
                      replace k_x0 := km.at k_x0 (by decide)
                      replace k_x1 := km.at k_x1 (by decide)
                      refine lv_if_eq (tgt := 330) C.1 C.2.1 dX15_isSentence_314 (by decide) (fun c_34 => ?_) (fun c_34 => ?_)
                      · have hE := br_p hE c_34
                        exact bX15_isSentence_330 C hkm hW hZ _ (lv_sub hl [] rfl) hE
                      · have hE := br_n hE c_34
                        refine lv_aload_n C.1 C.2.1 dX15_isSentence_317 rfl (lv_at hl 0 rfl) ?_
                        refine lv_aload_n C.1 C.2.1 dX15_isSentence_318 rfl (lv_at hl 1 rfl) ?_
                        refine lv_iload_n C.1 C.2.1 dX15_isSentence_319 rfl (lv_at hl 2 rfl) ?_
                        obtain ⟨o_35, eo_35, hE⟩ := cl_e hE
                        refine x_kI (o := o_35) (z_runV (As := [.ref x1, .int x2]) (rest := []) C (ct_X15_isHill l X F k_x0 k_x1 eo_35) cw_X15_154 hW hZ k_x0 (by decide) rfl rfl rfl hl.1 (Nat.le_of_ble_eq_true rfl) rfl dX15_isSentence_320 ⟨Nat.le_of_ble_eq_true rfl, Nat.le_of_ble_eq_true rfl⟩ ⟨Nat.le_refl _, Nat.le_refl _⟩) hZ (fun _ _ hW km hZ => ?_)
                        replace hkm := hkm.tr km
                        replace k_x0 := km.at k_x0 (by decide)
                        replace k_x1 := km.at k_x1 (by decide)
                        refine lv_if_eq (tgt := 330) C.1 C.2.1 dX15_isSentence_323 (by decide) (fun c_36 => ?_) (fun c_36 => ?_)
                        · have hE := br_p hE c_36
                          exact bX15_isSentence_330 C hkm hW hZ _ (lv_sub hl [] rfl) hE
                        · have hE := br_n hE c_36
                          refine lv_iconst (v := (1 : Int32)) C.1 C.2.1 dX15_isSentence_326 (by decide) ?_
                          refine lv_goto (tgt := 331) C.1 C.2.1 dX15_isSentence_327 (by decide) ?_
                          exact bX15_isSentence_331 C hkm hW hZ _ (lv_sub hl [] rfl) hE
                  · have hE := br_n hE c_18
                    refine lv_aload_n C.1 C.2.1 dX15_isSentence_274 rfl (lv_at hl 0 rfl) ?_
                    refine lv_bipush (v := (6 : Int32)) C.1 C.2.1 dX15_isSentence_275 (by decide) ?_
                    obtain ⟨o_37, eo_37, hE⟩ := cl_e hE
                    refine x_kI (o := o_37) (z_runV (As := [.int (6 : Int32)]) (rest := []) C (ct_X15_isOnce l X k_x0 eo_37) cw_X15_113 hW hZ k_x0 (by decide) rfl rfl rfl hl.1 (Nat.le_of_ble_eq_true rfl) rfl dX15_isSentence_277 ⟨Nat.le_of_ble_eq_true rfl, Nat.le_of_ble_eq_true rfl⟩ ⟨Nat.le_refl _, Nat.le_refl _⟩) hZ (fun _ _ hW km hZ => ?_)
                    replace hkm := hkm.tr km
                    replace k_x0 := km.at k_x0 (by decide)
                    replace k_x1 := km.at k_x1 (by decide)
                    refine lv_if_eq (tgt := 296) C.1 C.2.1 dX15_isSentence_280 (by decide) (fun c_38 => ?_) (fun c_38 => ?_)
                    · have hE := br_p hE c_38
                      exact bX15_isSentence_296 C hkm hW hZ _ (lv_sub hl [] rfl) hE
                    · have hE := br_n hE c_38
                      refine lv_aload_n C.1 C.2.1 dX15_isSentence_283 rfl (lv_at hl 0 rfl) ?_
                      refine lv_aload_n C.1 C.2.1 dX15_isSentence_284 rfl (lv_at hl 1 rfl) ?_
                      refine lv_iload_n C.1 C.2.1 dX15_isSentence_285 rfl (lv_at hl 2 rfl) ?_
                      obtain ⟨o_39, eo_39, hE⟩ := cl_e hE
                      refine x_kI (o := o_39) (z_runV (As := [.ref x1, .int x2]) (rest := []) C (ct_X15_isChecks l X F k_x0 k_x1 eo_39) cw_X15_149 hW hZ k_x0 (by decide) rfl rfl rfl hl.1 (Nat.le_of_ble_eq_true rfl) rfl dX15_isSentence_286 ⟨Nat.le_of_ble_eq_true rfl, Nat.le_of_ble_eq_true rfl⟩ ⟨Nat.le_refl _, Nat.le_refl _⟩) hZ (fun _ _ hW km hZ => ?_)
                      replace hkm := hkm.tr km
                      replace k_x0 := km.at k_x0 (by decide)
                      replace k_x1 := km.at k_x1 (by decide)
                      refine lv_if_eq (tgt := 296) C.1 C.2.1 dX15_isSentence_289 (by decide) (fun c_40 => ?_) (fun c_40 => ?_)
                      · have hE := br_p hE c_40
                        exact bX15_isSentence_296 C hkm hW hZ _ (lv_sub hl [] rfl) hE
                      · have hE := br_n hE c_40
                        refine lv_iconst (v := (1 : Int32)) C.1 C.2.1 dX15_isSentence_292 (by decide) ?_
                        refine lv_goto (tgt := 297) C.1 C.2.1 dX15_isSentence_293 (by decide) ?_
                        exact bX15_isSentence_297 C hkm hW hZ _ (lv_sub hl [] rfl) hE
                · have hE := br_n hE c_16
                  refine lv_aload_n C.1 C.2.1 dX15_isSentence_233 rfl (lv_at hl 0 rfl) ?_
                  obtain ⟨r_41, er_41, hE⟩ := cl_e hE
                  refine gf_X15_57 C hW k_x0 er_41 dX15_isSentence_234 (fun k_r_41 => ?_)
                  refine lv_iconst (v := (1 : Int32)) C.1 C.2.1 dX15_isSentence_237 (by decide) ?_
                  obtain ⟨h_42, eh_42, hE⟩ := nm_e2 hE
                  refine pf_X15_142 C hW hZ k_r_41 (by decide) eh_42 dX15_isSentence_238 (fun _ _ hW km hZ => ?_)
                  replace hkm := hkm.tr km
                  replace k_x0 := km.at k_x0 (by decide)
                  replace k_x1 := km.at k_x1 (by decide)
                  refine lv_aload_n C.1 C.2.1 dX15_isSentence_241 rfl (lv_at hl 0 rfl) ?_
                  refine lv_iconst (v := (5 : Int32)) C.1 C.2.1 dX15_isSentence_242 (by decide) ?_
                  obtain ⟨o_43, eo_43, hE⟩ := cl_e hE
                  refine x_kI (o := o_43) (z_runV (As := [.int (5 : Int32)]) (rest := []) C (ct_X15_isOnce l X k_x0 eo_43) cw_X15_113 hW hZ k_x0 (by decide) rfl rfl rfl hl.1 (Nat.le_of_ble_eq_true rfl) rfl dX15_isSentence_243 ⟨Nat.le_of_ble_eq_true rfl, Nat.le_of_ble_eq_true rfl⟩ ⟨Nat.le_refl _, Nat.le_refl _⟩) hZ (fun _ _ hW km hZ => ?_)
                  replace hkm := hkm.tr km
                  replace k_x0 := km.at k_x0 (by decide)
                  replace k_x1 := km.at k_x1 (by decide)
                  refine lv_if_eq (tgt := 262) C.1 C.2.1 dX15_isSentence_246 (by decide) (fun c_44 => ?_) (fun c_44 => ?_)
                  · have hE := br_p hE c_44
                    exact bX15_isSentence_262 C hkm hW hZ _ (lv_sub hl [] rfl) hE
                  · have hE := br_n hE c_44
                    refine lv_aload_n C.1 C.2.1 dX15_isSentence_249 rfl (lv_at hl 0 rfl) ?_
                    refine lv_aload_n C.1 C.2.1 dX15_isSentence_250 rfl (lv_at hl 1 rfl) ?_
                    refine lv_iload_n C.1 C.2.1 dX15_isSentence_251 rfl (lv_at hl 2 rfl) ?_
                    obtain ⟨o_45, eo_45, hE⟩ := cl_e hE
                    refine x_kI (o := o_45) (z_runV (As := [.ref x1, .int x2]) (rest := []) C (ct_X15_isBlast l X F k_x0 k_x1 eo_45) cw_X15_144 hW hZ k_x0 (by decide) rfl rfl rfl hl.1 (Nat.le_of_ble_eq_true rfl) rfl dX15_isSentence_252 ⟨Nat.le_of_ble_eq_true rfl, Nat.le_of_ble_eq_true rfl⟩ ⟨Nat.le_refl _, Nat.le_refl _⟩) hZ (fun _ _ hW km hZ => ?_)
                    replace hkm := hkm.tr km
                    replace k_x0 := km.at k_x0 (by decide)
                    replace k_x1 := km.at k_x1 (by decide)
                    refine lv_if_eq (tgt := 262) C.1 C.2.1 dX15_isSentence_255 (by decide) (fun c_46 => ?_) (fun c_46 => ?_)
                    · have hE := br_p hE c_46
                      exact bX15_isSentence_262 C hkm hW hZ _ (lv_sub hl [] rfl) hE
                    · have hE := br_n hE c_46
                      refine lv_iconst (v := (1 : Int32)) C.1 C.2.1 dX15_isSentence_258 (by decide) ?_
                      refine lv_goto (tgt := 263) C.1 C.2.1 dX15_isSentence_259 (by decide) ?_
                      exact bX15_isSentence_263 C hkm hW hZ _ (lv_sub hl [] rfl) hE
              · have hE := br_n hE c_14
                refine lv_aload_n C.1 C.2.1 dX15_isSentence_192 rfl (lv_at hl 0 rfl) ?_
                obtain ⟨r_47, er_47, hE⟩ := cl_e hE
                refine gf_X15_57 C hW k_x0 er_47 dX15_isSentence_193 (fun k_r_47 => ?_)
                refine lv_iconst (v := (1 : Int32)) C.1 C.2.1 dX15_isSentence_196 (by decide) ?_
                obtain ⟨h_48, eh_48, hE⟩ := nm_e2 hE
                refine pf_X15_138 C hW hZ k_r_47 (by decide) eh_48 dX15_isSentence_197 (fun _ _ hW km hZ => ?_)
                replace hkm := hkm.tr km
                replace k_x0 := km.at k_x0 (by decide)
                replace k_x1 := km.at k_x1 (by decide)
                refine lv_aload_n C.1 C.2.1 dX15_isSentence_200 rfl (lv_at hl 0 rfl) ?_
                refine lv_iconst (v := (4 : Int32)) C.1 C.2.1 dX15_isSentence_201 (by decide) ?_
                obtain ⟨o_49, eo_49, hE⟩ := cl_e hE
                refine x_kI (o := o_49) (z_runV (As := [.int (4 : Int32)]) (rest := []) C (ct_X15_isOnce l X k_x0 eo_49) cw_X15_113 hW hZ k_x0 (by decide) rfl rfl rfl hl.1 (Nat.le_of_ble_eq_true rfl) rfl dX15_isSentence_202 ⟨Nat.le_of_ble_eq_true rfl, Nat.le_of_ble_eq_true rfl⟩ ⟨Nat.le_refl _, Nat.le_refl _⟩) hZ (fun _ _ hW km hZ => ?_)
                replace hkm := hkm.tr km
                replace k_x0 := km.at k_x0 (by decide)
                replace k_x1 := km.at k_x1 (by decide)
                refine lv_if_eq (tgt := 221) C.1 C.2.1 dX15_isSentence_205 (by decide) (fun c_50 => ?_) (fun c_50 => ?_)
                · have hE := br_p hE c_50
                  exact bX15_isSentence_221 C hkm hW hZ _ (lv_sub hl [] rfl) hE
                · have hE := br_n hE c_50
                  refine lv_aload_n C.1 C.2.1 dX15_isSentence_208 rfl (lv_at hl 0 rfl) ?_
                  refine lv_aload_n C.1 C.2.1 dX15_isSentence_209 rfl (lv_at hl 1 rfl) ?_
                  refine lv_iload_n C.1 C.2.1 dX15_isSentence_210 rfl (lv_at hl 2 rfl) ?_
                  obtain ⟨o_51, eo_51, hE⟩ := cl_e hE
                  refine x_kI (o := o_51) (z_runV (As := [.ref x1, .int x2]) (rest := []) C (ct_X15_goesOn l X F k_x0 k_x1 eo_51) cw_X15_129 hW hZ k_x0 (by decide) rfl rfl rfl hl.1 (Nat.le_of_ble_eq_true rfl) rfl dX15_isSentence_211 ⟨Nat.le_of_ble_eq_true rfl, Nat.le_of_ble_eq_true rfl⟩ ⟨Nat.le_refl _, Nat.le_refl _⟩) hZ (fun _ _ hW km hZ => ?_)
                  replace hkm := hkm.tr km
                  replace k_x0 := km.at k_x0 (by decide)
                  replace k_x1 := km.at k_x1 (by decide)
                  refine lv_if_eq (tgt := 221) C.1 C.2.1 dX15_isSentence_214 (by decide) (fun c_52 => ?_) (fun c_52 => ?_)
                  · have hE := br_p hE c_52
                    exact bX15_isSentence_221 C hkm hW hZ _ (lv_sub hl [] rfl) hE
                  · have hE := br_n hE c_52
                    refine lv_iconst (v := (1 : Int32)) C.1 C.2.1 dX15_isSentence_217 (by decide) ?_
                    refine lv_goto (tgt := 222) C.1 C.2.1 dX15_isSentence_218 (by decide) ?_
                    exact bX15_isSentence_222 C hkm hW hZ _ (lv_sub hl [] rfl) hE
            · have hE := br_n hE c_12
              refine lv_aload_n C.1 C.2.1 dX15_isSentence_151 rfl (lv_at hl 0 rfl) ?_
              obtain ⟨r_53, er_53, hE⟩ := cl_e hE
              refine gf_X15_57 C hW k_x0 er_53 dX15_isSentence_152 (fun k_r_53 => ?_)
              refine lv_iconst (v := (1 : Int32)) C.1 C.2.1 dX15_isSentence_155 (by decide) ?_
              obtain ⟨h_54, eh_54, hE⟩ := nm_e2 hE
              refine pf_X15_134 C hW hZ k_r_53 (by decide) eh_54 dX15_isSentence_156 (fun _ _ hW km hZ => ?_)
              replace hkm := hkm.tr km
              replace k_x0 := km.at k_x0 (by decide)
              replace k_x1 := km.at k_x1 (by decide)
              refine lv_aload_n C.1 C.2.1 dX15_isSentence_159 rfl (lv_at hl 0 rfl) ?_
              refine lv_iconst (v := (3 : Int32)) C.1 C.2.1 dX15_isSentence_160 (by decide) ?_
              obtain ⟨o_55, eo_55, hE⟩ := cl_e hE
              refine x_kI (o := o_55) (z_runV (As := [.int (3 : Int32)]) (rest := []) C (ct_X15_isOnce l X k_x0 eo_55) cw_X15_113 hW hZ k_x0 (by decide) rfl rfl rfl hl.1 (Nat.le_of_ble_eq_true rfl) rfl dX15_isSentence_161 ⟨Nat.le_of_ble_eq_true rfl, Nat.le_of_ble_eq_true rfl⟩ ⟨Nat.le_refl _, Nat.le_refl _⟩) hZ (fun _ _ hW km hZ => ?_)
              replace hkm := hkm.tr km
              replace k_x0 := km.at k_x0 (by decide)
              replace k_x1 := km.at k_x1 (by decide)
              refine lv_if_eq (tgt := 180) C.1 C.2.1 dX15_isSentence_164 (by decide) (fun c_56 => ?_) (fun c_56 => ?_)
              · have hE := br_p hE c_56
                exact bX15_isSentence_180 C hkm hW hZ _ (lv_sub hl [] rfl) hE
              · have hE := br_n hE c_56
                refine lv_aload_n C.1 C.2.1 dX15_isSentence_167 rfl (lv_at hl 0 rfl) ?_
                refine lv_aload_n C.1 C.2.1 dX15_isSentence_168 rfl (lv_at hl 1 rfl) ?_
                refine lv_iload_n C.1 C.2.1 dX15_isSentence_169 rfl (lv_at hl 2 rfl) ?_
                obtain ⟨o_57, eo_57, hE⟩ := cl_e hE
                refine x_kI (o := o_57) (z_runV (As := [.ref x1, .int x2]) (rest := []) C (ct_X15_goesOn l X F k_x0 k_x1 eo_57) cw_X15_129 hW hZ k_x0 (by decide) rfl rfl rfl hl.1 (Nat.le_of_ble_eq_true rfl) rfl dX15_isSentence_170 ⟨Nat.le_of_ble_eq_true rfl, Nat.le_of_ble_eq_true rfl⟩ ⟨Nat.le_refl _, Nat.le_refl _⟩) hZ (fun _ _ hW km hZ => ?_)
                replace hkm := hkm.tr km
                replace k_x0 := km.at k_x0 (by decide)
                replace k_x1 := km.at k_x1 (by decide)
                refine lv_if_eq (tgt := 180) C.1 C.2.1 dX15_isSentence_173 (by decide) (fun c_58 => ?_) (fun c_58 => ?_)
                · have hE := br_p hE c_58
                  exact bX15_isSentence_180 C hkm hW hZ _ (lv_sub hl [] rfl) hE
                · have hE := br_n hE c_58
                  refine lv_iconst (v := (1 : Int32)) C.1 C.2.1 dX15_isSentence_176 (by decide) ?_
                  refine lv_goto (tgt := 181) C.1 C.2.1 dX15_isSentence_177 (by decide) ?_
                  exact bX15_isSentence_181 C hkm hW hZ _ (lv_sub hl [] rfl) hE
          · have hE := br_n hE c_10
            refine lv_aload_n C.1 C.2.1 dX15_isSentence_110 rfl (lv_at hl 0 rfl) ?_
            obtain ⟨r_59, er_59, hE⟩ := cl_e hE
            refine gf_X15_57 C hW k_x0 er_59 dX15_isSentence_111 (fun k_r_59 => ?_)
            refine lv_iconst (v := (1 : Int32)) C.1 C.2.1 dX15_isSentence_114 (by decide) ?_
            obtain ⟨h_60, eh_60, hE⟩ := nm_e2 hE
            refine pf_X15_126 C hW hZ k_r_59 (by decide) eh_60 dX15_isSentence_115 (fun _ _ hW km hZ => ?_)
            replace hkm := hkm.tr km
            replace k_x0 := km.at k_x0 (by decide)
            replace k_x1 := km.at k_x1 (by decide)
            refine lv_aload_n C.1 C.2.1 dX15_isSentence_118 rfl (lv_at hl 0 rfl) ?_
            refine lv_iconst (v := (2 : Int32)) C.1 C.2.1 dX15_isSentence_119 (by decide) ?_
            obtain ⟨o_61, eo_61, hE⟩ := cl_e hE
            refine x_kI (o := o_61) (z_runV (As := [.int (2 : Int32)]) (rest := []) C (ct_X15_isOnce l X k_x0 eo_61) cw_X15_113 hW hZ k_x0 (by decide) rfl rfl rfl hl.1 (Nat.le_of_ble_eq_true rfl) rfl dX15_isSentence_120 ⟨Nat.le_of_ble_eq_true rfl, Nat.le_of_ble_eq_true rfl⟩ ⟨Nat.le_refl _, Nat.le_refl _⟩) hZ (fun _ _ hW km hZ => ?_)
            replace hkm := hkm.tr km
            replace k_x0 := km.at k_x0 (by decide)
            replace k_x1 := km.at k_x1 (by decide)
            refine lv_if_eq (tgt := 139) C.1 C.2.1 dX15_isSentence_123 (by decide) (fun c_62 => ?_) (fun c_62 => ?_)
            · have hE := br_p hE c_62
              exact bX15_isSentence_139 C hkm hW hZ _ (lv_sub hl [] rfl) hE
            · have hE := br_n hE c_62
              refine lv_aload_n C.1 C.2.1 dX15_isSentence_126 rfl (lv_at hl 0 rfl) ?_
              refine lv_aload_n C.1 C.2.1 dX15_isSentence_127 rfl (lv_at hl 1 rfl) ?_
              refine lv_iload_n C.1 C.2.1 dX15_isSentence_128 rfl (lv_at hl 2 rfl) ?_
              obtain ⟨o_63, eo_63, hE⟩ := cl_e hE
              refine x_kI (o := o_63) (z_runV (As := [.ref x1, .int x2]) (rest := []) C (ct_X15_goesOn l X F k_x0 k_x1 eo_63) cw_X15_129 hW hZ k_x0 (by decide) rfl rfl rfl hl.1 (Nat.le_of_ble_eq_true rfl) rfl dX15_isSentence_129 ⟨Nat.le_of_ble_eq_true rfl, Nat.le_of_ble_eq_true rfl⟩ ⟨Nat.le_refl _, Nat.le_refl _⟩) hZ (fun _ _ hW km hZ => ?_)
              replace hkm := hkm.tr km
              replace k_x0 := km.at k_x0 (by decide)
              replace k_x1 := km.at k_x1 (by decide)
              refine lv_if_eq (tgt := 139) C.1 C.2.1 dX15_isSentence_132 (by decide) (fun c_64 => ?_) (fun c_64 => ?_)
              · have hE := br_p hE c_64
                exact bX15_isSentence_139 C hkm hW hZ _ (lv_sub hl [] rfl) hE
              · have hE := br_n hE c_64
                refine lv_iconst (v := (1 : Int32)) C.1 C.2.1 dX15_isSentence_135 (by decide) ?_
                refine lv_goto (tgt := 140) C.1 C.2.1 dX15_isSentence_136 (by decide) ?_
                exact bX15_isSentence_140 C hkm hW hZ _ (lv_sub hl [] rfl) hE
        · have hE := br_n hE c_8
          refine lv_aload_n C.1 C.2.1 dX15_isSentence_77 rfl (lv_at hl 0 rfl) ?_
          refine lv_iconst (v := (1 : Int32)) C.1 C.2.1 dX15_isSentence_78 (by decide) ?_
          obtain ⟨o_65, eo_65, hE⟩ := cl_e hE
          refine x_kI (o := o_65) (z_runV (As := [.int (1 : Int32)]) (rest := []) C (ct_X15_isOnce l X k_x0 eo_65) cw_X15_113 hW hZ k_x0 (by decide) rfl rfl rfl hl.1 (Nat.le_of_ble_eq_true rfl) rfl dX15_isSentence_79 ⟨Nat.le_of_ble_eq_true rfl, Nat.le_of_ble_eq_true rfl⟩ ⟨Nat.le_refl _, Nat.le_refl _⟩) hZ (fun _ _ hW km hZ => ?_)
          replace hkm := hkm.tr km
          replace k_x0 := km.at k_x0 (by decide)
          replace k_x1 := km.at k_x1 (by decide)
          refine lv_if_eq (tgt := 98) C.1 C.2.1 dX15_isSentence_82 (by decide) (fun c_66 => ?_) (fun c_66 => ?_)
          · have hE := br_p hE c_66
            exact bX15_isSentence_98 C hkm hW hZ _ (lv_sub hl [] rfl) hE
          · have hE := br_n hE c_66
            refine lv_aload_n C.1 C.2.1 dX15_isSentence_85 rfl (lv_at hl 0 rfl) ?_
            refine lv_aload_n C.1 C.2.1 dX15_isSentence_86 rfl (lv_at hl 1 rfl) ?_
            refine lv_iload_n C.1 C.2.1 dX15_isSentence_87 rfl (lv_at hl 2 rfl) ?_
            obtain ⟨o_67, eo_67, hE⟩ := cl_e hE
            refine x_kI (o := o_67) (z_runV (As := [.ref x1, .int x2]) (rest := []) C (ct_X15_isCastle l X F k_x0 k_x1 eo_67) cw_X15_121 hW hZ k_x0 (by decide) rfl rfl rfl hl.1 (Nat.le_of_ble_eq_true rfl) rfl dX15_isSentence_88 ⟨Nat.le_of_ble_eq_true rfl, Nat.le_of_ble_eq_true rfl⟩ ⟨Nat.le_refl _, Nat.le_refl _⟩) hZ (fun _ _ hW km hZ => ?_)
            replace hkm := hkm.tr km
            replace k_x0 := km.at k_x0 (by decide)
            replace k_x1 := km.at k_x1 (by decide)
            refine lv_if_eq (tgt := 98) C.1 C.2.1 dX15_isSentence_91 (by decide) (fun c_68 => ?_) (fun c_68 => ?_)
            · have hE := br_p hE c_68
              exact bX15_isSentence_98 C hkm hW hZ _ (lv_sub hl [] rfl) hE
            · have hE := br_n hE c_68
              refine lv_iconst (v := (1 : Int32)) C.1 C.2.1 dX15_isSentence_94 (by decide) ?_
              refine lv_goto (tgt := 99) C.1 C.2.1 dX15_isSentence_95 (by decide) ?_
              exact bX15_isSentence_99 C hkm hW hZ _ (lv_sub hl [] rfl) hE
      · have hE := br_n hE c_6
        refine lv_aload_n C.1 C.2.1 dX15_isSentence_44 rfl (lv_at hl 0 rfl) ?_
        refine lv_iconst (v := (0 : Int32)) C.1 C.2.1 dX15_isSentence_45 (by decide) ?_
        obtain ⟨o_69, eo_69, hE⟩ := cl_e hE
        refine x_kI (o := o_69) (z_runV (As := [.int (0 : Int32)]) (rest := []) C (ct_X15_isOnce l X k_x0 eo_69) cw_X15_113 hW hZ k_x0 (by decide) rfl rfl rfl hl.1 (Nat.le_of_ble_eq_true rfl) rfl dX15_isSentence_46 ⟨Nat.le_of_ble_eq_true rfl, Nat.le_of_ble_eq_true rfl⟩ ⟨Nat.le_refl _, Nat.le_refl _⟩) hZ (fun _ _ hW km hZ => ?_)
        replace hkm := hkm.tr km
        replace k_x0 := km.at k_x0 (by decide)
        replace k_x1 := km.at k_x1 (by decide)
        refine lv_if_eq (tgt := 65) C.1 C.2.1 dX15_isSentence_49 (by decide) (fun c_70 => ?_) (fun c_70 => ?_)
        · have hE := br_p hE c_70
          exact bX15_isSentence_65 C hkm hW hZ _ (lv_sub hl [] rfl) hE
        · have hE := br_n hE c_70
          refine lv_aload_n C.1 C.2.1 dX15_isSentence_52 rfl (lv_at hl 0 rfl) ?_
          refine lv_aload_n C.1 C.2.1 dX15_isSentence_53 rfl (lv_at hl 1 rfl) ?_
          refine lv_iload_n C.1 C.2.1 dX15_isSentence_54 rfl (lv_at hl 2 rfl) ?_
          obtain ⟨o_71, eo_71, hE⟩ := cl_e hE
          refine x_kI (o := o_71) (z_runV (As := [.ref x1, .int x2]) (rest := []) C (ct_X15_isRoyal l X F k_x0 k_x1 eo_71) cw_X15_116 hW hZ k_x0 (by decide) rfl rfl rfl hl.1 (Nat.le_of_ble_eq_true rfl) rfl dX15_isSentence_55 ⟨Nat.le_of_ble_eq_true rfl, Nat.le_of_ble_eq_true rfl⟩ ⟨Nat.le_refl _, Nat.le_refl _⟩) hZ (fun _ _ hW km hZ => ?_)
          replace hkm := hkm.tr km
          replace k_x0 := km.at k_x0 (by decide)
          replace k_x1 := km.at k_x1 (by decide)
          refine lv_if_eq (tgt := 65) C.1 C.2.1 dX15_isSentence_58 (by decide) (fun c_72 => ?_) (fun c_72 => ?_)
          · have hE := br_p hE c_72
            exact bX15_isSentence_65 C hkm hW hZ _ (lv_sub hl [] rfl) hE
          · have hE := br_n hE c_72
            refine lv_iconst (v := (1 : Int32)) C.1 C.2.1 dX15_isSentence_61 (by decide) ?_
            refine lv_goto (tgt := 66) C.1 C.2.1 dX15_isSentence_62 (by decide) ?_
            exact bX15_isSentence_66 C hkm hW hZ _ (lv_sub hl [] rfl) hE
    · have hE := br_n hE c_4
      refine lv_aload_n C.1 C.2.1 dX15_isSentence_27 rfl (lv_at hl 0 rfl) ?_
      refine lv_aload_n C.1 C.2.1 dX15_isSentence_28 rfl (lv_at hl 1 rfl) ?_
      refine lv_iload_n C.1 C.2.1 dX15_isSentence_29 rfl (lv_at hl 2 rfl) ?_
      obtain ⟨o_73, eo_73, hE⟩ := cl_e hE
      refine x_kI (o := o_73) (z_runV (As := [.ref x1, .int x2]) (rest := []) C (ct_X15_isBecoming l X F k_x0 k_x1 eo_73) cw_X15_108 hW hZ k_x0 (by decide) rfl rfl rfl hl.1 (Nat.le_of_ble_eq_true rfl) rfl dX15_isSentence_30 ⟨Nat.le_of_ble_eq_true rfl, Nat.le_of_ble_eq_true rfl⟩ ⟨Nat.le_refl _, Nat.le_refl _⟩) hZ (fun _ _ hW km hZ => ?_)
      replace hkm := hkm.tr km
      replace k_x0 := km.at k_x0 (by decide)
      replace k_x1 := km.at k_x1 (by decide)
      obtain ⟨g_74, hE⟩ := gd_e hE
      exact x_iret C rfl (narB g_74) hW hZ hkm hE dX15_isSentence_33
  · have hE := br_n hE c_2
    refine lv_aload_n C.1 C.2.1 dX15_isSentence_10 rfl (lv_at hl 0 rfl) ?_
    refine lv_aload_n C.1 C.2.1 dX15_isSentence_11 rfl (lv_at hl 1 rfl) ?_
    refine lv_iload_n C.1 C.2.1 dX15_isSentence_12 rfl (lv_at hl 2 rfl) ?_
    obtain ⟨o_75, eo_75, hE⟩ := cl_e hE
    refine x_kI (o := o_75) (z_runV (As := [.ref x1, .int x2]) (rest := []) C (ct_X15_isMan l X F k_x0 k_x1 eo_75) cw_X15_103 hW hZ k_x0 (by decide) rfl rfl rfl hl.1 (Nat.le_of_ble_eq_true rfl) rfl dX15_isSentence_13 ⟨Nat.le_of_ble_eq_true rfl, Nat.le_of_ble_eq_true rfl⟩ ⟨Nat.le_refl _, Nat.le_refl _⟩) hZ (fun _ _ hW km hZ => ?_)
    replace hkm := hkm.tr km
    replace k_x0 := km.at k_x0 (by decide)
    replace k_x1 := km.at k_x1 (by decide)
    obtain ⟨g_76, hE⟩ := gd_e hE
    exact x_iret C rfl (narB g_76) hW hZ hkm hE dX15_isSentence_16
