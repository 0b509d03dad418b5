theorem dX5_areAlike_0 : decode cX5_areAlike 0 = .ok (.aload_n 1, 1) := by decide +kernel
theorem dX5_areAlike_1 : decode cX5_areAlike 1 = .ok (.getfield 78, 3) := by decide +kernel
theorem dX5_areAlike_4 : decode cX5_areAlike 4 = .ok (.aload_n 2, 1) := by decide +kernel
theorem dX5_areAlike_5 : decode cX5_areAlike 5 = .ok (.getfield 78, 3) := by decide +kernel
theorem dX5_areAlike_8 : decode cX5_areAlike 8 = .ok (.if_icmp .ne 15, 3) := by decide +kernel
theorem dX5_areAlike_11 : decode cX5_areAlike 11 = .ok (.aload_n 1, 1) := by decide +kernel
theorem dX5_areAlike_12 : decode cX5_areAlike 12 = .ok (.getfield 93, 3) := by decide +kernel
theorem dX5_areAlike_15 : decode cX5_areAlike 15 = .ok (.aload_n 2, 1) := by decide +kernel
theorem dX5_areAlike_16 : decode cX5_areAlike 16 = .ok (.getfield 93, 3) := by decide +kernel
theorem dX5_areAlike_19 : decode cX5_areAlike 19 = .ok (.lcmp, 1) := by decide +kernel
theorem dX5_areAlike_20 : decode cX5_areAlike 20 = .ok (.ifCond .eq 5, 3) := by decide +kernel
theorem dX5_areAlike_23 : decode cX5_areAlike 23 = .ok (.iconst 0, 1) := by decide +kernel
theorem dX5_areAlike_24 : decode cX5_areAlike 24 = .ok (.ireturn, 1) := by decide +kernel
theorem dX5_areAlike_25 : decode cX5_areAlike 25 = .ok (.iconst 0, 1) := by decide +kernel
theorem dX5_areAlike_26 : decode cX5_areAlike 26 = .ok (.istore_n 3, 1) := by decide +kernel
theorem dX5_areAlike_27 : decode cX5_areAlike 27 = .ok (.iload_n 3, 1) := by decide +kernel
theorem dX5_areAlike_28 : decode cX5_areAlike 28 = .ok (.iconst 2, 1) := by decide +kernel
theorem dX5_areAlike_29 : decode cX5_areAlike 29 = .ok (.if_icmp .ge 58, 3) := by decide +kernel
theorem dX5_areAlike_32 : decode cX5_areAlike 32 = .ok (.aload_n 1, 1) := by decide +kernel
theorem dX5_areAlike_33 : decode cX5_areAlike 33 = .ok (.getfield 33, 3) := by decide +kernel
theorem dX5_areAlike_36 : decode cX5_areAlike 36 = .ok (.iload_n 3, 1) := by decide +kernel
theorem dX5_areAlike_37 : decode cX5_areAlike 37 = .ok (.laload, 1) := by decide +kernel
theorem dX5_areAlike_38 : decode cX5_areAlike 38 = .ok (.aload_n 2, 1) := by decide +kernel
theorem dX5_areAlike_39 : decode cX5_areAlike 39 = .ok (.getfield 33, 3) := by decide +kernel
theorem dX5_areAlike_42 : decode cX5_areAlike 42 = .ok (.iload_n 3, 1) := by decide +kernel
theorem dX5_areAlike_43 : decode cX5_areAlike 43 = .ok (.laload, 1) := by decide +kernel
theorem dX5_areAlike_44 : decode cX5_areAlike 44 = .ok (.lcmp, 1) := by decide +kernel
theorem dX5_areAlike_45 : decode cX5_areAlike 45 = .ok (.ifCond .ne 34, 3) := by decide +kernel
theorem dX5_areAlike_48 : decode cX5_areAlike 48 = .ok (.aload_n 1, 1) := by decide +kernel
theorem dX5_areAlike_49 : decode cX5_areAlike 49 = .ok (.getfield 303, 3) := by decide +kernel
theorem dX5_areAlike_52 : decode cX5_areAlike 52 = .ok (.iload_n 3, 1) := by decide +kernel
theorem dX5_areAlike_53 : decode cX5_areAlike 53 = .ok (.laload, 1) := by decide +kernel
theorem dX5_areAlike_54 : decode cX5_areAlike 54 = .ok (.aload_n 2, 1) := by decide +kernel
theorem dX5_areAlike_55 : decode cX5_areAlike 55 = .ok (.getfield 303, 3) := by decide +kernel
theorem dX5_areAlike_58 : decode cX5_areAlike 58 = .ok (.iload_n 3, 1) := by decide +kernel
theorem dX5_areAlike_59 : decode cX5_areAlike 59 = .ok (.laload, 1) := by decide +kernel
theorem dX5_areAlike_60 : decode cX5_areAlike 60 = .ok (.lcmp, 1) := by decide +kernel
theorem dX5_areAlike_61 : decode cX5_areAlike 61 = .ok (.ifCond .ne 18, 3) := by decide +kernel
theorem dX5_areAlike_64 : decode cX5_areAlike 64 = .ok (.aload_n 1, 1) := by decide +kernel
theorem dX5_areAlike_65 : decode cX5_areAlike 65 = .ok (.getfield 283, 3) := by decide +kernel
theorem dX5_areAlike_68 : decode cX5_areAlike 68 = .ok (.iload_n 3, 1) := by decide +kernel
theorem dX5_areAlike_69 : decode cX5_areAlike 69 = .ok (.iaload, 1) := by decide +kernel
theorem dX5_areAlike_70 : decode cX5_areAlike 70 = .ok (.aload_n 2, 1) := by decide +kernel
theorem dX5_areAlike_71 : decode cX5_areAlike 71 = .ok (.getfield 283, 3) := by decide +kernel
theorem dX5_areAlike_74 : decode cX5_areAlike 74 = .ok (.iload_n 3, 1) := by decide +kernel
theorem dX5_areAlike_75 : decode cX5_areAlike 75 = .ok (.iaload, 1) := by decide +kernel
theorem dX5_areAlike_76 : decode cX5_areAlike 76 = .ok (.if_icmp .eq 5, 3) := by decide +kernel
theorem dX5_areAlike_79 : decode cX5_areAlike 79 = .ok (.iconst 0, 1) := by decide +kernel
theorem dX5_areAlike_80 : decode cX5_areAlike 80 = .ok (.ireturn, 1) := by decide +kernel
theorem dX5_areAlike_81 : decode cX5_areAlike 81 = .ok (.iinc 3 1, 3) := by decide +kernel
theorem dX5_areAlike_84 : decode cX5_areAlike 84 = .ok (.goto (-57), 3) := by decide +kernel
theorem dX5_areAlike_87 : decode cX5_areAlike 87 = .ok (.iconst 0, 1) := by decide +kernel
theorem dX5_areAlike_88 : decode cX5_areAlike 88 = .ok (.istore_n 3, 1) := by decide +kernel
theorem dX5_areAlike_89 : decode cX5_areAlike 89 = .ok (.iload_n 3, 1) := by decide +kernel
theorem dX5_areAlike_90 : decode cX5_areAlike 90 = .ok (.aload_n 0, 1) := by decide +kernel
theorem dX5_areAlike_91 : decode cX5_areAlike 91 = .ok (.getfield 22, 3) := by decide +kernel
theorem dX5_areAlike_94 : decode cX5_areAlike 94 = .ok (.getfield 110, 3) := by decide +kernel
theorem dX5_areAlike_97 : decode cX5_areAlike 97 = .ok (.if_icmp .ge 26, 3) := by decide +kernel
theorem dX5_areAlike_100 : decode cX5_areAlike 100 = .ok (.aload_n 1, 1) := by decide +kernel
theorem dX5_areAlike_101 : decode cX5_areAlike 101 = .ok (.getfield 42, 3) := by decide +kernel
theorem dX5_areAlike_104 : decode cX5_areAlike 104 = .ok (.iload_n 3, 1) := by decide +kernel
theorem dX5_areAlike_105 : decode cX5_areAlike 105 = .ok (.baload, 1) := by decide +kernel
theorem dX5_areAlike_106 : decode cX5_areAlike 106 = .ok (.aload_n 2, 1) := by decide +kernel
theorem dX5_areAlike_107 : decode cX5_areAlike 107 = .ok (.getfield 42, 3) := by decide +kernel
theorem dX5_areAlike_110 : decode cX5_areAlike 110 = .ok (.iload_n 3, 1) := by decide +kernel
theorem dX5_areAlike_111 : decode cX5_areAlike 111 = .ok (.baload, 1) := by decide +kernel
theorem dX5_areAlike_112 : decode cX5_areAlike 112 = .ok (.if_icmp .eq 5, 3) := by decide +kernel
theorem dX5_areAlike_115 : decode cX5_areAlike 115 = .ok (.iconst 0, 1) := by decide +kernel
theorem dX5_areAlike_116 : decode cX5_areAlike 116 = .ok (.ireturn, 1) := by decide +kernel
theorem dX5_areAlike_117 : decode cX5_areAlike 117 = .ok (.iinc 3 1, 3) := by decide +kernel
theorem dX5_areAlike_120 : decode cX5_areAlike 120 = .ok (.goto (-31), 3) := by decide +kernel
theorem dX5_areAlike_123 : decode cX5_areAlike 123 = .ok (.aload_n 1, 1) := by decide +kernel
theorem dX5_areAlike_124 : decode cX5_areAlike 124 = .ok (.getfield 326, 3) := by decide +kernel
theorem dX5_areAlike_127 : decode cX5_areAlike 127 = .ok (.aload_n 2, 1) := by decide +kernel
theorem dX5_areAlike_128 : decode cX5_areAlike 128 = .ok (.getfield 326, 3) := by decide +kernel
theorem dX5_areAlike_131 : decode cX5_areAlike 131 = .ok (.lcmp, 1) := by decide +kernel
theorem dX5_areAlike_132 : decode cX5_areAlike 132 = .ok (.ifCond .eq 19, 3) := by decide +kernel
theorem dX5_areAlike_135 : decode cX5_areAlike 135 = .ok (.aload_n 0, 1) := by decide +kernel
theorem dX5_areAlike_136 : decode cX5_areAlike 136 = .ok (.aload_n 1, 1) := by decide +kernel
theorem dX5_areAlike_137 : decode cX5_areAlike 137 = .ok (.invokevirtual 342, 3) := by decide +kernel
theorem dX5_areAlike_140 : decode cX5_areAlike 140 = .ok (.ifCond .ne 15, 3) := by decide +kernel
theorem dX5_areAlike_143 : decode cX5_areAlike 143 = .ok (.aload_n 0, 1) := by decide +kernel
theorem dX5_areAlike_144 : decode cX5_areAlike 144 = .ok (.aload_n 2, 1) := by decide +kernel
theorem dX5_areAlike_145 : decode cX5_areAlike 145 = .ok (.invokevirtual 342, 3) := by decide +kernel
theorem dX5_areAlike_148 : decode cX5_areAlike 148 = .ok (.ifCond .ne 7, 3) := by decide +kernel
theorem dX5_areAlike_151 : decode cX5_areAlike 151 = .ok (.iconst 1, 1) := by decide +kernel
theorem dX5_areAlike_152 : decode cX5_areAlike 152 = .ok (.goto 4, 3) := by decide +kernel
theorem dX5_areAlike_155 : decode cX5_areAlike 155 = .ok (.iconst 0, 1) := by decide +kernel
theorem dX5_areAlike_156 : decode cX5_areAlike 156 = .ok (.ireturn, 1) := by decide +kernel
def sX5_areAlike_23 (F : Nat) (h : Hp) : Option (Int32 × Hp) := some ((0 : Int32), h)
def sX5_areAlike_156 (F : Nat) (h : Hp) (t0 : Int32) : Option (Int32 × Hp) := gd (t0 &&& 1 = t0) <| some (t0, h)
def sX5_areAlike_151 (F : Nat) (h : Hp) : Option (Int32 × Hp) := sX5_areAlike_156 F h (1 : Int32)
def sX5_areAlike_155 (F : Nat) (h : Hp) : Option (Int32 × Hp) := sX5_areAlike_156 F h (0 : Int32)
def sX5_areAlike_89 (F : Nat) : Nat → Hp → Nat → Nat → Nat → Int32 → Option (Int32 × Hp)
  | 0, _, _, _, _, _ => none
  | f + 1, h, x0, x1, x2, x3 => cl (hR h x0 0) fun r_1 => br ((hI h r_1 2) ≤ x3) (br ((lg_cmp (hJ h x1 9) (hJ h x2 9)) = 0) (sX5_areAlike_151 F h ) (cl (sX5_mayCatch F h x0 x1) fun o_4 => br (o_4.1 = 0) (cl (sX5_mayCatch F o_4.2 x0 x2) fun o_6 => br (o_6.1 = 0) (sX5_areAlike_151 F o_6.2 ) (sX5_areAlike_155 F o_6.2 )) (sX5_areAlike_155 F o_4.2 ))) (cl (hR h x1 0) fun r_8 => gd (inB x3 (hN h r_8)) <| cl (hR h x2 0) fun r_10 => gd (inB x3 (hN h r_10)) <| br ((hI h r_8 x3.toNatClampNeg) = (hI h r_10 x3.toNatClampNeg)) (nm (x3 + (1 : Int32)) fun v_13 => sX5_areAlike_89 F f h x0 x1 x2 v_13) (some ((0 : Int32), h)))
def sX5_areAlike_79 (F : Nat) (h : Hp) : Option (Int32 × Hp) := some ((0 : Int32), h)
def sX5_areAlike_27 (F : Nat) : Nat → Hp → Nat → Nat → Nat → Int32 → Option (Int32 × Hp)
  | 0, _, _, _, _, _ => none
  | f + 1, h, x0, x1, x2, x3 => br ((2 : Int32) ≤ x3) (sX5_areAlike_89 F F h x0 x1 x2 (0 : Int32)) (cl (hR h x1 1) fun r_2 => gd (inB x3 (hN h r_2)) <| cl (hR h x2 1) fun r_4 => gd (inB x3 (hN h r_4)) <| br ((lg_cmp (hJ h r_2 x3.toNatClampNeg) (hJ h r_4 x3.toNatClampNeg)) = 0) (cl (hR h x1 3) fun r_7 => gd (inB x3 (hN h r_7)) <| cl (hR h x2 3) fun r_9 => gd (inB x3 (hN h r_9)) <| br ((lg_cmp (hJ h r_7 x3.toNatClampNeg) (hJ h r_9 x3.toNatClampNeg)) = 0) (cl (hR h x1 4) fun r_12 => gd (inB x3 (hN h r_12)) <| cl (hR h x2 4) fun r_14 => gd (inB x3 (hN h r_14)) <| br ((hI h r_12 x3.toNatClampNeg) = (hI h r_14 x3.toNatClampNeg)) (nm (x3 + (1 : Int32)) fun v_17 => sX5_areAlike_27 F f h x0 x1 x2 v_17) (sX5_areAlike_79 F h )) (sX5_areAlike_79 F h )) (sX5_areAlike_79 F h ))
def sX5_areAlike (F : Nat) (h : Hp) (x0 : Nat) (x1 : Nat) (x2 : Nat) : Option (Int32 × Hp) := br ((hI h x1 5) = (hI h x2 5)) (br ((lg_cmp (hJ h x1 8) (hJ h x2 8)) = 0) (sX5_areAlike_27 F F h x0 x1 x2 (0 : Int32)) (sX5_areAlike_23 F h )) (sX5_areAlike_23 F h )
set_option maxRecDepth 20000 in
theorem moX5_areAlike_23 {o : Int32 × Hp} {F : Nat} {h : Hp} (hE : sX5_areAlike_23 F h  = some o) : Le h o.2 := by
  first | exact le_some2 hE | exact le_some1 hE
set_option maxRecDepth 20000 in
theorem moX5_areAlike_156 {o : Int32 × Hp} {F : Nat} {h : Hp} {t0 : Int32} (hE : sX5_areAlike_156 F h  t0 = some o) : Le h o.2 := by
  obtain ⟨g_1, hE⟩ := gd_e hE
  first | exact le_some2 hE | exact le_some1 hE
set_option maxRecDepth 20000 in
theorem moX5_areAlike_151 {o : Int32 × Hp} {F : Nat} {h : Hp} (hE : sX5_areAlike_151 F h  = some o) : Le h o.2 := by
  exact moX5_areAlike_156 hE
set_option maxRecDepth 20000 in
theorem moX5_areAlike_155 {o : Int32 × Hp} {F : Nat} {h : Hp} (hE : sX5_areAlike_155 F h  = some o) : Le h o.2 := by
  exact moX5_areAlike_156 hE
set_option maxRecDepth 20000 in
theorem moX5_areAlike_89 {o : Int32 × Hp} {F : Nat} : ∀ (f : Nat) {h : Hp} {x0 : Nat} {x1 : Nat} {x2 : Nat} {x3 : Int32}, sX5_areAlike_89 F f h x0 x1 x2 x3 = some o → Le h o.2 := by
  intro f
  induction f with
  | zero =>
    intro h x0 x1 x2 x3 hE
    rw [sX5_areAlike_89] at hE
    cases hE
  | succ f ih =>
    intro h x0 x1 x2 x3 hE
    rw [sX5_areAlike_89] at hE
    have mk_89 : ∀ (h : Hp) (x0 : Nat) (x1 : Nat) (x2 : Nat) (x3 : Int32), sX5_areAlike_89 F f h x0 x1 x2 x3 = some o → Le h o.2 := fun h x0 x1 x2 x3 hE => ih hE
    obtain ⟨r_1, er_1, hE⟩ := cl_e hE
    rcases br_e hE with ⟨_, hE⟩ | ⟨_, hE⟩
    · rcases br_e hE with ⟨_, hE⟩ | ⟨_, hE⟩
      · exact moX5_areAlike_151 hE
      · obtain ⟨o_4, eo_4, hE⟩ := cl_e hE
        refine (moX5_mayCatch eo_4).tr ?_
        rcases br_e hE with ⟨_, hE⟩ | ⟨_, hE⟩
        · obtain ⟨o_6, eo_6, hE⟩ := cl_e hE
          refine (moX5_mayCatch eo_6).tr ?_
          rcases br_e hE with ⟨_, hE⟩ | ⟨_, hE⟩
          · exact moX5_areAlike_151 hE
          · exact moX5_areAlike_155 hE
        · exact moX5_areAlike_155 hE
    · obtain ⟨r_8, er_8, hE⟩ := cl_e hE
      obtain ⟨g_9, hE⟩ := gd_e hE
      obtain ⟨r_10, er_10, hE⟩ := cl_e hE
      obtain ⟨g_11, hE⟩ := gd_e hE
      rcases br_e hE with ⟨_, hE⟩ | ⟨_, hE⟩
      · obtain ⟨v_13, ev_13, hE⟩ := nm_e2 hE
        exact mk_89 _ _ _ _ _ hE
      · first | exact le_some2 hE | exact le_some1 hE
set_option maxRecDepth 20000 in
theorem moX5_areAlike_79 {o : Int32 × Hp} {F : Nat} {h : Hp} (hE : sX5_areAlike_79 F h  = some o) : Le h o.2 := by
  first | exact le_some2 hE | exact le_some1 hE
set_option maxRecDepth 20000 in
theorem moX5_areAlike_27 {o : Int32 × Hp} {F : Nat} : ∀ (f : Nat) {h : Hp} {x0 : Nat} {x1 : Nat} {x2 : Nat} {x3 : Int32}, sX5_areAlike_27 F f h x0 x1 x2 x3 = some o → Le h o.2 := by
  intro f
  induction f with
  | zero =>
    intro h x0 x1 x2 x3 hE
    rw [sX5_areAlike_27] at hE
    cases hE
  | succ f ih =>
    intro h x0 x1 x2 x3 hE
    rw [sX5_areAlike_27] at hE
    have mk_27 : ∀ (h : Hp) (x0 : Nat) (x1 : Nat) (x2 : Nat) (x3 : Int32), sX5_areAlike_27 F f h x0 x1 x2 x3 = some o → Le h o.2 := fun h x0 x1 x2 x3 hE => ih hE
    rcases br_e hE with ⟨_, hE⟩ | ⟨_, hE⟩
    · exact moX5_areAlike_89 _ hE
    · obtain ⟨r_2, er_2, hE⟩ := cl_e hE
      obtain ⟨g_3, hE⟩ := gd_e hE
      obtain ⟨r_4, er_4, hE⟩ := cl_e hE
      obtain ⟨g_5, hE⟩ := gd_e hE
      rcases br_e hE with ⟨_, hE⟩ | ⟨_, hE⟩
      · obtain ⟨r_7, er_7, hE⟩ := cl_e hE
        obtain ⟨g_8, hE⟩ := gd_e hE
        obtain ⟨r_9, er_9, hE⟩ := cl_e hE
        obtain ⟨g_10, hE⟩ := gd_e hE
        rcases br_e hE with ⟨_, hE⟩ | ⟨_, hE⟩
        · obtain ⟨r_12, er_12, hE⟩ := cl_e hE
          obtain ⟨g_13, hE⟩ := gd_e hE
          obtain ⟨r_14, er_14, hE⟩ := cl_e hE
          obtain ⟨g_15, hE⟩ := gd_e hE
          rcases br_e hE with ⟨_, hE⟩ | ⟨_, hE⟩
          · obtain ⟨v_17, ev_17, hE⟩ := nm_e2 hE
            exact mk_27 _ _ _ _ _ hE
          · exact moX5_areAlike_79 hE
        · exact moX5_areAlike_79 hE
      · exact moX5_areAlike_79 hE
set_option maxRecDepth 20000 in
theorem moX5_areAlike {o : Int32 × Hp} {F : Nat} {h : Hp} {x0 : Nat} {x1 : Nat} {x2 : Nat} (hE : sX5_areAlike F h x0 x1 x2 = some o) : Le h o.2 := by
  rcases br_e hE with ⟨_, hE⟩ | ⟨_, hE⟩
  · rcases br_e hE with ⟨_, hE⟩ | ⟨_, hE⟩
    · exact moX5_areAlike_27 _ hE
    · exact moX5_areAlike_23 hE
  · exact moX5_areAlike_23 hE
set_option maxRecDepth 20000 in
theorem bX5_areAlike_23 {p : Program} {l : Launch} {e : Env} {s : State} {m : MethodId} {args : Array Value} {below : List Frame} {meth : Method} {c : Code} {X : Ec} {h0 : Hp} {o : Int32 × Hp} {F : Nat} (C : Cx X p s m args meth c RX5 cX5_areAlike 4 (some .boolean) "areAlike") {h : Hp} {H : Heap} {locs : List Loc} (hkm : Km h0 h) (hW : Wx X h H) (hZ : va_S (aA (eB X)) s.heap H locs) (ls : Array Slot) (hl : lv_has ls 4 []) (hE : sX5_areAlike_23 F h  = some o) : W p l e (rm 5 162) s m args below meth c H locs 0 0 (MQ below (QI X h0 o.1 o.2) args s 0 0 (aA (eB X))) (F0 m 23 ls []) := by
  refine lv_iconst (v := (0 : Int32)) C.1 C.2.1 dX5_areAlike_23 (by decide) ?_
  exact x_iret C rfl (by decide) hW hZ hkm hE dX5_areAlike_24
set_option maxRecDepth 20000 in
theorem bX5_areAlike_156 {p : Program} {l : Launch} {e : Env} {s : State} {m : MethodId} {args : Array Value} {below : List Frame} {meth : Method} {c : Code} {X : Ec} {h0 : Hp} {o : Int32 × Hp} {F : Nat} (C : Cx X p s m args meth c RX5 cX5_areAlike 4 (some .boolean) "areAlike") {h : Hp} {t0 : Int32} {H : Heap} {locs : List Loc} (hkm : Km h0 h) (hW : Wx X h H) (hZ : va_S (aA (eB X)) s.heap H locs) (ls : Array Slot) (hl : lv_has ls 4 []) (hE : sX5_areAlike_156 F h  t0 = some o) : W p l e (rm 5 162) s m args below meth c H locs 0 0 (MQ below (QI X h0 o.1 o.2) args s 0 0 (aA (eB X))) (F0 m 156 ls [.int t0]) := by
  obtain ⟨g_1, hE⟩ := gd_e hE
  exact x_iret C rfl (narB g_1) hW hZ hkm hE dX5_areAlike_156
set_option maxRecDepth 20000 in
theorem bX5_areAlike_151 {p : Program} {l : Launch} {e : Env} {s : State} {m : MethodId} {args : Array Value} {below : List Frame} {meth : Method} {c : Code} {X : Ec} {h0 : Hp} {o : Int32 × Hp} {F : Nat} (C : Cx X p s m args meth c RX5 cX5_areAlike 4 (some .boolean) "areAlike") {h : Hp} {H : Heap} {locs : List Loc} (hkm : Km h0 h) (hW : Wx X h H) (hZ : va_S (aA (eB X)) s.heap H locs) (ls : Array Slot) (hl : lv_has ls 4 []) (hE : sX5_areAlike_151 F h  = some o) : W p l e (rm 5 162) s m args below meth c H locs 0 0 (MQ below (QI X h0 o.1 o.2) args s 0 0 (aA (eB X))) (F0 m 151 ls []) := by
  refine lv_iconst (v := (1 : Int32)) C.1 C.2.1 dX5_areAlike_151 (by decide) ?_
  refine lv_goto (tgt := 156) C.1 C.2.1 dX5_areAlike_152 (by decide) ?_
  exact bX5_areAlike_156 C hkm hW hZ _ (lv_sub hl [] rfl) hE
set_option maxRecDepth 20000 in
theorem bX5_areAlike_155 {p : Program} {l : Launch} {e : Env} {s : State} {m : MethodId} {args : Array Value} {below : List Frame} {meth : Method} {c : Code} {X : Ec} {h0 : Hp} {o : Int32 × Hp} {F : Nat} (C : Cx X p s m args meth c RX5 cX5_areAlike 4 (some .boolean) "areAlike") {h : Hp} {H : Heap} {locs : List Loc} (hkm : Km h0 h) (hW : Wx X h H) (hZ : va_S (aA (eB X)) s.heap H locs) (ls : Array Slot) (hl : lv_has ls 4 []) (hE : sX5_areAlike_155 F h  = some o) : W p l e (rm 5 162) s m args below meth c H locs 0 0 (MQ below (QI X h0 o.1 o.2) args s 0 0 (aA (eB X))) (F0 m 155 ls []) := by
  refine lv_iconst (v := (0 : Int32)) C.1 C.2.1 dX5_areAlike_155 (by decide) ?_
  exact bX5_areAlike_156 C hkm hW hZ _ (lv_sub hl [] rfl) hE
set_option maxRecDepth 20000 in
theorem bX5_areAlike_89 {p : Program} {l : Launch} {e : Env} {s : State} {m : MethodId} {args : Array Value} {below : List Frame} {meth : Method} {c : Code} {X : Ec} {h0 : Hp} {o : Int32 × Hp} {F : Nat} (C : Cx X p s m args meth c RX5 cX5_areAlike 4 (some .boolean) "areAlike") : ∀ (f : Nat) {h : Hp} {x0 : Nat} {x1 : Nat} {x2 : Nat} {x3 : Int32} {H : Heap} {locs : List Loc} (k_x0 : hK h x0 = 5) (k_x1 : hK h x1 = 3) (k_x2 : hK h x2 = 3), Km h0 h → Wx X h H → va_S (aA (eB X)) s.heap H locs → ∀ (ls : Array Slot), lv_has ls 4 [(0, .ref x0), (1, .ref x1), (2, .ref x2), (3, .int x3)] → sX5_areAlike_89 F f h x0 x1 x2 x3 = some o → W p l e (rm 5 162) s m args below meth c H locs 0 0 (MQ below (QI X h0 o.1 o.2) args s 0 0 (aA (eB X))) (F0 m 89 ls []) := by
  intro f
  induction f with
  | zero =>
    intro h x0 x1 x2 x3 H locs k_x0 k_x1 k_x2 hkm hW hZ ls hl hE
    rw [sX5_areAlike_89] at hE
    cases hE
  | succ f ih =>
    intro h x0 x1 x2 x3 H locs k_x0 k_x1 k_x2 hkm hW hZ ls hl hE
    rw [sX5_areAlike_89] at hE
    have hk_89 : ∀ (h : Hp) (x0 : Nat) (x1 : Nat) (x2 : Nat) (x3 : Int32) (H : Heap) (locs : List Loc), hK h x0 = 5 → hK h x1 = 3 → hK h x2 = 3 → Km h0 h → Wx X h H → va_S (aA (eB X)) s.heap H locs → ∀ (ls : Array Slot), lv_has ls 4 [(0, .ref x0), (1, .ref x1), (2, .ref x2), (3, .int x3)] → sX5_areAlike_89 F f h x0 x1 x2 x3 = some o → W p l e (rm 5 162) s m args below meth c H locs 0 0 (MQ below (QI X h0 o.1 o.2) args s 0 0 (aA (eB X))) (F0 m 89 ls []) := fun h x0 x1 x2 x3 H locs k_x0 k_x1 k_x2 a b c ls hl hE => ih k_x0 k_x1 k_x2 a b c ls hl hE
    refine lv_iload_n C.1 C.2.1 dX5_areAlike_89 rfl (lv_at hl 3 rfl) ?_
    refine lv_aload_n C.1 C.2.1 dX5_areAlike_90 rfl (lv_at hl 0 rfl) ?_
    obtain ⟨r_1, er_1, hE⟩ := cl_e hE
    refine gf_X5_22 C hW k_x0 er_1 dX5_areAlike_91 (fun k_r_1 => ?_)
    refine gf_X5_110 C hW k_r_1 dX5_areAlike_94 ?_
    refine lv_icmp_ge (tgt := 123) C.1 C.2.1 dX5_areAlike_97 (by decide) (fun c_2 => ?_) (fun c_2 => ?_)
    · have hE := br_p hE c_2
      refine lv_aload_n C.1 C.2.1 dX5_areAlike_123 rfl (lv_at hl 1 rfl) ?_
      refine gf_X5_326 C hW k_x1 dX5_areAlike_124 ?_
      refine lv_aload_n C.1 C.2.1 dX5_areAlike_127 rfl (lv_at hl 2 rfl) ?_
      refine gf_X5_326 C hW k_x2 dX5_areAlike_128 ?_
      refine W.lcmp C.1 C.2.1 dX5_areAlike_131 ?_
      refine lv_if_eq (tgt := 151) C.1 C.2.1 dX5_areAlike_132 (by decide) (fun c_3 => ?_) (fun c_3 => ?_)
      · have hE := br_p hE c_3
        exact bX5_areAlike_151 C hkm hW hZ _ (lv_sub hl [] rfl) hE
      · have hE := br_n hE c_3
        refine lv_aload_n C.1 C.2.1 dX5_areAlike_135 rfl (lv_at hl 0 rfl) ?_
        refine lv_aload_n C.1 C.2.1 dX5_areAlike_136 rfl (lv_at hl 1 rfl) ?_
        obtain ⟨o_4, eo_4, hE⟩ := cl_e hE
        refine x_kI (o := o_4) (z_runV (As := [.ref x1]) (rest := []) C (ct_X5_mayCatch l X F k_x0 k_x1 eo_4) cw_X5_342 hW hZ k_x0 (by decide) rfl rfl rfl hl.1 (Nat.le_of_ble_eq_true rfl) rfl dX5_areAlike_137 ⟨Nat.le_of_ble_eq_true rfl, Nat.le_of_ble_eq_true rfl⟩ ⟨Nat.le_refl _, Nat.le_refl _⟩) hZ (fun _ _ hW km hZ => ?_)
        replace hkm := hkm.tr km
        replace k_x0 := km.at k_x0 (by decide)
        replace k_x1 := km.at k_x1 (by decide)
        replace k_x2 := km.at k_x2 (by decide)
        refine lv_if_ne (tgt := 155) C.1 C.2.1 dX5_areAlike_140 (by decide) (fun c_5 => ?_) (fun c_5 => ?_)
        · have hE := br_n hE c_5
          exact bX5_areAlike_155 C hkm hW hZ _ (lv_sub hl [] rfl) hE
        · have hE := br_p hE c_5
          refine lv_aload_n C.1 C.2.1 dX5_areAlike_143 rfl (lv_at hl 0 rfl) ?_
          refine lv_aload_n C.1 C.2.1 dX5_areAlike_144 rfl (lv_at hl 2 rfl) ?_
          obtain ⟨o_6, eo_6, hE⟩ := cl_e hE
          refine x_kI (o := o_6) (z_runV (As := [.ref x2]) (rest := []) C (ct_X5_mayCatch l X F k_x0 k_x2 eo_6) cw_X5_342 hW hZ k_x0 (by decide) rfl rfl rfl hl.1 (Nat.le_of_ble_eq_true rfl) rfl dX5_areAlike_145 ⟨Nat.le_of_ble_eq_true rfl, Nat.le_of_ble_eq_true rfl⟩ ⟨Nat.le_refl _, Nat.le_refl _⟩) hZ (fun _ _ hW km hZ => ?_)
          replace hkm := hkm.tr km
          replace k_x0 := km.at k_x0 (by decide)
          replace k_x1 := km.at k_x1 (by decide)
          replace k_x2 := km.at k_x2 (by decide)
          refine lv_if_ne (tgt := 155) C.1 C.2.1 dX5_areAlike_148 (by decide) (fun c_7 => ?_) (fun c_7 => ?_)
          · have hE := br_n hE c_7
            exact bX5_areAlike_155 C hkm hW hZ _ (lv_sub hl [] rfl) hE
          · have hE := br_p hE c_7
            exact bX5_areAlike_151 C hkm hW hZ _ (lv_sub hl [] rfl) hE
    · have hE := br_n hE c_2
      refine lv_aload_n C.1 C.2.1 dX5_areAlike_100 rfl (lv_at hl 1 rfl) ?_
      obtain ⟨r_8, er_8, hE⟩ := cl_e hE
      refine gf_X5_42 C hW k_x1 er_8 dX5_areAlike_101 (fun k_r_8 => ?_)
      refine lv_iload_n C.1 C.2.1 dX5_areAlike_104 rfl (lv_at hl 3 rfl) ?_
      obtain ⟨g_9, hE⟩ := gd_e hE
      refine y_bald C hW k_r_8 g_9 dX5_areAlike_105 ?_
      refine lv_aload_n C.1 C.2.1 dX5_areAlike_106 rfl (lv_at hl 2 rfl) ?_
      obtain ⟨r_10, er_10, hE⟩ := cl_e hE
      refine gf_X5_42 C hW k_x2 er_10 dX5_areAlike_107 (fun k_r_10 => ?_)
      refine lv_iload_n C.1 C.2.1 dX5_areAlike_110 rfl (lv_at hl 3 rfl) ?_
      obtain ⟨g_11, hE⟩ := gd_e hE
      refine y_bald C hW k_r_10 g_11 dX5_areAlike_111 ?_
      refine lv_icmp_eq (tgt := 117) C.1 C.2.1 dX5_areAlike_112 (by decide) (fun c_12 => ?_) (fun c_12 => ?_)
      · have hE := br_p hE c_12
        obtain ⟨v_13, ev_13, hE⟩ := nm_e2 hE
        refine lv_iinc (v := v_13) (lv' := [(3, .int v_13), (0, .ref x0), (1, .ref x1), (2, .ref x2)]) C.1 C.2.1 dX5_areAlike_117 hl (k := 3) rfl (by rw [ev_13]; rfl) (by decide) rfl (fun ls hl => ?_)
        refine lv_goto (tgt := 89) C.1 C.2.1 dX5_areAlike_120 (by decide) ?_
        exact hk_89 _ _ _ _ _ _ _ k_x0 k_x1 k_x2 hkm hW hZ _ (lv_sub hl [1, 2, 3, 0] rfl) hE
      · have hE := br_n hE c_12
        refine lv_iconst (v := (0 : Int32)) C.1 C.2.1 dX5_areAlike_115 (by decide) ?_
        exact x_iret C rfl (by decide) hW hZ hkm hE dX5_areAlike_116
set_option maxRecDepth 20000 in
theorem bX5_areAlike_79 {p : Program} {l : Launch} {e : Env} {s : State} {m : MethodId} {args : Array Value} {below : List Frame} {meth : Method} {c : Code} {X : Ec} {h0 : Hp} {o : Int32 × Hp} {F : Nat} (C : Cx X p s m args meth c RX5 cX5_areAlike 4 (some .boolean) "areAlike") {h : Hp} {H : Heap} {locs : List Loc} (hkm : Km h0 h) (hW : Wx X h H) (hZ : va_S (aA (eB X)) s.heap H locs) (ls : Array Slot) (hl : lv_has ls 4 []) (hE : sX5_areAlike_79 F h  = some o) : W p l e (rm 5 162) s m args below meth c H locs 0 0 (MQ below (QI X h0 o.1 o.2) args s 0 0 (aA (eB X))) (F0 m 79 ls []) := by
  refine lv_iconst (v := (0 : Int32)) C.1 C.2.1 dX5_areAlike_79 (by decide) ?_
  exact x_iret C rfl (by decide) hW hZ hkm hE dX5_areAlike_80
set_option maxRecDepth 20000 in
theorem bX5_areAlike_27 {p : Program} {l : Launch} {e : Env} {s : State} {m : MethodId} {args : Array Value} {below : List Frame} {meth : Method} {c : Code} {X : Ec} {h0 : Hp} {o : Int32 × Hp} {F : Nat} (C : Cx X p s m args meth c RX5 cX5_areAlike 4 (some .boolean) "areAlike") : ∀ (f : Nat) {h : Hp} {x0 : Nat} {x1 : Nat} {x2 : Nat} {x3 : Int32} {H : Heap} {locs : List Loc} (k_x0 : hK h x0 = 5) (k_x1 : hK h x1 = 3) (k_x2 : hK h x2 = 3), Km h0 h → Wx X h H → va_S (aA (eB X)) s.heap H locs → ∀ (ls : Array Slot), lv_has ls 4 [(0, .ref x0), (1, .ref x1), (2, .ref x2), (3, .int x3)] → sX5_areAlike_27 F f h x0 x1 x2 x3 = some o → W p l e (rm 5 162) s m args below meth c H locs 0 0 (MQ below (QI X h0 o.1 o.2) args s 0 0 (aA (eB X))) (F0 m 27 ls []) := by
  intro f
  induction f with
  | zero =>
    intro h x0 x1 x2 x3 H locs k_x0 k_x1 k_x2 hkm hW hZ ls hl hE
    rw [sX5_areAlike_27] at hE
    cases hE
  | succ f ih =>
    intro h x0 x1 x2 x3 H locs k_x0 k_x1 k_x2 hkm hW hZ ls hl hE
    rw [sX5_areAlike_27] at hE
    have hk_27 : ∀ (h : Hp) (x0 : Nat) (x1 : Nat) (x2 : Nat) (x3 : Int32) (H : Heap) (locs : List Loc), hK h x0 = 5 → hK h x1 = 3 → hK h x2 = 3 → Km h0 h → Wx X h H → va_S (aA (eB X)) s.heap H locs → ∀ (ls : Array Slot), lv_has ls 4 [(0, .ref x0), (1, .ref x1), (2, .ref x2), (3, .int x3)] → sX5_areAlike_27 F f h x0 x1 x2 x3 = some o → W p l e (rm 5 162) s m args below meth c H locs 0 0 (MQ below (QI X h0 o.1 o.2) args s 0 0 (aA (eB X))) (F0 m 27 ls []) := fun h x0 x1 x2 x3 H locs k_x0 k_x1 k_x2 a b c ls hl hE => ih k_x0 k_x1 k_x2 a b c ls hl hE
    refine lv_iload_n C.1 C.2.1 dX5_areAlike_27 rfl (lv_at hl 3 rfl) ?_
    refine lv_iconst (v := (2 : Int32)) C.1 C.2.1 dX5_areAlike_28 (by decide) ?_
    refine lv_icmp_ge (tgt := 87) C.1 C.2.1 dX5_areAlike_29 (by decide) (fun c_1 => ?_) (fun c_1 => ?_)
    · have hE := br_p hE c_1
      refine lv_iconst (v := (0 : Int32)) C.1 C.2.1 dX5_areAlike_87 (by decide) ?_
      refine lv_istore_n (lv' := [(3, .int (0 : Int32)), (0, .ref x0), (1, .ref x1), (2, .ref x2)]) C.1 C.2.1 dX5_areAlike_88 rfl hl (by decide) rfl (fun ls hl => ?_)
      exact bX5_areAlike_89 C F k_x0 k_x1 k_x2 hkm hW hZ _ (lv_sub hl [1, 2, 3, 0] rfl) hE
    · have hE := br_n hE c_1
      refine lv_aload_n C.1 C.2.1 dX5_areAlike_32 rfl (lv_at hl 1 rfl) ?_
      obtain ⟨r_2, er_2, hE⟩ := cl_e hE
      refine gf_X5_33 C hW k_x1 er_2 dX5_areAlike_33 (fun k_r_2 => ?_)
      refine lv_iload_n C.1 C.2.1 dX5_areAlike_36 rfl (lv_at hl 3 rfl) ?_
      obtain ⟨g_3, hE⟩ := gd_e hE
      refine y_lald C hW k_r_2 g_3 dX5_areAlike_37 ?_
      refine lv_aload_n C.1 C.2.1 dX5_areAlike_38 rfl (lv_at hl 2 rfl) ?_
      obtain ⟨r_4, er_4, hE⟩ := cl_e hE
      refine gf_X5_33 C hW k_x2 er_4 dX5_areAlike_39 (fun k_r_4 => ?_)
      refine lv_iload_n C.1 C.2.1 dX5_areAlike_42 rfl (lv_at hl 3 rfl) ?_
      obtain ⟨g_5, hE⟩ := gd_e hE
      refine y_lald C hW k_r_4 g_5 dX5_areAlike_43 ?_
      refine W.lcmp C.1 C.2.1 dX5_areAlike_44 ?_
      refine lv_if_ne (tgt := 79) C.1 C.2.1 dX5_areAlike_45 (by decide) (fun c_6 => ?_) (fun c_6 => ?_)
      · have hE := br_n hE c_6
        exact bX5_areAlike_79 C hkm hW hZ _ (lv_sub hl [] rfl) hE
      · have hE := br_p hE c_6
        refine lv_aload_n C.1 C.2.1 dX5_areAlike_48 rfl (lv_at hl 1 rfl) ?_
        obtain ⟨r_7, er_7, hE⟩ := cl_e hE
        refine gf_X5_303 C hW k_x1 er_7 dX5_areAlike_49 (fun k_r_7 => ?_)
        refine lv_iload_n C.1 C.2.1 dX5_areAlike_52 rfl (lv_at hl 3 rfl) ?_
        obtain ⟨g_8, hE⟩ := gd_e hE
        refine y_lald C hW k_r_7 g_8 dX5_areAlike_53 ?_
        refine lv_aload_n C.1 C.2.1 dX5_areAlike_54 rfl (lv_at hl 2 rfl) ?_
        obtain ⟨r_9, er_9, hE⟩ := cl_e hE
        refine gf_X5_303 C hW k_x2 er_9 dX5_areAlike_55 (fun k_r_9 => ?_)
        refine lv_iload_n C.1 C.2.1 dX5_areAlike_58 rfl (lv_at hl 3 rfl) ?_
        obtain ⟨g_10, hE⟩ := gd_e hE
        refine y_lald C hW k_r_9 g_10 dX5_areAlike_59 ?_
        refine W.lcmp C.1 C.2.1 dX5_areAlike_60 ?_
        refine lv_if_ne (tgt := 79) C.1 C.2.1 dX5_areAlike_61 (by decide) (fun c_11 => ?_) (fun c_11 => ?_)
        · have hE := br_n hE c_11
          exact bX5_areAlike_79 C hkm hW hZ _ (lv_sub hl [] rfl) hE
        · have hE := br_p hE c_11
          refine lv_aload_n C.1 C.2.1 dX5_areAlike_64 rfl (lv_at hl 1 rfl) ?_
          obtain ⟨r_12, er_12, hE⟩ := cl_e hE
          refine gf_X5_283 C hW k_x1 er_12 dX5_areAlike_65 (fun k_r_12 => ?_)
          refine lv_iload_n C.1 C.2.1 dX5_areAlike_68 rfl (lv_at hl 3 rfl) ?_
          obtain ⟨g_13, hE⟩ := gd_e hE
          refine y_iald C hW k_r_12 g_13 dX5_areAlike_69 ?_
          refine lv_aload_n C.1 C.2.1 dX5_areAlike_70 rfl (lv_at hl 2 rfl) ?_
          obtain ⟨r_14, er_14, hE⟩ := cl_e hE
          refine gf_X5_283 C hW k_x2 er_14 dX5_areAlike_71 (fun k_r_14 => ?_)
          refine lv_iload_n C.1 C.2.1 dX5_areAlike_74 rfl (lv_at hl 3 rfl) ?_
          obtain ⟨g_15, hE⟩ := gd_e hE
          refine y_iald C hW k_r_14 g_15 dX5_areAlike_75 ?_
          refine lv_icmp_eq (tgt := 81) C.1 C.2.1 dX5_areAlike_76 (by decide) (fun c_16 => ?_) (fun c_16 => ?_)
          · have hE := br_p hE c_16
            obtain ⟨v_17, ev_17, hE⟩ := nm_e2 hE
            refine lv_iinc (v := v_17) (lv' := [(3, .int v_17), (0, .ref x0), (1, .ref x1), (2, .ref x2)]) C.1 C.2.1 dX5_areAlike_81 hl (k := 3) rfl (by rw [ev_17]; rfl) (by decide) rfl (fun ls hl => ?_)
            refine lv_goto (tgt := 27) C.1 C.2.1 dX5_areAlike_84 (by decide) ?_
            exact hk_27 _ _ _ _ _ _ _ k_x0 k_x1 k_x2 hkm hW hZ _ (lv_sub hl [1, 2, 3, 0] rfl) hE
          · have hE := br_n hE c_16
            exact bX5_areAlike_79 C hkm hW hZ _ (lv_sub hl [] rfl) hE
set_option maxRecDepth 20000 in
theorem ct_X5_areAlike (l : Launch) (X : Ec) (F : Nat) {h : Hp} {x0 : Nat} {x1 : Nat} {x2 : Nat} {o : Int32 × Hp} (k_x0 : hK h x0 = 5) (k_x1 : hK h x1 = 3) (k_x2 : hK h x2 = 3) (hE : sX5_areAlike F h x0 x1 x2 = some o) : MetI l yX5_areAlike cX5_areAlike 4 (some .boolean) 5 162 X [.ref x0, .ref x1, .ref x2] h o := by
  refine x_met (by decide) (Nat.le_of_ble_eq_true rfl) ?_
  intro p e s m below meth c ls C hl hW hZ
  have hl : lv_has ls 4 [(0, .ref x0), (1, .ref x1), (2, .ref x2)] := hl
  have hkm : Km h h := Km.rf h
  refine lv_aload_n C.1 C.2.1 dX5_areAlike_0 rfl (lv_at hl 1 rfl) ?_
  refine gf_X5_78 C hW k_x1 dX5_areAlike_1 ?_
  refine lv_aload_n C.1 C.2.1 dX5_areAlike_4 rfl (lv_at hl 2 rfl) ?_
  refine gf_X5_78 C hW k_x2 dX5_areAlike_5 ?_
  refine lv_icmp_ne (tgt := 23) C.1 C.2.1 dX5_areAlike_8 (by decide) (fun c_1 => ?_) (fun c_1 => ?_)
  · have hE := br_n hE c_1
    exact bX5_areAlike_23 C hkm hW hZ _ (lv_sub hl [] rfl) hE
  · have hE := br_p hE c_1
    refine lv_aload_n C.1 C.2.1 dX5_areAlike_11 rfl (lv_at hl 1 rfl) ?_
    refine gf_X5_93 C hW k_x1 dX5_areAlike_12 ?_
    refine lv_aload_n C.1 C.2.1 dX5_areAlike_15 rfl (lv_at hl 2 rfl) ?_
    refine gf_X5_93 C hW k_x2 dX5_areAlike_16 ?_
    refine W.lcmp C.1 C.2.1 dX5_areAlike_19 ?_
    refine lv_if_eq (tgt := 25) C.1 C.2.1 dX5_areAlike_20 (by decide) (fun c_2 => ?_) (fun c_2 => ?_)
    · have hE := br_p hE c_2
      refine lv_iconst (v := (0 : Int32)) C.1 C.2.1 dX5_areAlike_25 (by decide) ?_
      refine lv_istore_n (lv' := [(3, .int (0 : Int32)), (0, .ref x0), (1, .ref x1), (2, .ref x2)]) C.1 C.2.1 dX5_areAlike_26 rfl hl (by decide) rfl (fun ls hl => ?_)
      exact bX5_areAlike_27 C F k_x0 k_x1 k_x2 hkm hW hZ _ (lv_sub hl [1, 2, 3, 0] rfl) hE
    · have hE := br_n hE c_2
      exact bX5_areAlike_23 C hkm hW hZ _ (lv_sub hl [] rfl) hE
theorem dX5_passedBy_0 : decode cX5_passedBy 0 = .ok (.iload_n 0, 1) := by decide +kernel
theorem dX5_passedBy_1 : decode cX5_passedBy 1 = .ok (.bipush 26, 2) := by decide +kernel
theorem dX5_passedBy_3 : decode cX5_passedBy 3 = .ok (.ishr, 1) := by decide +kernel
theorem dX5_passedBy_4 : decode cX5_passedBy 4 = .ok (.bipush 7, 2) := by decide +kernel
theorem dX5_passedBy_6 : decode cX5_passedBy 6 = .ok (.iand, 1) := by decide +kernel
theorem dX5_passedBy_7 : decode cX5_passedBy 7 = .ok (.ireturn, 1) := by decide +kernel
def sX5_passedBy (h : Hp) (x0 : Int32) : Option (Int32 × Hp) := some ((x0 >>> ((26 : Int32) &&& 31)) &&& (7 : Int32), h)
set_option maxRecDepth 20000 in
theorem moX5_passedBy {o : Int32 × Hp} {h : Hp} {x0 : Int32} (hE : sX5_passedBy h x0 = some o) : Le h o.2 := by
  first | exact le_some2 hE | exact le_some1 hE
set_option maxRecDepth 20000 in
theorem ct_X5_passedBy (l : Launch) (X : Ec) {h : Hp} {x0 : Int32} {o : Int32 × Hp} (hE : sX5_passedBy h x0 = some o) : MetI l yX5_passedBy cX5_passedBy 1 (some .int) 0 0 X [.int x0] h o := by
  refine x_met (by decide) (Nat.le_of_ble_eq_true rfl) ?_
  intro p e s m below meth c ls C hl hW hZ
  have hl : lv_has ls 1 [(0, .int x0)] := hl
  have hkm : Km h h := Km.rf h
  refine lv_iload_n C.1 C.2.1 dX5_passedBy_0 rfl (lv_at hl 0 rfl) ?_
  refine lv_bipush (v := (26 : Int32)) C.1 C.2.1 dX5_passedBy_1 (by decide) ?_
  refine lv_ishr C.1 C.2.1 dX5_passedBy_3 ?_
  refine lv_bipush (v := (7 : Int32)) C.1 C.2.1 dX5_passedBy_4 (by decide) ?_
  refine lv_iand C.1 C.2.1 dX5_passedBy_6 ?_
  exact x_iret C rfl rfl hW hZ hkm hE dX5_passedBy_7
theorem m_1352 : Cond.methodLink RX5 285 yX3_clearPass ∈ W0 := w0_in (List.mem_append_right _ (List.mem_of_getElem? (i := 1352) (by decide +kernel))) rfl
theorem m_1353 : Cond.instanceMethod yX3_clearPass ∈ W0 := w0_in (List.mem_append_right _ (List.mem_of_getElem? (i := 1353) (by decide +kernel))) rfl
theorem m_1354 : Cond.selects RX3 yX3_clearPass yX3_clearPass ∈ W0 := w0_in (List.mem_append_right _ (List.mem_of_getElem? (i := 1354) (by decide +kernel))) rfl
theorem m_1355 : Cond.code yX3_clearPass cX3_clearPass 1 none ∈ W0 := w0_in (List.mem_append_right _ (List.mem_of_getElem? (i := 1355) (by decide +kernel))) rfl
theorem m_1356 : Cond.methodLink RX5 288 yX5_passedBy ∈ W0 := w0_in (List.mem_append_right _ (List.mem_of_getElem? (i := 1356) (by decide +kernel))) rfl
theorem m_1357 : Cond.static yX5_passedBy ∈ W0 := w0_in (List.mem_append_right _ (List.mem_of_getElem? (i := 1357) (by decide +kernel))) rfl
theorem m_1358 : Cond.code yX5_passedBy cX5_passedBy 1 (some .int) ∈ W0 := w0_in (List.mem_append_right _ (List.mem_of_getElem? (i := 1358) (by decide +kernel))) rfl
theorem m_1359 : Cond.methodLink RX5 291 yX3_addPass ∈ W0 := w0_in (List.mem_append_right _ (List.mem_of_getElem? (i := 1359) (by decide +kernel))) rfl
theorem cw_X5_291 : cwd RX5 291 yX3_addPass cX3_addPass 3 none false 1 := ⟨m_1008, m_1359, m_8, ⟨m_1006, m_1007⟩, by decide, by decide, by decide +kernel⟩
theorem cw_X5_285 : cwd RX5 285 yX3_clearPass cX3_clearPass 1 none false 0 := ⟨m_1355, m_1352, m_8, ⟨m_1353, m_1354⟩, by decide, by decide, by decide +kernel⟩
theorem cw_X5_288 : cwd RX5 288 yX5_passedBy cX5_passedBy 1 (some .int) true 1 := ⟨m_1358, m_1356, m_7, m_1357, by decide, by decide, by decide +kernel⟩
theorem dX5_notePass_0 : decode cX5_notePass 0 = .ok (.aload_n 1, 1) := by decide +kernel
theorem dX5_notePass_1 : decode cX5_notePass 1 = .ok (.invokevirtual 285, 3) := by decide +kernel
theorem dX5_notePass_4 : decode cX5_notePass 4 = .ok (.iload_n 2, 1) := by decide +kernel
theorem dX5_notePass_5 : decode cX5_notePass 5 = .ok (.invokestatic 288, 3) := by decide +kernel
theorem dX5_notePass_8 : decode cX5_notePass 8 = .ok (.istore_n 3, 1) := by decide +kernel
theorem dX5_notePass_9 : decode cX5_notePass 9 = .ok (.iload_n 2, 1) := by decide +kernel
theorem dX5_notePass_10 : decode cX5_notePass 10 = .ok (.invokestatic 184, 3) := by decide +kernel
theorem dX5_notePass_13 : decode cX5_notePass 13 = .ok (.istore 4, 2) := by decide +kernel
theorem dX5_notePass_15 : decode cX5_notePass 15 = .ok (.iload_n 3, 1) := by decide +kernel
theorem dX5_notePass_16 : decode cX5_notePass 16 = .ok (.iconst 2, 1) := by decide +kernel
theorem dX5_notePass_17 : decode cX5_notePass 17 = .ok (.if_icmp .lt 14, 3) := by decide +kernel
theorem dX5_notePass_20 : decode cX5_notePass 20 = .ok (.aload_n 1, 1) := by decide +kernel
theorem dX5_notePass_21 : decode cX5_notePass 21 = .ok (.getfield 42, 3) := by decide +kernel
theorem dX5_notePass_24 : decode cX5_notePass 24 = .ok (.iload 4, 2) := by decide +kernel
theorem dX5_notePass_26 : decode cX5_notePass 26 = .ok (.baload, 1) := by decide +kernel
theorem dX5_notePass_27 : decode cX5_notePass 27 = .ok (.iconst (-1), 1) := by decide +kernel
theorem dX5_notePass_28 : decode cX5_notePass 28 = .ok (.if_icmp .ne 4, 3) := by decide +kernel
theorem dX5_notePass_31 : decode cX5_notePass 31 = .ok (.return_, 1) := by decide +kernel
theorem dX5_notePass_32 : decode cX5_notePass 32 = .ok (.iload_n 2, 1) := by decide +kernel
theorem dX5_notePass_33 : decode cX5_notePass 33 = .ok (.invokestatic 236, 3) := by decide +kernel
theorem dX5_notePass_36 : decode cX5_notePass 36 = .ok (.istore 5, 2) := by decide +kernel
theorem dX5_notePass_38 : decode cX5_notePass 38 = .ok (.iload 4, 2) := by decide +kernel
theorem dX5_notePass_40 : decode cX5_notePass 40 = .ok (.iload 5, 2) := by decide +kernel
theorem dX5_notePass_42 : decode cX5_notePass 42 = .ok (.isub, 1) := by decide +kernel
theorem dX5_notePass_43 : decode cX5_notePass 43 = .ok (.iload_n 3, 1) := by decide +kernel
theorem dX5_notePass_44 : decode cX5_notePass 44 = .ok (.idiv, 1) := by decide +kernel
theorem dX5_notePass_45 : decode cX5_notePass 45 = .ok (.istore 6, 2) := by decide +kernel
theorem dX5_notePass_47 : decode cX5_notePass 47 = .ok (.aload_n 1, 1) := by decide +kernel
theorem dX5_notePass_48 : decode cX5_notePass 48 = .ok (.iload 4, 2) := by decide +kernel
theorem dX5_notePass_50 : decode cX5_notePass 50 = .ok (.invokevirtual 291, 3) := by decide +kernel
theorem dX5_notePass_53 : decode cX5_notePass 53 = .ok (.iconst 1, 1) := by decide +kernel
theorem dX5_notePass_54 : decode cX5_notePass 54 = .ok (.istore 7, 2) := by decide +kernel
theorem dX5_notePass_56 : decode cX5_notePass 56 = .ok (.iload 7, 2) := by decide +kernel
theorem dX5_notePass_58 : decode cX5_notePass 58 = .ok (.iload_n 3, 1) := by decide +kernel
theorem dX5_notePass_59 : decode cX5_notePass 59 = .ok (.if_icmp .ge 21, 3) := by decide +kernel
theorem dX5_notePass_62 : decode cX5_notePass 62 = .ok (.aload_n 1, 1) := by decide +kernel
theorem dX5_notePass_63 : decode cX5_notePass 63 = .ok (.iload 5, 2) := by decide +kernel
theorem dX5_notePass_65 : decode cX5_notePass 65 = .ok (.iload 7, 2) := by decide +kernel
theorem dX5_notePass_67 : decode cX5_notePass 67 = .ok (.iload 6, 2) := by decide +kernel
theorem dX5_notePass_69 : decode cX5_notePass 69 = .ok (.imul, 1) := by decide +kernel
theorem dX5_notePass_70 : decode cX5_notePass 70 = .ok (.iadd, 1) := by decide +kernel
theorem dX5_notePass_71 : decode cX5_notePass 71 = .ok (.invokevirtual 291, 3) := by decide +kernel
theorem dX5_notePass_74 : decode cX5_notePass 74 = .ok (.iinc 7 1, 3) := by decide +kernel
theorem dX5_notePass_77 : decode cX5_notePass 77 = .ok (.goto (-21), 3) := by decide +kernel
theorem dX5_notePass_80 : decode cX5_notePass 80 = .ok (.return_, 1) := by decide +kernel
def sX5_notePass_31 (F : Nat) (h : Hp) : Option (Hp) := some h
def sX5_notePass_56 (F : Nat) : Nat → Hp → Nat → Int32 → Int32 → Int32 → Int32 → Option (Hp)
  | 0, _, _, _, _, _, _ => none
  | f + 1, h, x1, x3, x5, x6, x7 => br (x3 ≤ x7) (some h) (cl (sX3_addPass h x1 (x5 + (x7 * x6))) fun o_2 => nm (x7 + (1 : Int32)) fun v_3 => sX5_notePass_56 F f o_2 x1 x3 x5 x6 v_3)
def sX5_notePass (F : Nat) (h : Hp) (x0 : Nat) (x1 : Nat) (x2 : Int32) : Option (Hp) := cl (sX3_clearPass h x1) fun o_1 => cl (sX5_passedBy o_1 x2) fun o_2 => cl (sX5_comeTo o_2.2 x2) fun o_3 => br (o_2.1 < (2 : Int32)) (sX5_notePass_31 F o_3.2 ) (cl (hR o_3.2 x1 0) fun r_5 => gd (inB o_3.1 (hN o_3.2 r_5)) <| br ((hI o_3.2 r_5 o_3.1.toNatClampNeg) = (-1 : Int32)) (sX5_notePass_31 F o_3.2 ) (cl (sX5_leftBy o_3.2 x2) fun o_8 => gd (¬ o_2.1 = 0) <| nm ((o_3.1 - o_8.1) / o_2.1) fun v_10 => cl (sX3_addPass o_8.2 x1 o_3.1) fun o_11 => sX5_notePass_56 F F o_11 x1 o_2.1 o_8.1 v_10 (1 : Int32)))
set_option maxRecDepth 20000 in
theorem moX5_notePass_31 {o : Hp} {F : Nat} {h : Hp} (hE : sX5_notePass_31 F h  = some o) : Le h o := by
  first | exact le_some2 hE | exact le_some1 hE
set_option maxRecDepth 20000 in
theorem moX5_notePass_56 {o : Hp} {F : Nat} : ∀ (f : Nat) {h : Hp} {x1 : Nat} {x3 : Int32} {x5 : Int32} {x6 : Int32} {x7 : Int32}, sX5_notePass_56 F f h x1 x3 x5 x6 x7 = some o → Le h o := by
  intro f
  induction f with
  | zero =>
    intro h x1 x3 x5 x6 x7 hE
    rw [sX5_notePass_56] at hE
    cases hE
  | succ f ih =>
    intro h x1 x3 x5 x6 x7 hE
    rw [sX5_notePass_56] at hE
    have mk_56 : ∀ (h : Hp) (x1 : Nat) (x3 : Int32) (x5 : Int32) (x6 : Int32) (x7 : Int32), sX5_notePass_56 F f h x1 x3 x5 x6 x7 = some o → Le h o := fun h x1 x3 x5 x6 x7 hE => ih hE
    rcases br_e hE with ⟨_, hE⟩ | ⟨_, hE⟩
    · first | exact le_some2 hE | exact le_some1 hE
    · obtain ⟨o_2, eo_2, hE⟩ := cl_e hE
      refine (moX3_addPass eo_2).tr ?_
      obtain ⟨v_3, ev_3, hE⟩ := nm_e2 hE
      exact mk_56 _ _ _ _ _ _ hE
set_option maxRecDepth 20000 in
theorem moX5_notePass {o : Hp} {F : Nat} {h : Hp} {x0 : Nat} {x1 : Nat} {x2 : Int32} (hE : sX5_notePass F h x0 x1 x2 = some o) : Le h o := by
  obtain ⟨o_1, eo_1, hE⟩ := cl_e hE
  refine (moX3_clearPass eo_1).tr ?_
  obtain ⟨o_2, eo_2, hE⟩ := cl_e hE
  refine (moX5_passedBy eo_2).tr ?_
  obtain ⟨o_3, eo_3, hE⟩ := cl_e hE
  refine (moX5_comeTo eo_3).tr ?_
  rcases br_e hE with ⟨_, hE⟩ | ⟨_, hE⟩
  · exact moX5_notePass_31 hE
  · obtain ⟨r_5, er_5, hE⟩ := cl_e hE
    obtain ⟨g_6, hE⟩ := gd_e hE
    rcases br_e hE with ⟨_, hE⟩ | ⟨_, hE⟩
    · exact moX5_notePass_31 hE
    · obtain ⟨o_8, eo_8, hE⟩ := cl_e hE
      refine (moX5_leftBy eo_8).tr ?_
      obtain ⟨g_9, hE⟩ := gd_e hE
      obtain ⟨v_10, ev_10, hE⟩ := nm_e2 hE
      obtain ⟨o_11, eo_11, hE⟩ := cl_e hE
      refine (moX3_addPass eo_11).tr ?_
      exact moX5_notePass_56 _ hE
set_option maxRecDepth 20000 in
theorem bX5_notePass_31 {p : Program} {l : Launch} {e : Env} {s : State} {m : MethodId} {args : Array Value} {below : List Frame} {meth : Method} {c : Code} {X : Ec} {h0 : Hp} {o : Hp} {F : Nat} (C : Cx X p s m args meth c RX5 cX5_notePass 8 none "notePass") {h : Hp} {H : Heap} {locs : List Loc} (hkm : Km h0 h) (hW : Wx X h H) (hZ : va_S (aA (eB X)) s.heap H locs) (ls : Array Slot) (hl : lv_has ls 8 []) (hE : sX5_notePass_31 F h  = some o) : W p l e (rm 2 42) s m args below meth c H locs 0 0 (MQ below (QV X h0 o) args s 0 0 (aA (eB X))) (F0 m 31 ls []) := by
  exact x_vret C rfl hW hZ hkm hE dX5_notePass_31
set_option maxRecDepth 20000 in
theorem bX5_notePass_56 {p : Program} {l : Launch} {e : Env} {s : State} {m : MethodId} {args : Array Value} {below : List Frame} {meth : Method} {c : Code} {X : Ec} {h0 : Hp} {o : Hp} {F : Nat} (C : Cx X p s m args meth c RX5 cX5_notePass 8 none "notePass") : ∀ (f : Nat) {h : Hp} {x1 : Nat} {x3 : Int32} {x5 : Int32} {x6 : Int32} {x7 : Int32} {H : Heap} {locs : List Loc} (k_x1 : hK h x1 = 3), Km h0 h → Wx X h H → va_S (aA (eB X)) s.heap H locs → ∀ (ls : Array Slot), lv_has ls 8 [(1, .ref x1), (3, .int x3), (5, .int x5), (6, .int x6), (7, .int x7)] → sX5_notePass_56 F f h x1 x3 x5 x6 x7 = some o → W p l e (rm 2 42) s m args below meth c H locs 0 0 (MQ below (QV X h0 o) args s 0 0 (aA (eB X))) (F0 m 56 ls []) := by
  intro f
  induction f with
  | zero =>
    intro h x1 x3 x5 x6 x7 H locs k_x1 hkm hW hZ ls hl hE
    rw [sX5_notePass_56] at hE
    cases hE
  | succ f ih =>
    intro h x1 x3 x5 x6 x7 H locs k_x1 hkm hW hZ ls hl hE
    rw [sX5_notePass_56] at hE
    have hk_56 : ∀ (h : Hp) (x1 : Nat) (x3 : Int32) (x5 : Int32) (x6 : Int32) (x7 : Int32) (H : Heap) (locs : List Loc), hK h x1 = 3 → Km h0 h → Wx X h H → va_S (aA (eB X)) s.heap H locs → ∀ (ls : Array Slot), lv_has ls 8 [(1, .ref x1), (3, .int x3), (5, .int x5), (6, .int x6), (7, .int x7)] → sX5_notePass_56 F f h x1 x3 x5 x6 x7 = some o → W p l e (rm 2 42) s m args below meth c H locs 0 0 (MQ below (QV X h0 o) args s 0 0 (aA (eB X))) (F0 m 56 ls []) := fun h x1 x3 x5 x6 x7 H locs k_x1 a b c ls hl hE => ih k_x1 a b c ls hl hE
    refine lv_iload C.1 C.2.1 dX5_notePass_56 (lv_at hl 4 rfl) ?_
    refine lv_iload_n C.1 C.2.1 dX5_notePass_58 rfl (lv_at hl 1 rfl) ?_
    refine lv_icmp_ge (tgt := 80) C.1 C.2.1 dX5_notePass_59 (by decide) (fun c_1 => ?_) (fun c_1 => ?_)
    · have hE := br_p hE c_1
      exact x_vret C rfl hW hZ hkm hE dX5_notePass_80
    · have hE := br_n hE c_1
      refine lv_aload_n C.1 C.2.1 dX5_notePass_62 rfl (lv_at hl 0 rfl) ?_
      refine lv_iload C.1 C.2.1 dX5_notePass_63 (lv_at hl 2 rfl) ?_
      refine lv_iload C.1 C.2.1 dX5_notePass_65 (lv_at hl 4 rfl) ?_
      refine lv_iload C.1 C.2.1 dX5_notePass_67 (lv_at hl 3 rfl) ?_
      refine lv_imul C.1 C.2.1 dX5_notePass_69 ?_
      refine lv_iadd C.1 C.2.1 dX5_notePass_70 ?_
      obtain ⟨o_2, eo_2, hE⟩ := cl_e hE
      refine x_kV (o := o_2) (z_runV (As := [.int (x5 + (x7 * x6))]) (rest := []) C (ct_X3_addPass l X k_x1 eo_2) cw_X5_291 hW hZ k_x1 (by decide) rfl rfl rfl hl.1 (Nat.le_of_ble_eq_true rfl) rfl dX5_notePass_71 ⟨Nat.le_of_ble_eq_true rfl, Nat.le_of_ble_eq_true rfl⟩ ⟨Nat.le_refl _, Nat.le_refl _⟩) hZ (fun _ _ hW km hZ => ?_)
      replace hkm := hkm.tr km
      replace k_x1 := km.at k_x1 (by decide)
      obtain ⟨v_3, ev_3, hE⟩ := nm_e2 hE
      refine lv_iinc (v := v_3) (lv' := [(7, .int v_3), (1, .ref x1), (3, .int x3), (5, .int x5), (6, .int x6)]) C.1 C.2.1 dX5_notePass_74 hl (k := 4) rfl (by rw [ev_3]; rfl) (by decide) rfl (fun ls hl => ?_)
      refine lv_goto (tgt := 56) C.1 C.2.1 dX5_notePass_77 (by decide) ?_
      exact hk_56 _ _ _ _ _ _ _ _ k_x1 hkm hW hZ _ (lv_sub hl [1, 2, 3, 4, 0] rfl) hE
set_option maxRecDepth 20000 in
theorem ct_X5_notePass (l : Launch) (X : Ec) (F : Nat) {h : Hp} {x0 : Nat} {x1 : Nat} {x2 : Int32} {o : Hp} (k_x0 : hK h x0 = 5) (k_x1 : hK h x1 = 3) (hE : sX5_notePass F h x0 x1 x2 = some o) : MetV l yX5_notePass cX5_notePass 8 none 2 42 X [.ref x0, .ref x1, .int x2] h o := by
  refine x_met (by decide) (Nat.le_of_ble_eq_true rfl) ?_
  intro p e s m below meth c ls C hl hW hZ
  have hl : lv_has ls 8 [(0, .ref x0), (1, .ref x1), (2, .int x2)] := hl
  have hkm : Km h h := Km.rf h
  refine lv_aload_n C.1 C.2.1 dX5_notePass_0 rfl (lv_at hl 1 rfl) ?_
  obtain ⟨o_1, eo_1, hE⟩ := cl_e hE
  refine x_kV (o := o_1) (z_runV (As := []) (rest := []) C (ct_X3_clearPass l X k_x1 eo_1) cw_X5_285 hW hZ k_x1 (by decide) rfl rfl rfl hl.1 (Nat.le_of_ble_eq_true rfl) rfl dX5_notePass_1 ⟨Nat.le_of_ble_eq_true rfl, Nat.le_of_ble_eq_true rfl⟩ ⟨Nat.le_refl _, Nat.le_refl _⟩) hZ (fun _ _ hW km hZ => ?_)
  replace hkm := hkm.tr km
  replace k_x0 := km.at k_x0 (by decide)
  replace k_x1 := km.at k_x1 (by decide)
  refine lv_iload_n C.1 C.2.1 dX5_notePass_4 rfl (lv_at hl 2 rfl) ?_
  obtain ⟨o_2, eo_2, hE⟩ := cl_e hE
  refine x_kI (o := o_2) (z_runS (As := [.int x2]) (rest := []) C (ct_X5_passedBy l X eo_2) cw_X5_288 hW hZ rfl hl.1 (Nat.le_of_ble_eq_true rfl) rfl dX5_notePass_5 ⟨Nat.le_of_ble_eq_true rfl, Nat.le_of_ble_eq_true rfl⟩ ⟨Nat.le_refl _, Nat.le_refl _⟩) hZ (fun _ _ hW km hZ => ?_)
  replace hkm := hkm.tr km
  replace k_x0 := km.at k_x0 (by decide)
  replace k_x1 := km.at k_x1 (by decide)
  refine lv_istore_n (lv' := [(3, .int o_2.1), (0, .ref x0), (1, .ref x1), (2, .int x2)]) C.1 C.2.1 dX5_notePass_8 rfl hl (by decide) rfl (fun ls hl => ?_)
  refine lv_iload_n C.1 C.2.1 dX5_notePass_9 rfl (lv_at hl 3 rfl) ?_
  obtain ⟨o_3, eo_3, hE⟩ := cl_e hE
  refine x_kI (o := o_3) (z_runS (As := [.int x2]) (rest := []) C (ct_X5_comeTo l X eo_3) cw_X5_184 hW hZ rfl hl.1 (Nat.le_of_ble_eq_true rfl) rfl dX5_notePass_10 ⟨Nat.le_of_ble_eq_true rfl, Nat.le_of_ble_eq_true rfl⟩ ⟨Nat.le_refl _, Nat.le_refl _⟩) hZ (fun _ _ hW km hZ => ?_)
  replace hkm := hkm.tr km
  replace k_x0 := km.at k_x0 (by decide)
  replace k_x1 := km.at k_x1 (by decide)
  refine lv_istore (lv' := [(4, .int o_3.1), (3, .int o_2.1), (0, .ref x0), (1, .ref x1), (2, .int x2)]) C.1 C.2.1 dX5_notePass_13 hl (by decide) rfl (fun ls hl => ?_)
  refine lv_iload_n C.1 C.2.1 dX5_notePass_15 rfl (lv_at hl 1 rfl) ?_
  refine lv_iconst (v := (2 : Int32)) C.1 C.2.1 dX5_notePass_16 (by decide) ?_
  refine lv_icmp_lt (tgt := 31) C.1 C.2.1 dX5_notePass_17 (by decide) (fun c_4 => ?_) (fun c_4 => ?_)
  · have hE := br_p hE c_4
    exact bX5_notePass_31 C hkm hW hZ _ (lv_sub hl [] rfl) hE
  · have hE := br_n hE c_4
    refine lv_aload_n C.1 C.2.1 dX5_notePass_20 rfl (lv_at hl 3 rfl) ?_
    obtain ⟨r_5, er_5, hE⟩ := cl_e hE
    refine gf_X5_42 C hW k_x1 er_5 dX5_notePass_21 (fun k_r_5 => ?_)
    refine lv_iload C.1 C.2.1 dX5_notePass_24 (lv_at hl 0 rfl) ?_
    obtain ⟨g_6, hE⟩ := gd_e hE
    refine y_bald C hW k_r_5 g_6 dX5_notePass_26 ?_
    refine lv_iconst (v := (-1 : Int32)) C.1 C.2.1 dX5_notePass_27 (by decide) ?_
    refine lv_icmp_ne (tgt := 32) C.1 C.2.1 dX5_notePass_28 (by decide) (fun c_7 => ?_) (fun c_7 => ?_)
    · have hE := br_n hE c_7
      refine lv_iload_n C.1 C.2.1 dX5_notePass_32 rfl (lv_at hl 4 rfl) ?_
      obtain ⟨o_8, eo_8, hE⟩ := cl_e hE
      refine x_kI (o := o_8) (z_runS (As := [.int x2]) (rest := []) C (ct_X5_leftBy l X eo_8) cw_X5_236 hW hZ rfl hl.1 (Nat.le_of_ble_eq_true rfl) rfl dX5_notePass_33 ⟨Nat.le_of_ble_eq_true rfl, Nat.le_of_ble_eq_true rfl⟩ ⟨Nat.le_refl _, Nat.le_refl _⟩) hZ (fun _ _ hW km hZ => ?_)
      replace hkm := hkm.tr km
      replace k_x0 := km.at k_x0 (by decide)
      replace k_x1 := km.at k_x1 (by decide)
      refine lv_istore (lv' := [(5, .int o_8.1), (4, .int o_3.1), (3, .int o_2.1), (0, .ref x0), (1, .ref x1), (2, .int x2)]) C.1 C.2.1 dX5_notePass_36 hl (by decide) rfl (fun ls hl => ?_)
      refine lv_iload C.1 C.2.1 dX5_notePass_38 (lv_at hl 1 rfl) ?_
      refine lv_iload C.1 C.2.1 dX5_notePass_40 (lv_at hl 0 rfl) ?_
      refine lv_isub C.1 C.2.1 dX5_notePass_42 ?_
      refine lv_iload_n C.1 C.2.1 dX5_notePass_43 rfl (lv_at hl 2 rfl) ?_
      obtain ⟨g_9, hE⟩ := gd_e hE
      refine lv_idiv C.1 C.2.1 dX5_notePass_44 g_9 ?_
      obtain ⟨v_10, ev_10, hE⟩ := nm_e2 hE
      refine x_nmI ev_10 ?_
      refine lv_istore (lv' := [(6, .int v_10), (5, .int o_8.1), (4, .int o_3.1), (3, .int o_2.1), (0, .ref x0), (1, .ref x1), (2, .int x2)]) C.1 C.2.1 dX5_notePass_45 hl (by decide) rfl (fun ls hl => ?_)
      refine lv_aload_n C.1 C.2.1 dX5_notePass_47 rfl (lv_at hl 5 rfl) ?_
      refine lv_iload C.1 C.2.1 dX5_notePass_48 (lv_at hl 2 rfl) ?_
      obtain ⟨o_11, eo_11, hE⟩ := cl_e hE
      refine x_kV (o := o_11) (z_runV (As := [.int o_3.1]) (rest := []) C (ct_X3_addPass l X k_x1 eo_11) cw_X5_291 hW hZ k_x1 (by decide) rfl rfl rfl hl.1 (Nat.le_of_ble_eq_true rfl) rfl dX5_notePass_50 ⟨Nat.le_of_ble_eq_true rfl, Nat.le_of_ble_eq_true rfl⟩ ⟨Nat.le_refl _, Nat.le_refl _⟩) hZ (fun _ _ hW km hZ => ?_)
      replace hkm := hkm.tr km
      replace k_x0 := km.at k_x0 (by decide)
      replace k_x1 := km.at k_x1 (by decide)
      refine lv_iconst (v := (1 : Int32)) C.1 C.2.1 dX5_notePass_53 (by decide) ?_
      refine lv_istore (lv' := [(7, .int (1 : Int32)), (6, .int v_10), (5, .int o_8.1), (4, .int o_3.1), (3, .int o_2.1), (0, .ref x0), (1, .ref x1), (2, .int x2)]) C.1 C.2.1 dX5_notePass_54 hl (by decide) rfl (fun ls hl => ?_)
      exact bX5_notePass_56 C F k_x1 hkm hW hZ _ (lv_sub hl [6, 4, 2, 1, 0] rfl) hE
    · have hE := br_p hE c_7
      exact bX5_notePass_31 C hkm hW hZ _ (lv_sub hl [] rfl) hE

