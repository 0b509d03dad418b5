theorem m_1826 : Cond.methodLink RX14 3 objectInit ∈ W0 := w0_in (List.mem_append_right _ (List.mem_of_getElem? (i := 1826) (by decide +kernel))) rfl
theorem m_1831 : Cond.fieldLink RX14 9 (TX14 3).1 (TX14 3).2.1 (TX14 3).2.2.1 ∈ W0 := w0_in (List.mem_append_right _ (List.mem_of_getElem? (i := 1831) (by decide +kernel))) rfl
theorem m_1833 : Cond.fieldLink RX14 15 (TX14 4).1 (TX14 4).2.1 (TX14 4).2.2.1 ∈ W0 := w0_in (List.mem_append_right _ (List.mem_of_getElem? (i := 1833) (by decide +kernel))) rfl
theorem m_1835 : Cond.fieldLink RX14 18 (TX14 5).1 (TX14 5).2.1 (TX14 5).2.2.1 ∈ W0 := w0_in (List.mem_append_right _ (List.mem_of_getElem? (i := 1835) (by decide +kernel))) rfl
theorem m_1837 : Cond.fieldLink RX14 21 (TX14 6).1 (TX14 6).2.1 (TX14 6).2.2.1 ∈ W0 := w0_in (List.mem_append_right _ (List.mem_of_getElem? (i := 1837) (by decide +kernel))) rfl
theorem m_1839 : Cond.fieldLink RX14 24 (TX14 7).1 (TX14 7).2.1 (TX14 7).2.2.1 ∈ W0 := w0_in (List.mem_append_right _ (List.mem_of_getElem? (i := 1839) (by decide +kernel))) rfl
theorem m_1841 : Cond.fieldLink RX14 27 (TX14 8).1 (TX14 8).2.1 (TX14 8).2.2.1 ∈ W0 := w0_in (List.mem_append_right _ (List.mem_of_getElem? (i := 1841) (by decide +kernel))) rfl
theorem m_1843 : Cond.fieldLink RX14 30 (TX14 9).1 (TX14 9).2.1 (TX14 9).2.2.1 ∈ W0 := w0_in (List.mem_append_right _ (List.mem_of_getElem? (i := 1843) (by decide +kernel))) rfl
theorem m_1851 : Cond.fieldLink RX14 33 (TX14 13).1 (TX14 13).2.1 (TX14 13).2.2.1 ∈ W0 := w0_in (List.mem_append_right _ (List.mem_of_getElem? (i := 1851) (by decide +kernel))) rfl
theorem m_1853 : Cond.fieldLink RX14 36 (TX14 14).1 (TX14 14).2.1 (TX14 14).2.2.1 ∈ W0 := w0_in (List.mem_append_right _ (List.mem_of_getElem? (i := 1853) (by decide +kernel))) rfl
theorem i_X14 : ∀ w ∈ u_ws RX14 TX14 24, w ∈ W0 := by
  intro w hw
  exact w0_in (List.mem_append_right _ ((by decide +kernel : ∀ w ∈ u_ws RX14 TX14 24, w ∈ tables_1) w hw)) ((by decide +kernel : ∀ w ∈ u_ws RX14 TX14 24, goodWord w = true) w hw)
section
variable {p : Program} {l : Launch} {e : Env} {R : Room} {s : State} {m : MethodId} {args : Array Value} {below : List Frame} {meth : Method} {c : Code} {H : Heap} {locs : List Loc} {cells slots : Nat} {Q : State → Prop}
variable {cc : ByteArray} {pc : Nat} {ls : Array Slot} {rest : List Value} {X : Ec} {h h1 : Hp} {nL : Nat} {rt : Option FieldType} {mn : String}
theorem pf_X14_36 {a r : Nat} (C : Cx X p s m args meth c RX14 cc nL rt mn) (hW : Wx X h H) (hZ : va_S (aA (eB X)) s.heap H locs) (hmn : mn = "<init>") (ha : hK h a = 14) (hr : hK h r = 17) (eh : h1 = wR h a 14 (some r)) (hdg : decode cc pc = .ok (.putfield 36, 3)) (kk : ∀ (H1 : Heap) (locs1 : List Loc), Wx X h1 H1 → Km h h1 → va_S (aA (eB X)) s.heap H1 locs1 → W p l e R s m args below meth c H1 locs1 cells slots Q (F0 m (pc + 3) ls rest)) : W p l e R s m args below meth c H locs cells slots Q (F0 m pc ls (.ref r :: .ref a :: rest)) :=
  y_putrF (ty := .array .int) C hW hZ ha i_X14 tyX14 tyX14_ok nmX14 (by decide) rfl rfl (by decide) m_1853 rfl hmn rfl (by decide +kernel) rfl rfl rfl hr rfl (by decide) eh hdg kk
theorem pf_X14_33 {a r : Nat} (C : Cx X p s m args meth c RX14 cc nL rt mn) (hW : Wx X h H) (hZ : va_S (aA (eB X)) s.heap H locs) (hmn : mn = "<init>") (ha : hK h a = 14) (hr : hK h r = 17) (eh : h1 = wR h a 13 (some r)) (hdg : decode cc pc = .ok (.putfield 33, 3)) (kk : ∀ (H1 : Heap) (locs1 : List Loc), Wx X h1 H1 → Km h h1 → va_S (aA (eB X)) s.heap H1 locs1 → W p l e R s m args below meth c H1 locs1 cells slots Q (F0 m (pc + 3) ls rest)) : W p l e R s m args below meth c H locs cells slots Q (F0 m pc ls (.ref r :: .ref a :: rest)) :=
  y_putrF (ty := .array .int) C hW hZ ha i_X14 tyX14 tyX14_ok nmX14 (by decide) rfl rfl (by decide) m_1851 rfl hmn rfl (by decide +kernel) rfl rfl rfl hr rfl (by decide) eh hdg kk
theorem pf_X14_30 {a r : Nat} (C : Cx X p s m args meth c RX14 cc nL rt mn) (hW : Wx X h H) (hZ : va_S (aA (eB X)) s.heap H locs) (hmn : mn = "<init>") (ha : hK h a = 14) (hr : hK h r = 17) (eh : h1 = wR h a 9 (some r)) (hdg : decode cc pc = .ok (.putfield 30, 3)) (kk : ∀ (H1 : Heap) (locs1 : List Loc), Wx X h1 H1 → Km h h1 → va_S (aA (eB X)) s.heap H1 locs1 → W p l e R s m args below meth c H1 locs1 cells slots Q (F0 m (pc + 3) ls rest)) : W p l e R s m args below meth c H locs cells slots Q (F0 m pc ls (.ref r :: .ref a :: rest)) :=
  y_putrF (ty := .array .int) C hW hZ ha i_X14 tyX14 tyX14_ok nmX14 (by decide) rfl rfl (by decide) m_1843 rfl hmn rfl (by decide +kernel) rfl rfl rfl hr rfl (by decide) eh hdg kk
theorem pf_X14_27 {a r : Nat} (C : Cx X p s m args meth c RX14 cc nL rt mn) (hW : Wx X h H) (hZ : va_S (aA (eB X)) s.heap H locs) (hmn : mn = "<init>") (ha : hK h a = 14) (hr : hK h r = 17) (eh : h1 = wR h a 8 (some r)) (hdg : decode cc pc = .ok (.putfield 27, 3)) (kk : ∀ (H1 : Heap) (locs1 : List Loc), Wx X h1 H1 → Km h h1 → va_S (aA (eB X)) s.heap H1 locs1 → W p l e R s m args below meth c H1 locs1 cells slots Q (F0 m (pc + 3) ls rest)) : W p l e R s m args below meth c H locs cells slots Q (F0 m pc ls (.ref r :: .ref a :: rest)) :=
  y_putrF (ty := .array .int) C hW hZ ha i_X14 tyX14 tyX14_ok nmX14 (by decide) rfl rfl (by decide) m_1841 rfl hmn rfl (by decide +kernel) rfl rfl rfl hr rfl (by decide) eh hdg kk
theorem pf_X14_24 {a r : Nat} (C : Cx X p s m args meth c RX14 cc nL rt mn) (hW : Wx X h H) (hZ : va_S (aA (eB X)) s.heap H locs) (hmn : mn = "<init>") (ha : hK h a = 14) (hr : hK h r = 17) (eh : h1 = wR h a 7 (some r)) (hdg : decode cc pc = .ok (.putfield 24, 3)) (kk : ∀ (H1 : Heap) (locs1 : List Loc), Wx X h1 H1 → Km h h1 → va_S (aA (eB X)) s.heap H1 locs1 → W p l e R s m args below meth c H1 locs1 cells slots Q (F0 m (pc + 3) ls rest)) : W p l e R s m args below meth c H locs cells slots Q (F0 m pc ls (.ref r :: .ref a :: rest)) :=
  y_putrF (ty := .array .int) C hW hZ ha i_X14 tyX14 tyX14_ok nmX14 (by decide) rfl rfl (by decide) m_1839 rfl hmn rfl (by decide +kernel) rfl rfl rfl hr rfl (by decide) eh hdg kk
theorem pf_X14_21 {a r : Nat} (C : Cx X p s m args meth c RX14 cc nL rt mn) (hW : Wx X h H) (hZ : va_S (aA (eB X)) s.heap H locs) (hmn : mn = "<init>") (ha : hK h a = 14) (hr : hK h r = 17) (eh : h1 = wR h a 6 (some r)) (hdg : decode cc pc = .ok (.putfield 21, 3)) (kk : ∀ (H1 : Heap) (locs1 : List Loc), Wx X h1 H1 → Km h h1 → va_S (aA (eB X)) s.heap H1 locs1 → W p l e R s m args below meth c H1 locs1 cells slots Q (F0 m (pc + 3) ls rest)) : W p l e R s m args below meth c H locs cells slots Q (F0 m pc ls (.ref r :: .ref a :: rest)) :=
  y_putrF (ty := .array .int) C hW hZ ha i_X14 tyX14 tyX14_ok nmX14 (by decide) rfl rfl (by decide) m_1837 rfl hmn rfl (by decide +kernel) rfl rfl rfl hr rfl (by decide) eh hdg kk
theorem pf_X14_18 {a r : Nat} (C : Cx X p s m args meth c RX14 cc nL rt mn) (hW : Wx X h H) (hZ : va_S (aA (eB X)) s.heap H locs) (hmn : mn = "<init>") (ha : hK h a = 14) (hr : hK h r = 17) (eh : h1 = wR h a 5 (some r)) (hdg : decode cc pc = .ok (.putfield 18, 3)) (kk : ∀ (H1 : Heap) (locs1 : List Loc), Wx X h1 H1 → Km h h1 → va_S (aA (eB X)) s.heap H1 locs1 → W p l e R s m args below meth c H1 locs1 cells slots Q (F0 m (pc + 3) ls rest)) : W p l e R s m args below meth c H locs cells slots Q (F0 m pc ls (.ref r :: .ref a :: rest)) :=
  y_putrF (ty := .array .int) C hW hZ ha i_X14 tyX14 tyX14_ok nmX14 (by decide) rfl rfl (by decide) m_1835 rfl hmn rfl (by decide +kernel) rfl rfl rfl hr rfl (by decide) eh hdg kk
theorem pf_X14_15 {a r : Nat} (C : Cx X p s m args meth c RX14 cc nL rt mn) (hW : Wx X h H) (hZ : va_S (aA (eB X)) s.heap H locs) (hmn : mn = "<init>") (ha : hK h a = 14) (hr : hK h r = 17) (eh : h1 = wR h a 4 (some r)) (hdg : decode cc pc = .ok (.putfield 15, 3)) (kk : ∀ (H1 : Heap) (locs1 : List Loc), Wx X h1 H1 → Km h h1 → va_S (aA (eB X)) s.heap H1 locs1 → W p l e R s m args below meth c H1 locs1 cells slots Q (F0 m (pc + 3) ls rest)) : W p l e R s m args below meth c H locs cells slots Q (F0 m pc ls (.ref r :: .ref a :: rest)) :=
  y_putrF (ty := .array .int) C hW hZ ha i_X14 tyX14 tyX14_ok nmX14 (by decide) rfl rfl (by decide) m_1833 rfl hmn rfl (by decide +kernel) rfl rfl rfl hr rfl (by decide) eh hdg kk
theorem pf_X14_9 {a r : Nat} (C : Cx X p s m args meth c RX14 cc nL rt mn) (hW : Wx X h H) (hZ : va_S (aA (eB X)) s.heap H locs) (hmn : mn = "<init>") (ha : hK h a = 14) (hr : hK h r = 17) (eh : h1 = wR h a 3 (some r)) (hdg : decode cc pc = .ok (.putfield 9, 3)) (kk : ∀ (H1 : Heap) (locs1 : List Loc), Wx X h1 H1 → Km h h1 → va_S (aA (eB X)) s.heap H1 locs1 → W p l e R s m args below meth c H1 locs1 cells slots Q (F0 m (pc + 3) ls rest)) : W p l e R s m args below meth c H locs cells slots Q (F0 m pc ls (.ref r :: .ref a :: rest)) :=
  y_putrF (ty := .array .int) C hW hZ ha i_X14 tyX14 tyX14_ok nmX14 (by decide) rfl rfl (by decide) m_1831 rfl hmn rfl (by decide +kernel) rfl rfl rfl hr rfl (by decide) eh hdg kk
end
theorem dX14_init_0 : decode cX14_init 0 = .ok (.aload_n 0, 1) := by decide +kernel
theorem dX14_init_1 : decode cX14_init 1 = .ok (.invokespecial 3, 3) := by decide +kernel
theorem dX14_init_4 : decode cX14_init 4 = .ok (.aload_n 0, 1) := by decide +kernel
theorem dX14_init_5 : decode cX14_init 5 = .ok (.bipush 12, 2) := by decide +kernel
theorem dX14_init_7 : decode cX14_init 7 = .ok (.newarray .int, 2) := by decide +kernel
theorem dX14_init_9 : decode cX14_init 9 = .ok (.putfield 9, 3) := by decide +kernel
theorem dX14_init_12 : decode cX14_init 12 = .ok (.aload_n 0, 1) := by decide +kernel
theorem dX14_init_13 : decode cX14_init 13 = .ok (.bipush 12, 2) := by decide +kernel
theorem dX14_init_15 : decode cX14_init 15 = .ok (.newarray .int, 2) := by decide +kernel
theorem dX14_init_17 : decode cX14_init 17 = .ok (.putfield 15, 3) := by decide +kernel
theorem dX14_init_20 : decode cX14_init 20 = .ok (.aload_n 0, 1) := by decide +kernel
theorem dX14_init_21 : decode cX14_init 21 = .ok (.bipush 96, 2) := by decide +kernel
theorem dX14_init_23 : decode cX14_init 23 = .ok (.newarray .int, 2) := by decide +kernel
theorem dX14_init_25 : decode cX14_init 25 = .ok (.putfield 18, 3) := by decide +kernel
theorem dX14_init_28 : decode cX14_init 28 = .ok (.aload_n 0, 1) := by decide +kernel
theorem dX14_init_29 : decode cX14_init 29 = .ok (.bipush 96, 2) := by decide +kernel
theorem dX14_init_31 : decode cX14_init 31 = .ok (.newarray .int, 2) := by decide +kernel
theorem dX14_init_33 : decode cX14_init 33 = .ok (.putfield 21, 3) := by decide +kernel
theorem dX14_init_36 : decode cX14_init 36 = .ok (.aload_n 0, 1) := by decide +kernel
theorem dX14_init_37 : decode cX14_init 37 = .ok (.bipush 96, 2) := by decide +kernel
theorem dX14_init_39 : decode cX14_init 39 = .ok (.newarray .int, 2) := by decide +kernel
theorem dX14_init_41 : decode cX14_init 41 = .ok (.putfield 24, 3) := by decide +kernel
theorem dX14_init_44 : decode cX14_init 44 = .ok (.aload_n 0, 1) := by decide +kernel
theorem dX14_init_45 : decode cX14_init 45 = .ok (.bipush 96, 2) := by decide +kernel
theorem dX14_init_47 : decode cX14_init 47 = .ok (.newarray .int, 2) := by decide +kernel
theorem dX14_init_49 : decode cX14_init 49 = .ok (.putfield 27, 3) := by decide +kernel
theorem dX14_init_52 : decode cX14_init 52 = .ok (.aload_n 0, 1) := by decide +kernel
theorem dX14_init_53 : decode cX14_init 53 = .ok (.bipush 96, 2) := by decide +kernel
theorem dX14_init_55 : decode cX14_init 55 = .ok (.newarray .int, 2) := by decide +kernel
theorem dX14_init_57 : decode cX14_init 57 = .ok (.putfield 30, 3) := by decide +kernel
theorem dX14_init_60 : decode cX14_init 60 = .ok (.aload_n 0, 1) := by decide +kernel
theorem dX14_init_61 : decode cX14_init 61 = .ok (.bipush 72, 2) := by decide +kernel
theorem dX14_init_63 : decode cX14_init 63 = .ok (.newarray .int, 2) := by decide +kernel
theorem dX14_init_65 : decode cX14_init 65 = .ok (.putfield 33, 3) := by decide +kernel
theorem dX14_init_68 : decode cX14_init 68 = .ok (.aload_n 0, 1) := by decide +kernel
theorem dX14_init_69 : decode cX14_init 69 = .ok (.bipush 12, 2) := by decide +kernel
theorem dX14_init_71 : decode cX14_init 71 = .ok (.newarray .int, 2) := by decide +kernel
theorem dX14_init_73 : decode cX14_init 73 = .ok (.putfield 36, 3) := by decide +kernel
theorem dX14_init_76 : decode cX14_init 76 = .ok (.return_, 1) := by decide +kernel
def sX14_init_73 (h : Hp) (t0 : Nat) (t1 : Nat) : Option (Hp) := nm (wR h t1 14 (some t0)) fun h_1 => some h_1
def sX14_init_65 (h : Hp) (x0 : Nat) (t0 : Nat) (t1 : Nat) : Option (Hp) := nm (wR h t1 13 (some t0)) fun h_1 => nm (hS h_1) fun a_2 => nm (nC h_1 17 (12 : Int32).toNatClampNeg (12 : Int32).toNatClampNeg) fun h_3 => sX14_init_73  h_3 a_2 x0
def sX14_init_57 (h : Hp) (x0 : Nat) (t0 : Nat) (t1 : Nat) : Option (Hp) := nm (wR h t1 9 (some t0)) fun h_1 => nm (hS h_1) fun a_2 => nm (nC h_1 17 (72 : Int32).toNatClampNeg (72 : Int32).toNatClampNeg) fun h_3 => sX14_init_65  h_3 x0 a_2 x0
def sX14_init_49 (h : Hp) (x0 : Nat) (t0 : Nat) (t1 : Nat) : Option (Hp) := nm (wR h t1 8 (some t0)) fun h_1 => nm (hS h_1) fun a_2 => nm (nC h_1 17 (96 : Int32).toNatClampNeg (96 : Int32).toNatClampNeg) fun h_3 => sX14_init_57  h_3 x0 a_2 x0
def sX14_init_41 (h : Hp) (x0 : Nat) (t0 : Nat) (t1 : Nat) : Option (Hp) := nm (wR h t1 7 (some t0)) fun h_1 => nm (hS h_1) fun a_2 => nm (nC h_1 17 (96 : Int32).toNatClampNeg (96 : Int32).toNatClampNeg) fun h_3 => sX14_init_49  h_3 x0 a_2 x0
def sX14_init_33 (h : Hp) (x0 : Nat) (t0 : Nat) (t1 : Nat) : Option (Hp) := nm (wR h t1 6 (some t0)) fun h_1 => nm (hS h_1) fun a_2 => nm (nC h_1 17 (96 : Int32).toNatClampNeg (96 : Int32).toNatClampNeg) fun h_3 => sX14_init_41  h_3 x0 a_2 x0
def sX14_init_25 (h : Hp) (x0 : Nat) (t0 : Nat) (t1 : Nat) : Option (Hp) := nm (wR h t1 5 (some t0)) fun h_1 => nm (hS h_1) fun a_2 => nm (nC h_1 17 (96 : Int32).toNatClampNeg (96 : Int32).toNatClampNeg) fun h_3 => sX14_init_33  h_3 x0 a_2 x0
def sX14_init_17 (h : Hp) (x0 : Nat) (t0 : Nat) (t1 : Nat) : Option (Hp) := nm (wR h t1 4 (some t0)) fun h_1 => nm (hS h_1) fun a_2 => nm (nC h_1 17 (96 : Int32).toNatClampNeg (96 : Int32).toNatClampNeg) fun h_3 => sX14_init_25  h_3 x0 a_2 x0
def sX14_init_9 (h : Hp) (x0 : Nat) (t0 : Nat) (t1 : Nat) : Option (Hp) := nm (wR h t1 3 (some t0)) fun h_1 => nm (hS h_1) fun a_2 => nm (nC h_1 17 (12 : Int32).toNatClampNeg (12 : Int32).toNatClampNeg) fun h_3 => sX14_init_17  h_3 x0 a_2 x0
def sX14_init (h : Hp) (x0 : Nat) : Option (Hp) := nm (hS h) fun a_1 => nm (nC h 17 (12 : Int32).toNatClampNeg (12 : Int32).toNatClampNeg) fun h_2 => sX14_init_9  h_2 x0 a_1 x0
theorem moX14_init_73 {o : Hp} {h : Hp} {t0 : Nat} {t1 : Nat} (hE : sX14_init_73 h  t0 t1 = some o) : Le h o := by
  obtain ⟨h_1, eh_1, hE⟩ := nm_e2 hE
  refine (le_R eh_1).tr ?_
  cases hE
  exact Le.rf _
theorem moX14_init_65 {o : Hp} {h : Hp} {x0 : Nat} {t0 : Nat} {t1 : Nat} (hE : sX14_init_65 h x0 t0 t1 = some o) : Le h o := by
  obtain ⟨h_1, eh_1, hE⟩ := nm_e2 hE
  refine (le_R eh_1).tr ?_
  obtain ⟨a_2, ea_2, hE⟩ := nm_e2 hE
  obtain ⟨h_3, eh_3, hE⟩ := nm_e2 hE
  refine (le_C eh_3).tr ?_
  exact moX14_init_73 hE
theorem moX14_init_57 {o : Hp} {h : Hp} {x0 : Nat} {t0 : Nat} {t1 : Nat} (hE : sX14_init_57 h x0 t0 t1 = some o) : Le h o := by
  obtain ⟨h_1, eh_1, hE⟩ := nm_e2 hE
  refine (le_R eh_1).tr ?_
  obtain ⟨a_2, ea_2, hE⟩ := nm_e2 hE
  obtain ⟨h_3, eh_3, hE⟩ := nm_e2 hE
  refine (le_C eh_3).tr ?_
  exact moX14_init_65 hE
theorem moX14_init_49 {o : Hp} {h : Hp} {x0 : Nat} {t0 : Nat} {t1 : Nat} (hE : sX14_init_49 h x0 t0 t1 = some o) : Le h o := by
  obtain ⟨h_1, eh_1, hE⟩ := nm_e2 hE
  refine (le_R eh_1).tr ?_
  obtain ⟨a_2, ea_2, hE⟩ := nm_e2 hE
  obtain ⟨h_3, eh_3, hE⟩ := nm_e2 hE
  refine (le_C eh_3).tr ?_
  exact moX14_init_57 hE
theorem moX14_init_41 {o : Hp} {h : Hp} {x0 : Nat} {t0 : Nat} {t1 : Nat} (hE : sX14_init_41 h x0 t0 t1 = some o) : Le h o := by
  obtain ⟨h_1, eh_1, hE⟩ := nm_e2 hE
  refine (le_R eh_1).tr ?_
  obtain ⟨a_2, ea_2, hE⟩ := nm_e2 hE
  obtain ⟨h_3, eh_3, hE⟩ := nm_e2 hE
  refine (le_C eh_3).tr ?_
  exact moX14_init_49 hE
theorem moX14_init_33 {o : Hp} {h : Hp} {x0 : Nat} {t0 : Nat} {t1 : Nat} (hE : sX14_init_33 h x0 t0 t1 = some o) : Le h o := by
  obtain ⟨h_1, eh_1, hE⟩ := nm_e2 hE
  refine (le_R eh_1).tr ?_
  obtain ⟨a_2, ea_2, hE⟩ := nm_e2 hE
  obtain ⟨h_3, eh_3, hE⟩ := nm_e2 hE
  refine (le_C eh_3).tr ?_
  exact moX14_init_41 hE
theorem moX14_init_25 {o : Hp} {h : Hp} {x0 : Nat} {t0 : Nat} {t1 : Nat} (hE : sX14_init_25 h x0 t0 t1 = some o) : Le h o := by
  obtain ⟨h_1, eh_1, hE⟩ := nm_e2 hE
  refine (le_R eh_1).tr ?_
  obtain ⟨a_2, ea_2, hE⟩ := nm_e2 hE
  obtain ⟨h_3, eh_3, hE⟩ := nm_e2 hE
  refine (le_C eh_3).tr ?_
  exact moX14_init_33 hE
theorem moX14_init_17 {o : Hp} {h : Hp} {x0 : Nat} {t0 : Nat} {t1 : Nat} (hE : sX14_init_17 h x0 t0 t1 = some o) : Le h o := by
  obtain ⟨h_1, eh_1, hE⟩ := nm_e2 hE
  refine (le_R eh_1).tr ?_
  obtain ⟨a_2, ea_2, hE⟩ := nm_e2 hE
  obtain ⟨h_3, eh_3, hE⟩ := nm_e2 hE
  refine (le_C eh_3).tr ?_
  exact moX14_init_25 hE
theorem moX14_init_9 {o : Hp} {h : Hp} {x0 : Nat} {t0 : Nat} {t1 : Nat} (hE : sX14_init_9 h x0 t0 t1 = some o) : Le h o := by
  obtain ⟨h_1, eh_1, hE⟩ := nm_e2 hE
  refine (le_R eh_1).tr ?_
  obtain ⟨a_2, ea_2, hE⟩ := nm_e2 hE
  obtain ⟨h_3, eh_3, hE⟩ := nm_e2 hE
  refine (le_C eh_3).tr ?_
  exact moX14_init_17 hE
theorem moX14_init {o : Hp} {h : Hp} {x0 : Nat} (hE : sX14_init h x0 = some o) : Le h o := by
  obtain ⟨a_1, ea_1, hE⟩ := nm_e2 hE
  obtain ⟨h_2, eh_2, hE⟩ := nm_e2 hE
  refine (le_C eh_2).tr ?_
  exact moX14_init_9 hE
set_option maxRecDepth 20000 in
theorem bX14_init_73 {p : Program} {l : Launch} {e : Env} {s : State} {m : MethodId} {args : Array Value} {below : List Frame} {meth : Method} {c : Code} {X : Ec} {h0 : Hp} {o : Hp} (C : Cx X p s m args meth c RX14 cX14_init 1 none "<init>") {h : Hp} {t0 : Nat} {t1 : Nat} {H : Heap} {locs : List Loc} (k_t0 : hK h t0 = 17) (k_t1 : hK h t1 = 14) (hkl : Kl h0 h) (hW : Wx X h H) (hZ : va_S (aA (eB X)) s.heap H locs) (ls : Array Slot) (hl : lv_has ls 1 []) (hE : sX14_init_73 h  t0 t1 = some o) : W p l e (rmA 1 20 h0 o) s m args below meth c H locs (hS h - hS h0) (hL h - hL h0) (MQ below (QVA X h0 o) args s (hS o - hS h0) (hL o - hL h0) (aA (eB X))) (F0 m 73 ls [.ref t0, .ref t1]) := by
  obtain ⟨h_1, eh_1, hE⟩ := nm_e2 hE
  refine pf_X14_36 C hW hZ rfl k_t1 k_t0 eh_1 dX14_init_73 (fun _ _ hW km hZ => ?_)
  replace hkl := hkl.tr km.l
  refine x_wc km ?_
  exact x_vretA C rfl hW hZ hkl hE dX14_init_76
set_option maxRecDepth 20000 in
theorem bX14_init_65 {p : Program} {l : Launch} {e : Env} {s : State} {m : MethodId} {args : Array Value} {below : List Frame} {meth : Method} {c : Code} {X : Ec} {h0 : Hp} {o : Hp} (C : Cx X p s m args meth c RX14 cX14_init 1 none "<init>") {h : Hp} {x0 : Nat} {t0 : Nat} {t1 : Nat} {H : Heap} {locs : List Loc} (k_x0 : hK h x0 = 14) (k_t0 : hK h t0 = 17) (k_t1 : hK h t1 = 14) (hkl : Kl h0 h) (hW : Wx X h H) (hZ : va_S (aA (eB X)) s.heap H locs) (ls : Array Slot) (hl : lv_has ls 1 [(0, .ref x0)]) (hE : sX14_init_65 h x0 t0 t1 = some o) : W p l e (rmA 1 20 h0 o) s m args below meth c H locs (hS h - hS h0) (hL h - hL h0) (MQ below (QVA X h0 o) args s (hS o - hS h0) (hL o - hL h0) (aA (eB X))) (F0 m 65 ls [.ref t0, .ref t1]) := by
  obtain ⟨h_1, eh_1, hE⟩ := nm_e2 hE
  refine pf_X14_33 C hW hZ rfl k_t1 k_t0 eh_1 dX14_init_65 (fun _ _ hW km hZ => ?_)
  replace hkl := hkl.tr km.l
  refine x_wc km ?_
  replace k_x0 := km.at k_x0 (by decide)
  refine lv_aload_n C.1 C.2.1 dX14_init_68 rfl (lv_at hl 0 rfl) ?_
  refine lv_bipush (v := (12 : Int32)) C.1 C.2.1 dX14_init_69 (by decide) ?_
  obtain ⟨a_2, ea_2, hE⟩ := nm_e2 hE
  obtain ⟨h_3, eh_3, hE⟩ := nm_e2 hE
  refine y_newa (k := 17) (ty := .int) (t0 := 1) C hW hZ hkl (moX14_init_73 hE) ⟨rfl, rfl⟩ (by decide) (by decide) rfl rfl (by intro C hC; cases hC) hdef_17 m_54 (by decide) (by decide) eh_3 dX14_init_71 (fun _ hW km k_a_2 hZ => ?_)
  replace hkl := hkl.tr km
  refine x_nmA ea_2 ?_
  rw [← ea_2] at k_a_2
  replace k_x0 := km.at k_x0 (by decide)
  exact bX14_init_73 C k_a_2 k_x0 hkl hW hZ _ (lv_sub hl [] rfl) hE
set_option maxRecDepth 20000 in
theorem bX14_init_57 {p : Program} {l : Launch} {e : Env} {s : State} {m : MethodId} {args : Array Value} {below : List Frame} {meth : Method} {c : Code} {X : Ec} {h0 : Hp} {o : Hp} (C : Cx X p s m args meth c RX14 cX14_init 1 none "<init>") {h : Hp} {x0 : Nat} {t0 : Nat} {t1 : Nat} {H : Heap} {locs : List Loc} (k_x0 : hK h x0 = 14) (k_t0 : hK h t0 = 17) (k_t1 : hK h t1 = 14) (hkl : Kl h0 h) (hW : Wx X h H) (hZ : va_S (aA (eB X)) s.heap H locs) (ls : Array Slot) (hl : lv_has ls 1 [(0, .ref x0)]) (hE : sX14_init_57 h x0 t0 t1 = some o) : W p l e (rmA 1 20 h0 o) s m args below meth c H locs (hS h - hS h0) (hL h - hL h0) (MQ below (QVA X h0 o) args s (hS o - hS h0) (hL o - hL h0) (aA (eB X))) (F0 m 57 ls [.ref t0, .ref t1]) := by
  obtain ⟨h_1, eh_1, hE⟩ := nm_e2 hE
  refine pf_X14_30 C hW hZ rfl k_t1 k_t0 eh_1 dX14_init_57 (fun _ _ hW km hZ => ?_)
  replace hkl := hkl.tr km.l
  refine x_wc km ?_
  replace k_x0 := km.at k_x0 (by decide)
  refine lv_aload_n C.1 C.2.1 dX14_init_60 rfl (lv_at hl 0 rfl) ?_
  refine lv_bipush (v := (72 : Int32)) C.1 C.2.1 dX14_init_61 (by decide) ?_
  obtain ⟨a_2, ea_2, hE⟩ := nm_e2 hE
  obtain ⟨h_3, eh_3, hE⟩ := nm_e2 hE
  refine y_newa (k := 17) (ty := .int) (t0 := 1) C hW hZ hkl (moX14_init_65 hE) ⟨rfl, rfl⟩ (by decide) (by decide) rfl rfl (by intro C hC; cases hC) hdef_17 m_54 (by decide) (by decide) eh_3 dX14_init_63 (fun _ hW km k_a_2 hZ => ?_)
  replace hkl := hkl.tr km
  refine x_nmA ea_2 ?_
  rw [← ea_2] at k_a_2
  replace k_x0 := km.at k_x0 (by decide)
  exact bX14_init_65 C k_x0 k_a_2 k_x0 hkl hW hZ _ (lv_sub hl [0] rfl) hE
set_option maxRecDepth 20000 in
theorem bX14_init_49 {p : Program} {l : Launch} {e : Env} {s : State} {m : MethodId} {args : Array Value} {below : List Frame} {meth : Method} {c : Code} {X : Ec} {h0 : Hp} {o : Hp} (C : Cx X p s m args meth c RX14 cX14_init 1 none "<init>") {h : Hp} {x0 : Nat} {t0 : Nat} {t1 : Nat} {H : Heap} {locs : List Loc} (k_x0 : hK h x0 = 14) (k_t0 : hK h t0 = 17) (k_t1 : hK h t1 = 14) (hkl : Kl h0 h) (hW : Wx X h H) (hZ : va_S (aA (eB X)) s.heap H locs) (ls : Array Slot) (hl : lv_has ls 1 [(0, .ref x0)]) (hE : sX14_init_49 h x0 t0 t1 = some o) : W p l e (rmA 1 20 h0 o) s m args below meth c H locs (hS h - hS h0) (hL h - hL h0) (MQ below (QVA X h0 o) args s (hS o - hS h0) (hL o - hL h0) (aA (eB X))) (F0 m 49 ls [.ref t0, .ref t1]) := by
  obtain ⟨h_1, eh_1, hE⟩ := nm_e2 hE
  refine pf_X14_27 C hW hZ rfl k_t1 k_t0 eh_1 dX14_init_49 (fun _ _ hW km hZ => ?_)
  replace hkl := hkl.tr km.l
  refine x_wc km ?_
  replace k_x0 := km.at k_x0 (by decide)
  refine lv_aload_n C.1 C.2.1 dX14_init_52 rfl (lv_at hl 0 rfl) ?_
  refine lv_bipush (v := (96 : Int32)) C.1 C.2.1 dX14_init_53 (by decide) ?_
  obtain ⟨a_2, ea_2, hE⟩ := nm_e2 hE
  obtain ⟨h_3, eh_3, hE⟩ := nm_e2 hE
  refine y_newa (k := 17) (ty := .int) (t0 := 1) C hW hZ hkl (moX14_init_57 hE) ⟨rfl, rfl⟩ (by decide) (by decide) rfl rfl (by intro C hC; cases hC) hdef_17 m_54 (by decide) (by decide) eh_3 dX14_init_55 (fun _ hW km k_a_2 hZ => ?_)
  replace hkl := hkl.tr km
  refine x_nmA ea_2 ?_
  rw [← ea_2] at k_a_2
  replace k_x0 := km.at k_x0 (by decide)
  exact bX14_init_57 C k_x0 k_a_2 k_x0 hkl hW hZ _ (lv_sub hl [0] rfl) hE
set_option maxRecDepth 20000 in
theorem bX14_init_41 {p : Program} {l : Launch} {e : Env} {s : State} {m : MethodId} {args : Array Value} {below : List Frame} {meth : Method} {c : Code} {X : Ec} {h0 : Hp} {o : Hp} (C : Cx X p s m args meth c RX14 cX14_init 1 none "<init>") {h : Hp} {x0 : Nat} {t0 : Nat} {t1 : Nat} {H : Heap} {locs : List Loc} (k_x0 : hK h x0 = 14) (k_t0 : hK h t0 = 17) (k_t1 : hK h t1 = 14) (hkl : Kl h0 h) (hW : Wx X h H) (hZ : va_S (aA (eB X)) s.heap H locs) (ls : Array Slot) (hl : lv_has ls 1 [(0, .ref x0)]) (hE : sX14_init_41 h x0 t0 t1 = some o) : W p l e (rmA 1 20 h0 o) s m args below meth c H locs (hS h - hS h0) (hL h - hL h0) (MQ below (QVA X h0 o) args s (hS o - hS h0) (hL o - hL h0) (aA (eB X))) (F0 m 41 ls [.ref t0, .ref t1]) := by
  obtain ⟨h_1, eh_1, hE⟩ := nm_e2 hE
  refine pf_X14_24 C hW hZ rfl k_t1 k_t0 eh_1 dX14_init_41 (fun _ _ hW km hZ => ?_)
  replace hkl := hkl.tr km.l
  refine x_wc km ?_
  replace k_x0 := km.at k_x0 (by decide)
  refine lv_aload_n C.1 C.2.1 dX14_init_44 rfl (lv_at hl 0 rfl) ?_
  refine lv_bipush (v := (96 : Int32)) C.1 C.2.1 dX14_init_45 (by decide) ?_
  obtain ⟨a_2, ea_2, hE⟩ := nm_e2 hE
  obtain ⟨h_3, eh_3, hE⟩ := nm_e2 hE
  refine y_newa (k := 17) (ty := .int) (t0 := 1) C hW hZ hkl (moX14_init_49 hE) ⟨rfl, rfl⟩ (by decide) (by decide) rfl rfl (by intro C hC; cases hC) hdef_17 m_54 (by decide) (by decide) eh_3 dX14_init_47 (fun _ hW km k_a_2 hZ => ?_)
  replace hkl := hkl.tr km
  refine x_nmA ea_2 ?_
  rw [← ea_2] at k_a_2
  replace k_x0 := km.at k_x0 (by decide)
  exact bX14_init_49 C k_x0 k_a_2 k_x0 hkl hW hZ _ (lv_sub hl [0] rfl) hE
set_option maxRecDepth 20000 in
theorem bX14_init_33 {p : Program} {l : Launch} {e : Env} {s : State} {m : MethodId} {args : Array Value} {below : List Frame} {meth : Method} {c : Code} {X : Ec} {h0 : Hp} {o : Hp} (C : Cx X p s m args meth c RX14 cX14_init 1 none "<init>") {h : Hp} {x0 : Nat} {t0 : Nat} {t1 : Nat} {H : Heap} {locs : List Loc} (k_x0 : hK h x0 = 14) (k_t0 : hK h t0 = 17) (k_t1 : hK h t1 = 14) (hkl : Kl h0 h) (hW : Wx X h H) (hZ : va_S (aA (eB X)) s.heap H locs) (ls : Array Slot) (hl : lv_has ls 1 [(0, .ref x0)]) (hE : sX14_init_33 h x0 t0 t1 = some o) : W p l e (rmA 1 20 h0 o) s m args below meth c H locs (hS h - hS h0) (hL h - hL h0) (MQ below (QVA X h0 o) args s (hS o - hS h0) (hL o - hL h0) (aA (eB X))) (F0 m 33 ls [.ref t0, .ref t1]) := by
  obtain ⟨h_1, eh_1, hE⟩ := nm_e2 hE
  refine pf_X14_21 C hW hZ rfl k_t1 k_t0 eh_1 dX14_init_33 (fun _ _ hW km hZ => ?_)
  replace hkl := hkl.tr km.l
  refine x_wc km ?_
  replace k_x0 := km.at k_x0 (by decide)
  refine lv_aload_n C.1 C.2.1 dX14_init_36 rfl (lv_at hl 0 rfl) ?_
  refine lv_bipush (v := (96 : Int32)) C.1 C.2.1 dX14_init_37 (by decide) ?_
  obtain ⟨a_2, ea_2, hE⟩ := nm_e2 hE
  obtain ⟨h_3, eh_3, hE⟩ := nm_e2 hE
  refine y_newa (k := 17) (ty := .int) (t0 := 1) C hW hZ hkl (moX14_init_41 hE) ⟨rfl, rfl⟩ (by decide) (by decide) rfl rfl (by intro C hC; cases hC) hdef_17 m_54 (by decide) (by decide) eh_3 dX14_init_39 (fun _ hW km k_a_2 hZ => ?_)
  replace hkl := hkl.tr km
  refine x_nmA ea_2 ?_
  rw [← ea_2] at k_a_2
  replace k_x0 := km.at k_x0 (by decide)
  exact bX14_init_41 C k_x0 k_a_2 k_x0 hkl hW hZ _ (lv_sub hl [0] rfl) hE
set_option maxRecDepth 20000 in
theorem bX14_init_25 {p : Program} {l : Launch} {e : Env} {s : State} {m : MethodId} {args : Array Value} {below : List Frame} {meth : Method} {c : Code} {X : Ec} {h0 : Hp} {o : Hp} (C : Cx X p s m args meth c RX14 cX14_init 1 none "<init>") {h : Hp} {x0 : Nat} {t0 : Nat} {t1 : Nat} {H : Heap} {locs : List Loc} (k_x0 : hK h x0 = 14) (k_t0 : hK h t0 = 17) (k_t1 : hK h t1 = 14) (hkl : Kl h0 h) (hW : Wx X h H) (hZ : va_S (aA (eB X)) s.heap H locs) (ls : Array Slot) (hl : lv_has ls 1 [(0, .ref x0)]) (hE : sX14_init_25 h x0 t0 t1 = some o) : W p l e (rmA 1 20 h0 o) s m args below meth c H locs (hS h - hS h0) (hL h - hL h0) (MQ below (QVA X h0 o) args s (hS o - hS h0) (hL o - hL h0) (aA (eB X))) (F0 m 25 ls [.ref t0, .ref t1]) := by
  obtain ⟨h_1, eh_1, hE⟩ := nm_e2 hE
  refine pf_X14_18 C hW hZ rfl k_t1 k_t0 eh_1 dX14_init_25 (fun _ _ hW km hZ => ?_)
  replace hkl := hkl.tr km.l
  refine x_wc km ?_
  replace k_x0 := km.at k_x0 (by decide)
  refine lv_aload_n C.1 C.2.1 dX14_init_28 rfl (lv_at hl 0 rfl) ?_
  refine lv_bipush (v := (96 : Int32)) C.1 C.2.1 dX14_init_29 (by decide) ?_
  obtain ⟨a_2, ea_2, hE⟩ := nm_e2 hE
  obtain ⟨h_3, eh_3, hE⟩ := nm_e2 hE
  refine y_newa (k := 17) (ty := .int) (t0 := 1) C hW hZ hkl (moX14_init_33 hE) ⟨rfl, rfl⟩ (by decide) (by decide) rfl rfl (by intro C hC; cases hC) hdef_17 m_54 (by decide) (by decide) eh_3 dX14_init_31 (fun _ hW km k_a_2 hZ => ?_)
  replace hkl := hkl.tr km
  refine x_nmA ea_2 ?_
  rw [← ea_2] at k_a_2
  replace k_x0 := km.at k_x0 (by decide)
  exact bX14_init_33 C k_x0 k_a_2 k_x0 hkl hW hZ _ (lv_sub hl [0] rfl) hE
set_option maxRecDepth 20000 in
theorem bX14_init_17 {p : Program} {l : Launch} {e : Env} {s : State} {m : MethodId} {args : Array Value} {below : List Frame} {meth : Method} {c : Code} {X : Ec} {h0 : Hp} {o : Hp} (C : Cx X p s m args meth c RX14 cX14_init 1 none "<init>") {h : Hp} {x0 : Nat} {t0 : Nat} {t1 : Nat} {H : Heap} {locs : List Loc} (k_x0 : hK h x0 = 14) (k_t0 : hK h t0 = 17) (k_t1 : hK h t1 = 14) (hkl : Kl h0 h) (hW : Wx X h H) (hZ : va_S (aA (eB X)) s.heap H locs) (ls : Array Slot) (hl : lv_has ls 1 [(0, .ref x0)]) (hE : sX14_init_17 h x0 t0 t1 = some o) : W p l e (rmA 1 20 h0 o) s m args below meth c H locs (hS h - hS h0) (hL h - hL h0) (MQ below (QVA X h0 o) args s (hS o - hS h0) (hL o - hL h0) (aA (eB X))) (F0 m 17 ls [.ref t0, .ref t1]) := by
  obtain ⟨h_1, eh_1, hE⟩ := nm_e2 hE
  refine pf_X14_15 C hW hZ rfl k_t1 k_t0 eh_1 dX14_init_17 (fun _ _ hW km hZ => ?_)
  replace hkl := hkl.tr km.l
  refine x_wc km ?_
  replace k_x0 := km.at k_x0 (by decide)
  refine lv_aload_n C.1 C.2.1 dX14_init_20 rfl (lv_at hl 0 rfl) ?_
  refine lv_bipush (v := (96 : Int32)) C.1 C.2.1 dX14_init_21 (by decide) ?_
  obtain ⟨a_2, ea_2, hE⟩ := nm_e2 hE
  obtain ⟨h_3, eh_3, hE⟩ := nm_e2 hE
  refine y_newa (k := 17) (ty := .int) (t0 := 1) C hW hZ hkl (moX14_init_25 hE) ⟨rfl, rfl⟩ (by decide) (by decide) rfl rfl (by intro C hC; cases hC) hdef_17 m_54 (by decide) (by decide) eh_3 dX14_init_23 (fun _ hW km k_a_2 hZ => ?_)
  replace hkl := hkl.tr km
  refine x_nmA ea_2 ?_
  rw [← ea_2] at k_a_2
  replace k_x0 := km.at k_x0 (by decide)
  exact bX14_init_25 C k_x0 k_a_2 k_x0 hkl hW hZ _ (lv_sub hl [0] rfl) hE
set_option maxRecDepth 20000 in
theorem bX14_init_9 {p : Program} {l : Launch} {e : Env} {s : State} {m : MethodId} {args : Array Value} {below : List Frame} {meth : Method} {c : Code} {X : Ec} {h0 : Hp} {o : Hp} (C : Cx X p s m args meth c RX14 cX14_init 1 none "<init>") {h : Hp} {x0 : Nat} {t0 : Nat} {t1 : Nat} {H : Heap} {locs : List Loc} (k_x0 : hK h x0 = 14) (k_t0 : hK h t0 = 17) (k_t1 : hK h t1 = 14) (hkl : Kl h0 h) (hW : Wx X h H) (hZ : va_S (aA (eB X)) s.heap H locs) (ls : Array Slot) (hl : lv_has ls 1 [(0, .ref x0)]) (hE : sX14_init_9 h x0 t0 t1 = some o) : W p l e (rmA 1 20 h0 o) s m args below meth c H locs (hS h - hS h0) (hL h - hL h0) (MQ below (QVA X h0 o) args s (hS o - hS h0) (hL o - hL h0) (aA (eB X))) (F0 m 9 ls [.ref t0, .ref t1]) := by
  obtain ⟨h_1, eh_1, hE⟩ := nm_e2 hE
  refine pf_X14_9 C hW hZ rfl k_t1 k_t0 eh_1 dX14_init_9 (fun _ _ hW km hZ => ?_)
  replace hkl := hkl.tr km.l
  refine x_wc km ?_
  replace k_x0 := km.at k_x0 (by decide)
  refine lv_aload_n C.1 C.2.1 dX14_init_12 rfl (lv_at hl 0 rfl) ?_
  refine lv_bipush (v := (12 : Int32)) C.1 C.2.1 dX14_init_13 (by decide) ?_
  obtain ⟨a_2, ea_2, hE⟩ := nm_e2 hE
  obtain ⟨h_3, eh_3, hE⟩ := nm_e2 hE
  refine y_newa (k := 17) (ty := .int) (t0 := 1) C hW hZ hkl (moX14_init_17 hE) ⟨rfl, rfl⟩ (by decide) (by decide) rfl rfl (by intro C hC; cases hC) hdef_17 m_54 (by decide) (by decide) eh_3 dX14_init_15 (fun _ hW km k_a_2 hZ => ?_)
  replace hkl := hkl.tr km
  refine x_nmA ea_2 ?_
  rw [← ea_2] at k_a_2
  replace k_x0 := km.at k_x0 (by decide)
  exact bX14_init_17 C k_x0 k_a_2 k_x0 hkl hW hZ _ (lv_sub hl [0] rfl) hE
set_option maxRecDepth 20000 in
theorem ct_X14_init (l : Launch) (X : Ec) {h : Hp} {x0 : Nat} {o : Hp} (k_x0 : hK h x0 = 14) (hE : sX14_init h x0 = some o) : MetVA l yX14_init cX14_init 1 none 1 20 X [.ref x0] h o := by
  refine x_metA (oh := o) (by decide) (Nat.le_of_ble_eq_true rfl) ?_
  intro p e s m below meth c ls C hl hW hZ
  have hl : lv_has ls 1 [(0, .ref x0)] := hl
  have hkl : Kl h h := Kl.rf h
  refine lv_aload_n C.1 C.2.1 dX14_init_0 rfl (lv_at hl 0 rfl) ?_
  refine W.objInit C.1 C.2.1 C.2.2.2.1 (C.2.2.2.2.1 _ m_1826) (C.2.2.2.2.1 _ m_32) (C.2.2.2.2.1 _ m_33) rfl (by rw [C.2.2.1]; exact hl.1) rfl dX14_init_1 (Nat.le_of_ble_eq_true rfl) (Nat.le_of_ble_eq_true rfl) ?_
  refine W.eq (g2 := F0 m 4 ls []) rfl ?_
  refine lv_aload_n C.1 C.2.1 dX14_init_4 rfl (lv_at hl 0 rfl) ?_
  refine lv_bipush (v := (12 : Int32)) C.1 C.2.1 dX14_init_5 (by decide) ?_
  obtain ⟨a_1, ea_1, hE⟩ := nm_e2 hE
  obtain ⟨h_2, eh_2, hE⟩ := nm_e2 hE
  refine y_newa (k := 17) (ty := .int) (t0 := 1) C hW hZ hkl (moX14_init_9 hE) ⟨rfl, rfl⟩ (by decide) (by decide) rfl rfl (by intro C hC; cases hC) hdef_17 m_54 (by decide) (by decide) eh_2 dX14_init_7 (fun _ hW km k_a_1 hZ => ?_)
  replace hkl := hkl.tr km
  refine x_nmA ea_1 ?_
  rw [← ea_1] at k_a_1
  replace k_x0 := km.at k_x0 (by decide)
  exact bX14_init_9 C k_x0 k_a_1 k_x0 hkl hW hZ _ (lv_sub hl [0] rfl) hE
theorem m_1928 : Cond.methodLink RX12 3 objectInit ∈ W0 := w0_in (List.mem_append_right _ (List.mem_of_getElem? (i := 1928) (by decide +kernel))) rfl
theorem m_1929 : Cond.fieldLink RX12 9 (TX12 0).1 (TX12 0).2.1 (TX12 0).2.2.1 ∈ W0 := w0_in (List.mem_append_right _ (List.mem_of_getElem? (i := 1929) (by decide +kernel))) rfl
theorem m_1937 : Cond.fieldLink RX12 15 (TX12 4).1 (TX12 4).2.1 (TX12 4).2.2.1 ∈ W0 := w0_in (List.mem_append_right _ (List.mem_of_getElem? (i := 1937) (by decide +kernel))) rfl
theorem m_1939 : Cond.fieldLink RX12 18 (TX12 5).1 (TX12 5).2.1 (TX12 5).2.2.1 ∈ W0 := w0_in (List.mem_append_right _ (List.mem_of_getElem? (i := 1939) (by decide +kernel))) rfl
theorem m_1941 : Cond.fieldLink RX12 21 (TX12 6).1 (TX12 6).2.1 (TX12 6).2.2.1 ∈ W0 := w0_in (List.mem_append_right _ (List.mem_of_getElem? (i := 1941) (by decide +kernel))) rfl
theorem i_X12 : ∀ w ∈ u_ws RX12 TX12 8, w ∈ W0 := by
  intro w hw
  exact w0_in (List.mem_append_right _ ((by decide +kernel : ∀ w ∈ u_ws RX12 TX12 8, w ∈ tables_1) w hw)) ((by decide +kernel : ∀ w ∈ u_ws RX12 TX12 8, goodWord w = true) w hw)
section
variable {p : Program} {l : Launch} {e : Env} {R : Room} {s : State} {m : MethodId} {args : Array Value} {below : List Frame} {meth : Method} {c : Code} {H : Heap} {locs : List Loc} {cells slots : Nat} {Q : State → Prop}
variable {cc : ByteArray} {pc : Nat} {ls : Array Slot} {rest : List Value} {X : Ec} {h h1 : Hp} {nL : Nat} {rt : Option FieldType} {mn : String}
theorem pf_X12_21 {a r : Nat} (C : Cx X p s m args meth c RX12 cc nL rt mn) (hW : Wx X h H) (hZ : va_S (aA (eB X)) s.heap H locs) (hmn : mn = "<init>") (ha : hK h a = 12) (hr : hK h r = 17) (eh : h1 = wR h a 6 (some r)) (hdg : decode cc pc = .ok (.putfield 21, 3)) (kk : ∀ (H1 : Heap) (locs1 : List Loc), Wx X h1 H1 → Km h h1 → va_S (aA (eB X)) s.heap H1 locs1 → W p l e R s m args below meth c H1 locs1 cells slots Q (F0 m (pc + 3) ls rest)) : W p l e R s m args below meth c H locs cells slots Q (F0 m pc ls (.ref r :: .ref a :: rest)) :=
  y_putrF (ty := .array .int) C hW hZ ha i_X12 tyX12 tyX12_ok nmX12 (by decide) rfl rfl (by decide) m_1941 rfl hmn rfl (by decide +kernel) rfl rfl rfl hr rfl (by decide) eh hdg kk
theorem pf_X12_18 {a r : Nat} (C : Cx X p s m args meth c RX12 cc nL rt mn) (hW : Wx X h H) (hZ : va_S (aA (eB X)) s.heap H locs) (hmn : mn = "<init>") (ha : hK h a = 12) (hr : hK h r = 17) (eh : h1 = wR h a 5 (some r)) (hdg : decode cc pc = .ok (.putfield 18, 3)) (kk : ∀ (H1 : Heap) (locs1 : List Loc), Wx X h1 H1 → Km h h1 → va_S (aA (eB X)) s.heap H1 locs1 → W p l e R s m args below meth c H1 locs1 cells slots Q (F0 m (pc + 3) ls rest)) : W p l e R s m args below meth c H locs cells slots Q (F0 m pc ls (.ref r :: .ref a :: rest)) :=
  y_putrF (ty := .array .int) C hW hZ ha i_X12 tyX12 tyX12_ok nmX12 (by decide) rfl rfl (by decide) m_1939 rfl hmn rfl (by decide +kernel) rfl rfl rfl hr rfl (by decide) eh hdg kk
theorem pf_X12_15 {a r : Nat} (C : Cx X p s m args meth c RX12 cc nL rt mn) (hW : Wx X h H) (hZ : va_S (aA (eB X)) s.heap H locs) (hmn : mn = "<init>") (ha : hK h a = 12) (hr : hK h r = 17) (eh : h1 = wR h a 4 (some r)) (hdg : decode cc pc = .ok (.putfield 15, 3)) (kk : ∀ (H1 : Heap) (locs1 : List Loc), Wx X h1 H1 → Km h h1 → va_S (aA (eB X)) s.heap H1 locs1 → W p l e R s m args below meth c H1 locs1 cells slots Q (F0 m (pc + 3) ls rest)) : W p l e R s m args below meth c H locs cells slots Q (F0 m pc ls (.ref r :: .ref a :: rest)) :=
  y_putrF (ty := .array .int) C hW hZ ha i_X12 tyX12 tyX12_ok nmX12 (by decide) rfl rfl (by decide) m_1937 rfl hmn rfl (by decide +kernel) rfl rfl rfl hr rfl (by decide) eh hdg kk
theorem pf_X12_9 {a r : Nat} (C : Cx X p s m args meth c RX12 cc nL rt mn) (hW : Wx X h H) (hZ : va_S (aA (eB X)) s.heap H locs) (hmn : mn = "<init>") (ha : hK h a = 12) (hr : hK h r = 17) (eh : h1 = wR h a 0 (some r)) (hdg : decode cc pc = .ok (.putfield 9, 3)) (kk : ∀ (H1 : Heap) (locs1 : List Loc), Wx X h1 H1 → Km h h1 → va_S (aA (eB X)) s.heap H1 locs1 → W p l e R s m args below meth c H1 locs1 cells slots Q (F0 m (pc + 3) ls rest)) : W p l e R s m args below meth c H locs cells slots Q (F0 m pc ls (.ref r :: .ref a :: rest)) :=
  y_putrF (ty := .array .int) C hW hZ ha i_X12 tyX12 tyX12_ok nmX12 (by decide) rfl rfl (by decide) m_1929 rfl hmn rfl (by decide +kernel) rfl rfl rfl hr rfl (by decide) eh hdg kk
end
theorem dX12_init_0 : decode cX12_init 0 = .ok (.aload_n 0, 1) := by decide +kernel
theorem dX12_init_1 : decode cX12_init 1 = .ok (.invokespecial 3, 3) := by decide +kernel
theorem dX12_init_4 : decode cX12_init 4 = .ok (.aload_n 0, 1) := by decide +kernel
theorem dX12_init_5 : decode cX12_init 5 = .ok (.bipush 64, 2) := by decide +kernel
theorem dX12_init_7 : decode cX12_init 7 = .ok (.newarray .int, 2) := by decide +kernel
theorem dX12_init_9 : decode cX12_init 9 = .ok (.putfield 9, 3) := by decide +kernel
theorem dX12_init_12 : decode cX12_init 12 = .ok (.aload_n 0, 1) := by decide +kernel
theorem dX12_init_13 : decode cX12_init 13 = .ok (.bipush 64, 2) := by decide +kernel
theorem dX12_init_15 : decode cX12_init 15 = .ok (.newarray .int, 2) := by decide +kernel
theorem dX12_init_17 : decode cX12_init 17 = .ok (.putfield 15, 3) := by decide +kernel
theorem dX12_init_20 : decode cX12_init 20 = .ok (.aload_n 0, 1) := by decide +kernel
theorem dX12_init_21 : decode cX12_init 21 = .ok (.bipush 24, 2) := by decide +kernel
theorem dX12_init_23 : decode cX12_init 23 = .ok (.newarray .int, 2) := by decide +kernel
theorem dX12_init_25 : decode cX12_init 25 = .ok (.putfield 18, 3) := by decide +kernel
theorem dX12_init_28 : decode cX12_init 28 = .ok (.aload_n 0, 1) := by decide +kernel
theorem dX12_init_29 : decode cX12_init 29 = .ok (.iconst 2, 1) := by decide +kernel
theorem dX12_init_30 : decode cX12_init 30 = .ok (.newarray .int, 2) := by decide +kernel
theorem dX12_init_32 : decode cX12_init 32 = .ok (.putfield 21, 3) := by decide +kernel
theorem dX12_init_35 : decode cX12_init 35 = .ok (.return_, 1) := by decide +kernel
def sX12_init_32 (h : Hp) (t0 : Nat) (t1 : Nat) : Option (Hp) := nm (wR h t1 6 (some t0)) fun h_1 => some h_1
def sX12_init_25 (h : Hp) (x0 : Nat) (t0 : Nat) (t1 : Nat) : Option (Hp) := nm (wR h t1 5 (some t0)) fun h_1 => nm (hS h_1) fun a_2 => nm (nC h_1 17 (2 : Int32).toNatClampNeg (2 : Int32).toNatClampNeg) fun h_3 => sX12_init_32  h_3 a_2 x0
def sX12_init_17 (h : Hp) (x0 : Nat) (t0 : Nat) (t1 : Nat) : Option (Hp) := nm (wR h t1 4 (some t0)) fun h_1 => nm (hS h_1) fun a_2 => nm (nC h_1 17 (24 : Int32).toNatClampNeg (24 : Int32).toNatClampNeg) fun h_3 => sX12_init_25  h_3 x0 a_2 x0
def sX12_init_9 (h : Hp) (x0 : Nat) (t0 : Nat) (t1 : Nat) : Option (Hp) := nm (wR h t1 0 (some t0)) fun h_1 => nm (hS h_1) fun a_2 => nm (nC h_1 17 (64 : Int32).toNatClampNeg (64 : Int32).toNatClampNeg) fun h_3 => sX12_init_17  h_3 x0 a_2 x0
def sX12_init (h : Hp) (x0 : Nat) : Option (Hp) := nm (hS h) fun a_1 => nm (nC h 17 (64 : Int32).toNatClampNeg (64 : Int32).toNatClampNeg) fun h_2 => sX12_init_9  h_2 x0 a_1 x0
theorem moX12_init_32 {o : Hp} {h : Hp} {t0 : Nat} {t1 : Nat} (hE : sX12_init_32 h  t0 t1 = some o) : Le h o := by
  obtain ⟨h_1, eh_1, hE⟩ := nm_e2 hE
  refine (le_R eh_1).tr ?_
  cases hE
  exact Le.rf _
theorem moX12_init_25 {o : Hp} {h : Hp} {x0 : Nat} {t0 : Nat} {t1 : Nat} (hE : sX12_init_25 h x0 t0 t1 = some o) : Le h o := by
  obtain ⟨h_1, eh_1, hE⟩ := nm_e2 hE
  refine (le_R eh_1).tr ?_
  obtain ⟨a_2, ea_2, hE⟩ := nm_e2 hE
  obtain ⟨h_3, eh_3, hE⟩ := nm_e2 hE
  refine (le_C eh_3).tr ?_
  exact moX12_init_32 hE
theorem moX12_init_17 {o : Hp} {h : Hp} {x0 : Nat} {t0 : Nat} {t1 : Nat} (hE : sX12_init_17 h x0 t0 t1 = some o) : Le h o := by
  obtain ⟨h_1, eh_1, hE⟩ := nm_e2 hE
  refine (le_R eh_1).tr ?_
  obtain ⟨a_2, ea_2, hE⟩ := nm_e2 hE
  obtain ⟨h_3, eh_3, hE⟩ := nm_e2 hE
  refine (le_C eh_3).tr ?_
  exact moX12_init_25 hE
theorem moX12_init_9 {o : Hp} {h : Hp} {x0 : Nat} {t0 : Nat} {t1 : Nat} (hE : sX12_init_9 h x0 t0 t1 = some o) : Le h o := by
  obtain ⟨h_1, eh_1, hE⟩ := nm_e2 hE
  refine (le_R eh_1).tr ?_
  obtain ⟨a_2, ea_2, hE⟩ := nm_e2 hE
  obtain ⟨h_3, eh_3, hE⟩ := nm_e2 hE
  refine (le_C eh_3).tr ?_
  exact moX12_init_17 hE
theorem moX12_init {o : Hp} {h : Hp} {x0 : Nat} (hE : sX12_init h x0 = some o) : Le h o := by
  obtain ⟨a_1, ea_1, hE⟩ := nm_e2 hE
  obtain ⟨h_2, eh_2, hE⟩ := nm_e2 hE
  refine (le_C eh_2).tr ?_
  exact moX12_init_9 hE
set_option maxRecDepth 20000 in
theorem bX12_init_32 {p : Program} {l : Launch} {e : Env} {s : State} {m : MethodId} {args : Array Value} {below : List Frame} {meth : Method} {c : Code} {X : Ec} {h0 : Hp} {o : Hp} (C : Cx X p s m args meth c RX12 cX12_init 1 none "<init>") {h : Hp} {t0 : Nat} {t1 : Nat} {H : Heap} {locs : List Loc} (k_t0 : hK h t0 = 17) (k_t1 : hK h t1 = 12) (hkl : Kl h0 h) (hW : Wx X h H) (hZ : va_S (aA (eB X)) s.heap H locs) (ls : Array Slot) (hl : lv_has ls 1 []) (hE : sX12_init_32 h  t0 t1 = some o) : W p l e (rmA 1 20 h0 o) s m args below meth c H locs (hS h - hS h0) (hL h - hL h0) (MQ below (QVA X h0 o) args s (hS o - hS h0) (hL o - hL h0) (aA (eB X))) (F0 m 32 ls [.ref t0, .ref t1]) := by
  obtain ⟨h_1, eh_1, hE⟩ := nm_e2 hE
  refine pf_X12_21 C hW hZ rfl k_t1 k_t0 eh_1 dX12_init_32 (fun _ _ hW km hZ => ?_)
  replace hkl := hkl.tr km.l
  refine x_wc km ?_
  exact x_vretA C rfl hW hZ hkl hE dX12_init_35
set_option maxRecDepth 20000 in
theorem bX12_init_25 {p : Program} {l : Launch} {e : Env} {s : State} {m : MethodId} {args : Array Value} {below : List Frame} {meth : Method} {c : Code} {X : Ec} {h0 : Hp} {o : Hp} (C : Cx X p s m args meth c RX12 cX12_init 1 none "<init>") {h : Hp} {x0 : Nat} {t0 : Nat} {t1 : Nat} {H : Heap} {locs : List Loc} (k_x0 : hK h x0 = 12) (k_t0 : hK h t0 = 17) (k_t1 : hK h t1 = 12) (hkl : Kl h0 h) (hW : Wx X h H) (hZ : va_S (aA (eB X)) s.heap H locs) (ls : Array Slot) (hl : lv_has ls 1 [(0, .ref x0)]) (hE : sX12_init_25 h x0 t0 t1 = some o) : W p l e (rmA 1 20 h0 o) s m args below meth c H locs (hS h - hS h0) (hL h - hL h0) (MQ below (QVA X h0 o) args s (hS o - hS h0) (hL o - hL h0) (aA (eB X))) (F0 m 25 ls [.ref t0, .ref t1]) := by
  obtain ⟨h_1, eh_1, hE⟩ := nm_e2 hE
  refine pf_X12_18 C hW hZ rfl k_t1 k_t0 eh_1 dX12_init_25 (fun _ _ hW km hZ => ?_)
  replace hkl := hkl.tr km.l
  refine x_wc km ?_
  replace k_x0 := km.at k_x0 (by decide)
  refine lv_aload_n C.1 C.2.1 dX12_init_28 rfl (lv_at hl 0 rfl) ?_
  refine lv_iconst (v := (2 : Int32)) C.1 C.2.1 dX12_init_29 (by decide) ?_
  obtain ⟨a_2, ea_2, hE⟩ := nm_e2 hE
  obtain ⟨h_3, eh_3, hE⟩ := nm_e2 hE
  refine y_newa (k := 17) (ty := .int) (t0 := 1) C hW hZ hkl (moX12_init_32 hE) ⟨rfl, rfl⟩ (by decide) (by decide) rfl rfl (by intro C hC; cases hC) hdef_17 m_54 (by decide) (by decide) eh_3 dX12_init_30 (fun _ hW km k_a_2 hZ => ?_)
  replace hkl := hkl.tr km
  refine x_nmA ea_2 ?_
  rw [← ea_2] at k_a_2
  replace k_x0 := km.at k_x0 (by decide)
  exact bX12_init_32 C k_a_2 k_x0 hkl hW hZ _ (lv_sub hl [] rfl) hE
set_option maxRecDepth 20000 in
theorem bX12_init_17 {p : Program} {l : Launch} {e : Env} {s : State} {m : MethodId} {args : Array Value} {below : List Frame} {meth : Method} {c : Code} {X : Ec} {h0 : Hp} {o : Hp} (C : Cx X p s m args meth c RX12 cX12_init 1 none "<init>") {h : Hp} {x0 : Nat} {t0 : Nat} {t1 : Nat} {H : Heap} {locs : List Loc} (k_x0 : hK h x0 = 12) (k_t0 : hK h t0 = 17) (k_t1 : hK h t1 = 12) (hkl : Kl h0 h) (hW : Wx X h H) (hZ : va_S (aA (eB X)) s.heap H locs) (ls : Array Slot) (hl : lv_has ls 1 [(0, .ref x0)]) (hE : sX12_init_17 h x0 t0 t1 = some o) : W p l e (rmA 1 20 h0 o) s m args below meth c H locs (hS h - hS h0) (hL h - hL h0) (MQ below (QVA X h0 o) args s (hS o - hS h0) (hL o - hL h0) (aA (eB X))) (F0 m 17 ls [.ref t0, .ref t1]) := by
  obtain ⟨h_1, eh_1, hE⟩ := nm_e2 hE
  refine pf_X12_15 C hW hZ rfl k_t1 k_t0 eh_1 dX12_init_17 (fun _ _ hW km hZ => ?_)
  replace hkl := hkl.tr km.l
  refine x_wc km ?_
  replace k_x0 := km.at k_x0 (by decide)
  refine lv_aload_n C.1 C.2.1 dX12_init_20 rfl (lv_at hl 0 rfl) ?_
  refine lv_bipush (v := (24 : Int32)) C.1 C.2.1 dX12_init_21 (by decide) ?_
  obtain ⟨a_2, ea_2, hE⟩ := nm_e2 hE
  obtain ⟨h_3, eh_3, hE⟩ := nm_e2 hE
  refine y_newa (k := 17) (ty := .int) (t0 := 1) C hW hZ hkl (moX12_init_25 hE) ⟨rfl, rfl⟩ (by decide) (by decide) rfl rfl (by intro C hC; cases hC) hdef_17 m_54 (by decide) (by decide) eh_3 dX12_init_23 (fun _ hW km k_a_2 hZ => ?_)
  replace hkl := hkl.tr km
  refine x_nmA ea_2 ?_
  rw [← ea_2] at k_a_2
  replace k_x0 := km.at k_x0 (by decide)
  exact bX12_init_25 C k_x0 k_a_2 k_x0 hkl hW hZ _ (lv_sub hl [0] rfl) hE
set_option maxRecDepth 20000 in
theorem bX12_init_9 {p : Program} {l : Launch} {e : Env} {s : State} {m : MethodId} {args : Array Value} {below : List Frame} {meth : Method} {c : Code} {X : Ec} {h0 : Hp} {o : Hp} (C : Cx X p s m args meth c RX12 cX12_init 1 none "<init>") {h : Hp} {x0 : Nat} {t0 : Nat} {t1 : Nat} {H : Heap} {locs : List Loc} (k_x0 : hK h x0 = 12) (k_t0 : hK h t0 = 17) (k_t1 : hK h t1 = 12) (hkl : Kl h0 h) (hW : Wx X h H) (hZ : va_S (aA (eB X)) s.heap H locs) (ls : Array Slot) (hl : lv_has ls 1 [(0, .ref x0)]) (hE : sX12_init_9 h x0 t0 t1 = some o) : W p l e (rmA 1 20 h0 o) s m args below meth c H locs (hS h - hS h0) (hL h - hL h0) (MQ below (QVA X h0 o) args s (hS o - hS h0) (hL o - hL h0) (aA (eB X))) (F0 m 9 ls [.ref t0, .ref t1]) := by
  obtain ⟨h_1, eh_1, hE⟩ := nm_e2 hE
  refine pf_X12_9 C hW hZ rfl k_t1 k_t0 eh_1 dX12_init_9 (fun _ _ hW km hZ => ?_)
  replace hkl := hkl.tr km.l
  refine x_wc km ?_
  replace k_x0 := km.at k_x0 (by decide)
  refine lv_aload_n C.1 C.2.1 dX12_init_12 rfl (lv_at hl 0 rfl) ?_
  refine lv_bipush (v := (64 : Int32)) C.1 C.2.1 dX12_init_13 (by decide) ?_
  obtain ⟨a_2, ea_2, hE⟩ := nm_e2 hE
  obtain ⟨h_3, eh_3, hE⟩ := nm_e2 hE
  refine y_newa (k := 17) (ty := .int) (t0 := 1) C hW hZ hkl (moX12_init_17 hE) ⟨rfl, rfl⟩ (by decide) (by decide) rfl rfl (by intro C hC; cases hC) hdef_17 m_54 (by decide) (by decide) eh_3 dX12_init_15 (fun _ hW km k_a_2 hZ => ?_)
  replace hkl := hkl.tr km
  refine x_nmA ea_2 ?_
  rw [← ea_2] at k_a_2
  replace k_x0 := km.at k_x0 (by decide)
  exact bX12_init_17 C k_x0 k_a_2 k_x0 hkl hW hZ _ (lv_sub hl [0] rfl) hE
set_option maxRecDepth 20000 in
theorem ct_X12_init (l : Launch) (X : Ec) {h : Hp} {x0 : Nat} {o : Hp} (k_x0 : hK h x0 = 12) (hE : sX12_init h x0 = some o) : MetVA l yX12_init cX12_init 1 none 1 20 X [.ref x0] h o := by
  refine x_metA (oh := o) (by decide) (Nat.le_of_ble_eq_true rfl) ?_
  intro p e s m below meth c ls C hl hW hZ
  have hl : lv_has ls 1 [(0, .ref x0)] := hl
  have hkl : Kl h h := Kl.rf h
  refine lv_aload_n C.1 C.2.1 dX12_init_0 rfl (lv_at hl 0 rfl) ?_
  refine W.objInit C.1 C.2.1 C.2.2.2.1 (C.2.2.2.2.1 _ m_1928) (C.2.2.2.2.1 _ m_32) (C.2.2.2.2.1 _ m_33) rfl (by rw [C.2.2.1]; exact hl.1) rfl dX12_init_1 (Nat.le_of_ble_eq_true rfl) (Nat.le_of_ble_eq_true rfl) ?_
  refine W.eq (g2 := F0 m 4 ls []) rfl ?_
  refine lv_aload_n C.1 C.2.1 dX12_init_4 rfl (lv_at hl 0 rfl) ?_
  refine lv_bipush (v := (64 : Int32)) C.1 C.2.1 dX12_init_5 (by decide) ?_
  obtain ⟨a_1, ea_1, hE⟩ := nm_e2 hE
  obtain ⟨h_2, eh_2, hE⟩ := nm_e2 hE
  refine y_newa (k := 17) (ty := .int) (t0 := 1) C hW hZ hkl (moX12_init_9 hE) ⟨rfl, rfl⟩ (by decide) (by decide) rfl rfl (by intro C hC; cases hC) hdef_17 m_54 (by decide) (by decide) eh_2 dX12_init_7 (fun _ hW km k_a_1 hZ => ?_)
  replace hkl := hkl.tr km
  refine x_nmA ea_1 ?_
  rw [← ea_1] at k_a_1
  replace k_x0 := km.at k_x0 (by decide)
  exact bX12_init_9 C k_x0 k_a_1 k_x0 hkl hW hZ _ (lv_sub hl [0] rfl) hE
theorem m_1967 : Cond.methodLink RX13 3 objectInit ∈ W0 := w0_in (List.mem_append_right _ (List.mem_of_getElem? (i := 1967) (by decide +kernel))) rfl
theorem m_1970 : Cond.fieldLink RX13 9 (TX13 1).1 (TX13 1).2.1 (TX13 1).2.2.1 ∈ W0 := w0_in (List.mem_append_right _ (List.mem_of_getElem? (i := 1970) (by decide +kernel))) rfl
theorem m_1972 : Cond.fieldLink RX13 15 (TX13 2).1 (TX13 2).2.1 (TX13 2).2.2.1 ∈ W0 := w0_in (List.mem_append_right _ (List.mem_of_getElem? (i := 1972) (by decide +kernel))) rfl
theorem m_1974 : Cond.fieldLink RX13 18 (TX13 3).1 (TX13 3).2.1 (TX13 3).2.2.1 ∈ W0 := w0_in (List.mem_append_right _ (List.mem_of_getElem? (i := 1974) (by decide +kernel))) rfl
theorem m_1976 : Cond.fieldLink RX13 21 (TX13 4).1 (TX13 4).2.1 (TX13 4).2.2.1 ∈ W0 := w0_in (List.mem_append_right _ (List.mem_of_getElem? (i := 1976) (by decide +kernel))) rfl
theorem m_1978 : Cond.fieldLink RX13 24 (TX13 5).1 (TX13 5).2.1 (TX13 5).2.2.1 ∈ W0 := w0_in (List.mem_append_right _ (List.mem_of_getElem? (i := 1978) (by decide +kernel))) rfl
theorem m_1980 : Cond.fieldLink RX13 27 (TX13 6).1 (TX13 6).2.1 (TX13 6).2.2.1 ∈ W0 := w0_in (List.mem_append_right _ (List.mem_of_getElem? (i := 1980) (by decide +kernel))) rfl
theorem m_1982 : Cond.fieldLink RX13 30 (TX13 7).1 (TX13 7).2.1 (TX13 7).2.2.1 ∈ W0 := w0_in (List.mem_append_right _ (List.mem_of_getElem? (i := 1982) (by decide +kernel))) rfl
theorem i_X13 : ∀ w ∈ u_ws RX13 TX13 8, w ∈ W0 := by
  intro w hw
  exact w0_in (List.mem_append_right _ ((by decide +kernel : ∀ w ∈ u_ws RX13 TX13 8, w ∈ tables_1) w hw)) ((by decide +kernel : ∀ w ∈ u_ws RX13 TX13 8, goodWord w = true) w hw)
section
variable {p : Program} {l : Launch} {e : Env} {R : Room} {s : State} {m : MethodId} {args : Array Value} {below : List Frame} {meth : Method} {c : Code} {H : Heap} {locs : List Loc} {cells slots : Nat} {Q : State → Prop}
variable {cc : ByteArray} {pc : Nat} {ls : Array Slot} {rest : List Value} {X : Ec} {h h1 : Hp} {nL : Nat} {rt : Option FieldType} {mn : String}
theorem pf_X13_30 {a r : Nat} (C : Cx X p s m args meth c RX13 cc nL rt mn) (hW : Wx X h H) (hZ : va_S (aA (eB X)) s.heap H locs) (hmn : mn = "<init>") (ha : hK h a = 13) (hr : hK h r = 17) (eh : h1 = wR h a 7 (some r)) (hdg : decode cc pc = .ok (.putfield 30, 3)) (kk : ∀ (H1 : Heap) (locs1 : List Loc), Wx X h1 H1 → Km h h1 → va_S (aA (eB X)) s.heap H1 locs1 → W p l e R s m args below meth c H1 locs1 cells slots Q (F0 m (pc + 3) ls rest)) : W p l e R s m args below meth c H locs cells slots Q (F0 m pc ls (.ref r :: .ref a :: rest)) :=
  y_putrF (ty := .array .int) C hW hZ ha i_X13 tyX13 tyX13_ok nmX13 (by decide) rfl rfl (by decide) m_1982 rfl hmn rfl (by decide +kernel) rfl rfl rfl hr rfl (by decide) eh hdg kk
theorem pf_X13_27 {a r : Nat} (C : Cx X p s m args meth c RX13 cc nL rt mn) (hW : Wx X h H) (hZ : va_S (aA (eB X)) s.heap H locs) (hmn : mn = "<init>") (ha : hK h a = 13) (hr : hK h r = 17) (eh : h1 = wR h a 6 (some r)) (hdg : decode cc pc = .ok (.putfield 27, 3)) (kk : ∀ (H1 : Heap) (locs1 : List Loc), Wx X h1 H1 → Km h h1 → va_S (aA (eB X)) s.heap H1 locs1 → W p l e R s m args below meth c H1 locs1 cells slots Q (F0 m (pc + 3) ls rest)) : W p l e R s m args below meth c H locs cells slots Q (F0 m pc ls (.ref r :: .ref a :: rest)) :=
  y_putrF (ty := .array .int) C hW hZ ha i_X13 tyX13 tyX13_ok nmX13 (by decide) rfl rfl (by decide) m_1980 rfl hmn rfl (by decide +kernel) rfl rfl rfl hr rfl (by decide) eh hdg kk
theorem pf_X13_24 {a r : Nat} (C : Cx X p s m args meth c RX13 cc nL rt mn) (hW : Wx X h H) (hZ : va_S (aA (eB X)) s.heap H locs) (hmn : mn = "<init>") (ha : hK h a = 13) (hr : hK h r = 17) (eh : h1 = wR h a 5 (some r)) (hdg : decode cc pc = .ok (.putfield 24, 3)) (kk : ∀ (H1 : Heap) (locs1 : List Loc), Wx X h1 H1 → Km h h1 → va_S (aA (eB X)) s.heap H1 locs1 → W p l e R s m args below meth c H1 locs1 cells slots Q (F0 m (pc + 3) ls rest)) : W p l e R s m args below meth c H locs cells slots Q (F0 m pc ls (.ref r :: .ref a :: rest)) :=
  y_putrF (ty := .array .int) C hW hZ ha i_X13 tyX13 tyX13_ok nmX13 (by decide) rfl rfl (by decide) m_1978 rfl hmn rfl (by decide +kernel) rfl rfl rfl hr rfl (by decide) eh hdg kk
theorem pf_X13_21 {a r : Nat} (C : Cx X p s m args meth c RX13 cc nL rt mn) (hW : Wx X h H) (hZ : va_S (aA (eB X)) s.heap H locs) (hmn : mn = "<init>") (ha : hK h a = 13) (hr : hK h r = 17) (eh : h1 = wR h a 4 (some r)) (hdg : decode cc pc = .ok (.putfield 21, 3)) (kk : ∀ (H1 : Heap) (locs1 : List Loc), Wx X h1 H1 → Km h h1 → va_S (aA (eB X)) s.heap H1 locs1 → W p l e R s m args below meth c H1 locs1 cells slots Q (F0 m (pc + 3) ls rest)) : W p l e R s m args below meth c H locs cells slots Q (F0 m pc ls (.ref r :: .ref a :: rest)) :=
  y_putrF (ty := .array .int) C hW hZ ha i_X13 tyX13 tyX13_ok nmX13 (by decide) rfl rfl (by decide) m_1976 rfl hmn rfl (by decide +kernel) rfl rfl rfl hr rfl (by decide) eh hdg kk
theorem pf_X13_18 {a r : Nat} (C : Cx X p s m args meth c RX13 cc nL rt mn) (hW : Wx X h H) (hZ : va_S (aA (eB X)) s.heap H locs) (hmn : mn = "<init>") (ha : hK h a = 13) (hr : hK h r = 17) (eh : h1 = wR h a 3 (some r)) (hdg : decode cc pc = .ok (.putfield 18, 3)) (kk : ∀ (H1 : Heap) (locs1 : List Loc), Wx X h1 H1 → Km h h1 → va_S (aA (eB X)) s.heap H1 locs1 → W p l e R s m args below meth c H1 locs1 cells slots Q (F0 m (pc + 3) ls rest)) : W p l e R s m args below meth c H locs cells slots Q (F0 m pc ls (.ref r :: .ref a :: rest)) :=
  y_putrF (ty := .array .int) C hW hZ ha i_X13 tyX13 tyX13_ok nmX13 (by decide) rfl rfl (by decide) m_1974 rfl hmn rfl (by decide +kernel) rfl rfl rfl hr rfl (by decide) eh hdg kk
theorem pf_X13_15 {a r : Nat} (C : Cx X p s m args meth c RX13 cc nL rt mn) (hW : Wx X h H) (hZ : va_S (aA (eB X)) s.heap H locs) (hmn : mn = "<init>") (ha : hK h a = 13) (hr : hK h r = 17) (eh : h1 = wR h a 2 (some r)) (hdg : decode cc pc = .ok (.putfield 15, 3)) (kk : ∀ (H1 : Heap) (locs1 : List Loc), Wx X h1 H1 → Km h h1 → va_S (aA (eB X)) s.heap H1 locs1 → W p l e R s m args below meth c H1 locs1 cells slots Q (F0 m (pc + 3) ls rest)) : W p l e R s m args below meth c H locs cells slots Q (F0 m pc ls (.ref r :: .ref a :: rest)) :=
  y_putrF (ty := .array .int) C hW hZ ha i_X13 tyX13 tyX13_ok nmX13 (by decide) rfl rfl (by decide) m_1972 rfl hmn rfl (by decide +kernel) rfl rfl rfl hr rfl (by decide) eh hdg kk
theorem pf_X13_9 {a r : Nat} (C : Cx X p s m args meth c RX13 cc nL rt mn) (hW : Wx X h H) (hZ : va_S (aA (eB X)) s.heap H locs) (hmn : mn = "<init>") (ha : hK h a = 13) (hr : hK h r = 17) (eh : h1 = wR h a 1 (some r)) (hdg : decode cc pc = .ok (.putfield 9, 3)) (kk : ∀ (H1 : Heap) (locs1 : List Loc), Wx X h1 H1 → Km h h1 → va_S (aA (eB X)) s.heap H1 locs1 → W p l e R s m args below meth c H1 locs1 cells slots Q (F0 m (pc + 3) ls rest)) : W p l e R s m args below meth c H locs cells slots Q (F0 m pc ls (.ref r :: .ref a :: rest)) :=
  y_putrF (ty := .array .int) C hW hZ ha i_X13 tyX13 tyX13_ok nmX13 (by decide) rfl rfl (by decide) m_1970 rfl hmn rfl (by decide +kernel) rfl rfl rfl hr rfl (by decide) eh hdg kk
end
theorem dX13_init_0 : decode cX13_init 0 = .ok (.aload_n 0, 1) := by decide +kernel
theorem dX13_init_1 : decode cX13_init 1 = .ok (.invokespecial 3, 3) := by decide +kernel
theorem dX13_init_4 : decode cX13_init 4 = .ok (.aload_n 0, 1) := by decide +kernel
theorem dX13_init_5 : decode cX13_init 5 = .ok (.sipush 3000, 3) := by decide +kernel
theorem dX13_init_8 : decode cX13_init 8 = .ok (.newarray .int, 2) := by decide +kernel
theorem dX13_init_10 : decode cX13_init 10 = .ok (.putfield 9, 3) := by decide +kernel
theorem dX13_init_13 : decode cX13_init 13 = .ok (.aload_n 0, 1) := by decide +kernel
theorem dX13_init_14 : decode cX13_init 14 = .ok (.sipush 3000, 3) := by decide +kernel
theorem dX13_init_17 : decode cX13_init 17 = .ok (.newarray .int, 2) := by decide +kernel
theorem dX13_init_19 : decode cX13_init 19 = .ok (.putfield 15, 3) := by decide +kernel
theorem dX13_init_22 : decode cX13_init 22 = .ok (.aload_n 0, 1) := by decide +kernel
theorem dX13_init_23 : decode cX13_init 23 = .ok (.sipush 3000, 3) := by decide +kernel
theorem dX13_init_26 : decode cX13_init 26 = .ok (.newarray .int, 2) := by decide +kernel
theorem dX13_init_28 : decode cX13_init 28 = .ok (.putfield 18, 3) := by decide +kernel
theorem dX13_init_31 : decode cX13_init 31 = .ok (.aload_n 0, 1) := by decide +kernel
theorem dX13_init_32 : decode cX13_init 32 = .ok (.sipush 3000, 3) := by decide +kernel
theorem dX13_init_35 : decode cX13_init 35 = .ok (.newarray .int, 2) := by decide +kernel
theorem dX13_init_37 : decode cX13_init 37 = .ok (.putfield 21, 3) := by decide +kernel
theorem dX13_init_40 : decode cX13_init 40 = .ok (.aload_n 0, 1) := by decide +kernel
theorem dX13_init_41 : decode cX13_init 41 = .ok (.sipush 3000, 3) := by decide +kernel
theorem dX13_init_44 : decode cX13_init 44 = .ok (.newarray .int, 2) := by decide +kernel
theorem dX13_init_46 : decode cX13_init 46 = .ok (.putfield 24, 3) := by decide +kernel
theorem dX13_init_49 : decode cX13_init 49 = .ok (.aload_n 0, 1) := by decide +kernel
theorem dX13_init_50 : decode cX13_init 50 = .ok (.sipush 3000, 3) := by decide +kernel
theorem dX13_init_53 : decode cX13_init 53 = .ok (.newarray .int, 2) := by decide +kernel
theorem dX13_init_55 : decode cX13_init 55 = .ok (.putfield 27, 3) := by decide +kernel
theorem dX13_init_58 : decode cX13_init 58 = .ok (.aload_n 0, 1) := by decide +kernel
theorem dX13_init_59 : decode cX13_init 59 = .ok (.sipush 3000, 3) := by decide +kernel
theorem dX13_init_62 : decode cX13_init 62 = .ok (.newarray .int, 2) := by decide +kernel
theorem dX13_init_64 : decode cX13_init 64 = .ok (.putfield 30, 3) := by decide +kernel
theorem dX13_init_67 : decode cX13_init 67 = .ok (.return_, 1) := by decide +kernel
def sX13_init_64 (h : Hp) (t0 : Nat) (t1 : Nat) : Option (Hp) := nm (wR h t1 7 (some t0)) fun h_1 => some h_1
def sX13_init_55 (h : Hp) (x0 : Nat) (t0 : Nat) (t1 : Nat) : Option (Hp) := nm (wR h t1 6 (some t0)) fun h_1 => nm (hS h_1) fun a_2 => nm (nC h_1 17 (3000 : Int32).toNatClampNeg (3000 : Int32).toNatClampNeg) fun h_3 => sX13_init_64  h_3 a_2 x0
def sX13_init_46 (h : Hp) (x0 : Nat) (t0 : Nat) (t1 : Nat) : Option (Hp) := nm (wR h t1 5 (some t0)) fun h_1 => nm (hS h_1) fun a_2 => nm (nC h_1 17 (3000 : Int32).toNatClampNeg (3000 : Int32).toNatClampNeg) fun h_3 => sX13_init_55  h_3 x0 a_2 x0
def sX13_init_37 (h : Hp) (x0 : Nat) (t0 : Nat) (t1 : Nat) : Option (Hp) := nm (wR h t1 4 (some t0)) fun h_1 => nm (hS h_1) fun a_2 => nm (nC h_1 17 (3000 : Int32).toNatClampNeg (3000 : Int32).toNatClampNeg) fun h_3 => sX13_init_46  h_3 x0 a_2 x0
def sX13_init_28 (h : Hp) (x0 : Nat) (t0 : Nat) (t1 : Nat) : Option (Hp) := nm (wR h t1 3 (some t0)) fun h_1 => nm (hS h_1) fun a_2 => nm (nC h_1 17 (3000 : Int32).toNatClampNeg (3000 : Int32).toNatClampNeg) fun h_3 => sX13_init_37  h_3 x0 a_2 x0
def sX13_init_19 (h : Hp) (x0 : Nat) (t0 : Nat) (t1 : Nat) : Option (Hp) := nm (wR h t1 2 (some t0)) fun h_1 => nm (hS h_1) fun a_2 => nm (nC h_1 17 (3000 : Int32).toNatClampNeg (3000 : Int32).toNatClampNeg) fun h_3 => sX13_init_28  h_3 x0 a_2 x0
def sX13_init_10 (h : Hp) (x0 : Nat) (t0 : Nat) (t1 : Nat) : Option (Hp) := nm (wR h t1 1 (some t0)) fun h_1 => nm (hS h_1) fun a_2 => nm (nC h_1 17 (3000 : Int32).toNatClampNeg (3000 : Int32).toNatClampNeg) fun h_3 => sX13_init_19  h_3 x0 a_2 x0
def sX13_init (h : Hp) (x0 : Nat) : Option (Hp) := nm (hS h) fun a_1 => nm (nC h 17 (3000 : Int32).toNatClampNeg (3000 : Int32).toNatClampNeg) fun h_2 => sX13_init_10  h_2 x0 a_1 x0
theorem moX13_init_64 {o : Hp} {h : Hp} {t0 : Nat} {t1 : Nat} (hE : sX13_init_64 h  t0 t1 = some o) : Le h o := by
  obtain ⟨h_1, eh_1, hE⟩ := nm_e2 hE
  refine (le_R eh_1).tr ?_
  cases hE
  exact Le.rf _
theorem moX13_init_55 {o : Hp} {h : Hp} {x0 : Nat} {t0 : Nat} {t1 : Nat} (hE : sX13_init_55 h x0 t0 t1 = some o) : Le h o := by
  obtain ⟨h_1, eh_1, hE⟩ := nm_e2 hE
  refine (le_R eh_1).tr ?_
  obtain ⟨a_2, ea_2, hE⟩ := nm_e2 hE
  obtain ⟨h_3, eh_3, hE⟩ := nm_e2 hE
  refine (le_C eh_3).tr ?_
  exact moX13_init_64 hE
theorem moX13_init_46 {o : Hp} {h : Hp} {x0 : Nat} {t0 : Nat} {t1 : Nat} (hE : sX13_init_46 h x0 t0 t1 = some o) : Le h o := by
  obtain ⟨h_1, eh_1, hE⟩ := nm_e2 hE
  refine (le_R eh_1).tr ?_
  obtain ⟨a_2, ea_2, hE⟩ := nm_e2 hE
  obtain ⟨h_3, eh_3, hE⟩ := nm_e2 hE
  refine (le_C eh_3).tr ?_
  exact moX13_init_55 hE
theorem moX13_init_37 {o : Hp} {h : Hp} {x0 : Nat} {t0 : Nat} {t1 : Nat} (hE : sX13_init_37 h x0 t0 t1 = some o) : Le h o := by
  obtain ⟨h_1, eh_1, hE⟩ := nm_e2 hE
  refine (le_R eh_1).tr ?_
  obtain ⟨a_2, ea_2, hE⟩ := nm_e2 hE
  obtain ⟨h_3, eh_3, hE⟩ := nm_e2 hE
  refine (le_C eh_3).tr ?_
  exact moX13_init_46 hE
theorem moX13_init_28 {o : Hp} {h : Hp} {x0 : Nat} {t0 : Nat} {t1 : Nat} (hE : sX13_init_28 h x0 t0 t1 = some o) : Le h o := by
  obtain ⟨h_1, eh_1, hE⟩ := nm_e2 hE
  refine (le_R eh_1).tr ?_
  obtain ⟨a_2, ea_2, hE⟩ := nm_e2 hE
  obtain ⟨h_3, eh_3, hE⟩ := nm_e2 hE
  refine (le_C eh_3).tr ?_
  exact moX13_init_37 hE
theorem moX13_init_19 {o : Hp} {h : Hp} {x0 : Nat} {t0 : Nat} {t1 : Nat} (hE : sX13_init_19 h x0 t0 t1 = some o) : Le h o := by
  obtain ⟨h_1, eh_1, hE⟩ := nm_e2 hE
  refine (le_R eh_1).tr ?_
  obtain ⟨a_2, ea_2, hE⟩ := nm_e2 hE
  obtain ⟨h_3, eh_3, hE⟩ := nm_e2 hE
  refine (le_C eh_3).tr ?_
  exact moX13_init_28 hE
theorem moX13_init_10 {o : Hp} {h : Hp} {x0 : Nat} {t0 : Nat} {t1 : Nat} (hE : sX13_init_10 h x0 t0 t1 = some o) : Le h o := by
  obtain ⟨h_1, eh_1, hE⟩ := nm_e2 hE
  refine (le_R eh_1).tr ?_
  obtain ⟨a_2, ea_2, hE⟩ := nm_e2 hE
  obtain ⟨h_3, eh_3, hE⟩ := nm_e2 hE
  refine (le_C eh_3).tr ?_
  exact moX13_init_19 hE
theorem moX13_init {o : Hp} {h : Hp} {x0 : Nat} (hE : sX13_init h x0 = some o) : Le h o := by
  obtain ⟨a_1, ea_1, hE⟩ := nm_e2 hE
  obtain ⟨h_2, eh_2, hE⟩ := nm_e2 hE
  refine (le_C eh_2).tr ?_
  exact moX13_init_10 hE
set_option maxRecDepth 20000 in
theorem bX13_init_64 {p : Program} {l : Launch} {e : Env} {s : State} {m : MethodId} {args : Array Value} {below : List Frame} {meth : Method} {c : Code} {X : Ec} {h0 : Hp} {o : Hp} (C : Cx X p s m args meth c RX13 cX13_init 1 none "<init>") {h : Hp} {t0 : Nat} {t1 : Nat} {H : Heap} {locs : List Loc} (k_t0 : hK h t0 = 17) (k_t1 : hK h t1 = 13) (hkl : Kl h0 h) (hW : Wx X h H) (hZ : va_S (aA (eB X)) s.heap H locs) (ls : Array Slot) (hl : lv_has ls 1 []) (hE : sX13_init_64 h  t0 t1 = some o) : W p l e (rmA 1 20 h0 o) s m args below meth c H locs (hS h - hS h0) (hL h - hL h0) (MQ below (QVA X h0 o) args s (hS o - hS h0) (hL o - hL h0) (aA (eB X))) (F0 m 64 ls [.ref t0, .ref t1]) := by
  obtain ⟨h_1, eh_1, hE⟩ := nm_e2 hE
  refine pf_X13_30 C hW hZ rfl k_t1 k_t0 eh_1 dX13_init_64 (fun _ _ hW km hZ => ?_)
  replace hkl := hkl.tr km.l
  refine x_wc km ?_
  exact x_vretA C rfl hW hZ hkl hE dX13_init_67
set_option maxRecDepth 20000 in
theorem bX13_init_55 {p : Program} {l : Launch} {e : Env} {s : State} {m : MethodId} {args : Array Value} {below : List Frame} {meth : Method} {c : Code} {X : Ec} {h0 : Hp} {o : Hp} (C : Cx X p s m args meth c RX13 cX13_init 1 none "<init>") {h : Hp} {x0 : Nat} {t0 : Nat} {t1 : Nat} {H : Heap} {locs : List Loc} (k_x0 : hK h x0 = 13) (k_t0 : hK h t0 = 17) (k_t1 : hK h t1 = 13) (hkl : Kl h0 h) (hW : Wx X h H) (hZ : va_S (aA (eB X)) s.heap H locs) (ls : Array Slot) (hl : lv_has ls 1 [(0, .ref x0)]) (hE : sX13_init_55 h x0 t0 t1 = some o) : W p l e (rmA 1 20 h0 o) s m args below meth c H locs (hS h - hS h0) (hL h - hL h0) (MQ below (QVA X h0 o) args s (hS o - hS h0) (hL o - hL h0) (aA (eB X))) (F0 m 55 ls [.ref t0, .ref t1]) := by
  obtain ⟨h_1, eh_1, hE⟩ := nm_e2 hE
  refine pf_X13_27 C hW hZ rfl k_t1 k_t0 eh_1 dX13_init_55 (fun _ _ hW km hZ => ?_)
  replace hkl := hkl.tr km.l
  refine x_wc km ?_
  replace k_x0 := km.at k_x0 (by decide)
  refine lv_aload_n C.1 C.2.1 dX13_init_58 rfl (lv_at hl 0 rfl) ?_
  refine lv_sipush (v := (3000 : Int32)) C.1 C.2.1 dX13_init_59 (by decide) ?_
  obtain ⟨a_2, ea_2, hE⟩ := nm_e2 hE
  obtain ⟨h_3, eh_3, hE⟩ := nm_e2 hE
  refine y_newa (k := 17) (ty := .int) (t0 := 1) C hW hZ hkl (moX13_init_64 hE) ⟨rfl, rfl⟩ (by decide) (by decide) rfl rfl (by intro C hC; cases hC) hdef_17 m_54 (by decide) (by decide) eh_3 dX13_init_62 (fun _ hW km k_a_2 hZ => ?_)
  replace hkl := hkl.tr km
  refine x_nmA ea_2 ?_
  rw [← ea_2] at k_a_2
  replace k_x0 := km.at k_x0 (by decide)
  exact bX13_init_64 C k_a_2 k_x0 hkl hW hZ _ (lv_sub hl [] rfl) hE
set_option maxRecDepth 20000 in
theorem bX13_init_46 {p : Program} {l : Launch} {e : Env} {s : State} {m : MethodId} {args : Array Value} {below : List Frame} {meth : Method} {c : Code} {X : Ec} {h0 : Hp} {o : Hp} (C : Cx X p s m args meth c RX13 cX13_init 1 none "<init>") {h : Hp} {x0 : Nat} {t0 : Nat} {t1 : Nat} {H : Heap} {locs : List Loc} (k_x0 : hK h x0 = 13) (k_t0 : hK h t0 = 17) (k_t1 : hK h t1 = 13) (hkl : Kl h0 h) (hW : Wx X h H) (hZ : va_S (aA (eB X)) s.heap H locs) (ls : Array Slot) (hl : lv_has ls 1 [(0, .ref x0)]) (hE : sX13_init_46 h x0 t0 t1 = some o) : W p l e (rmA 1 20 h0 o) s m args below meth c H locs (hS h - hS h0) (hL h - hL h0) (MQ below (QVA X h0 o) args s (hS o - hS h0) (hL o - hL h0) (aA (eB X))) (F0 m 46 ls [.ref t0, .ref t1]) := by
  obtain ⟨h_1, eh_1, hE⟩ := nm_e2 hE
  refine pf_X13_24 C hW hZ rfl k_t1 k_t0 eh_1 dX13_init_46 (fun _ _ hW km hZ => ?_)
  replace hkl := hkl.tr km.l
  refine x_wc km ?_
  replace k_x0 := km.at k_x0 (by decide)
  refine lv_aload_n C.1 C.2.1 dX13_init_49 rfl (lv_at hl 0 rfl) ?_
  refine lv_sipush (v := (3000 : Int32)) C.1 C.2.1 dX13_init_50 (by decide) ?_
  obtain ⟨a_2, ea_2, hE⟩ := nm_e2 hE
  obtain ⟨h_3, eh_3, hE⟩ := nm_e2 hE
  refine y_newa (k := 17) (ty := .int) (t0 := 1) C hW hZ hkl (moX13_init_55 hE) ⟨rfl, rfl⟩ (by decide) (by decide) rfl rfl (by intro C hC; cases hC) hdef_17 m_54 (by decide) (by decide) eh_3 dX13_init_53 (fun _ hW km k_a_2 hZ => ?_)
  replace hkl := hkl.tr km
  refine x_nmA ea_2 ?_
  rw [← ea_2] at k_a_2
  replace k_x0 := km.at k_x0 (by decide)
  exact bX13_init_55 C k_x0 k_a_2 k_x0 hkl hW hZ _ (lv_sub hl [0] rfl) hE
set_option maxRecDepth 20000 in
theorem bX13_init_37 {p : Program} {l : Launch} {e : Env} {s : State} {m : MethodId} {args : Array Value} {below : List Frame} {meth : Method} {c : Code} {X : Ec} {h0 : Hp} {o : Hp} (C : Cx X p s m args meth c RX13 cX13_init 1 none "<init>") {h : Hp} {x0 : Nat} {t0 : Nat} {t1 : Nat} {H : Heap} {locs : List Loc} (k_x0 : hK h x0 = 13) (k_t0 : hK h t0 = 17) (k_t1 : hK h t1 = 13) (hkl : Kl h0 h) (hW : Wx X h H) (hZ : va_S (aA (eB X)) s.heap H locs) (ls : Array Slot) (hl : lv_has ls 1 [(0, .ref x0)]) (hE : sX13_init_37 h x0 t0 t1 = some o) : W p l e (rmA 1 20 h0 o) s m args below meth c H locs (hS h - hS h0) (hL h - hL h0) (MQ below (QVA X h0 o) args s (hS o - hS h0) (hL o - hL h0) (aA (eB X))) (F0 m 37 ls [.ref t0, .ref t1]) := by
  obtain ⟨h_1, eh_1, hE⟩ := nm_e2 hE
  refine pf_X13_21 C hW hZ rfl k_t1 k_t0 eh_1 dX13_init_37 (fun _ _ hW km hZ => ?_)
  replace hkl := hkl.tr km.l
  refine x_wc km ?_
  replace k_x0 := km.at k_x0 (by decide)
  refine lv_aload_n C.1 C.2.1 dX13_init_40 rfl (lv_at hl 0 rfl) ?_
  refine lv_sipush (v := (3000 : Int32)) C.1 C.2.1 dX13_init_41 (by decide) ?_
  obtain ⟨a_2, ea_2, hE⟩ := nm_e2 hE
  obtain ⟨h_3, eh_3, hE⟩ := nm_e2 hE
  refine y_newa (k := 17) (ty := .int) (t0 := 1) C hW hZ hkl (moX13_init_46 hE) ⟨rfl, rfl⟩ (by decide) (by decide) rfl rfl (by intro C hC; cases hC) hdef_17 m_54 (by decide) (by decide) eh_3 dX13_init_44 (fun _ hW km k_a_2 hZ => ?_)
  replace hkl := hkl.tr km
  refine x_nmA ea_2 ?_
  rw [← ea_2] at k_a_2
  replace k_x0 := km.at k_x0 (by decide)
  exact bX13_init_46 C k_x0 k_a_2 k_x0 hkl hW hZ _ (lv_sub hl [0] rfl) hE
set_option maxRecDepth 20000 in
theorem bX13_init_28 {p : Program} {l : Launch} {e : Env} {s : State} {m : MethodId} {args : Array Value} {below : List Frame} {meth : Method} {c : Code} {X : Ec} {h0 : Hp} {o : Hp} (C : Cx X p s m args meth c RX13 cX13_init 1 none "<init>") {h : Hp} {x0 : Nat} {t0 : Nat} {t1 : Nat} {H : Heap} {locs : List Loc} (k_x0 : hK h x0 = 13) (k_t0 : hK h t0 = 17) (k_t1 : hK h t1 = 13) (hkl : Kl h0 h) (hW : Wx X h H) (hZ : va_S (aA (eB X)) s.heap H locs) (ls : Array Slot) (hl : lv_has ls 1 [(0, .ref x0)]) (hE : sX13_init_28 h x0 t0 t1 = some o) : W p l e (rmA 1 20 h0 o) s m args below meth c H locs (hS h - hS h0) (hL h - hL h0) (MQ below (QVA X h0 o) args s (hS o - hS h0) (hL o - hL h0) (aA (eB X))) (F0 m 28 ls [.ref t0, .ref t1]) := by
  obtain ⟨h_1, eh_1, hE⟩ := nm_e2 hE
  refine pf_X13_18 C hW hZ rfl k_t1 k_t0 eh_1 dX13_init_28 (fun _ _ hW km hZ => ?_)
  replace hkl := hkl.tr km.l
  refine x_wc km ?_
  replace k_x0 := km.at k_x0 (by decide)
  refine lv_aload_n C.1 C.2.1 dX13_init_31 rfl (lv_at hl 0 rfl) ?_
  refine lv_sipush (v := (3000 : Int32)) C.1 C.2.1 dX13_init_32 (by decide) ?_
  obtain ⟨a_2, ea_2, hE⟩ := nm_e2 hE
  obtain ⟨h_3, eh_3, hE⟩ := nm_e2 hE
  refine y_newa (k := 17) (ty := .int) (t0 := 1) C hW hZ hkl (moX13_init_37 hE) ⟨rfl, rfl⟩ (by decide) (by decide) rfl rfl (by intro C hC; cases hC) hdef_17 m_54 (by decide) (by decide) eh_3 dX13_init_35 (fun _ hW km k_a_2 hZ => ?_)
  replace hkl := hkl.tr km
  refine x_nmA ea_2 ?_
  rw [← ea_2] at k_a_2
  replace k_x0 := km.at k_x0 (by decide)
  exact bX13_init_37 C k_x0 k_a_2 k_x0 hkl hW hZ _ (lv_sub hl [0] rfl) hE
set_option maxRecDepth 20000 in
theorem bX13_init_19 {p : Program} {l : Launch} {e : Env} {s : State} {m : MethodId} {args : Array Value} {below : List Frame} {meth : Method} {c : Code} {X : Ec} {h0 : Hp} {o : Hp} (C : Cx X p s m args meth c RX13 cX13_init 1 none "<init>") {h : Hp} {x0 : Nat} {t0 : Nat} {t1 : Nat} {H : Heap} {locs : List Loc} (k_x0 : hK h x0 = 13) (k_t0 : hK h t0 = 17) (k_t1 : hK h t1 = 13) (hkl : Kl h0 h) (hW : Wx X h H) (hZ : va_S (aA (eB X)) s.heap H locs) (ls : Array Slot) (hl : lv_has ls 1 [(0, .ref x0)]) (hE : sX13_init_19 h x0 t0 t1 = some o) : W p l e (rmA 1 20 h0 o) s m args below meth c H locs (hS h - hS h0) (hL h - hL h0) (MQ below (QVA X h0 o) args s (hS o - hS h0) (hL o - hL h0) (aA (eB X))) (F0 m 19 ls [.ref t0, .ref t1]) := by
  obtain ⟨h_1, eh_1, hE⟩ := nm_e2 hE
  refine pf_X13_15 C hW hZ rfl k_t1 k_t0 eh_1 dX13_init_19 (fun _ _ hW km hZ => ?_)
  replace hkl := hkl.tr km.l
  refine x_wc km ?_
  replace k_x0 := km.at k_x0 (by decide)
  refine lv_aload_n C.1 C.2.1 dX13_init_22 rfl (lv_at hl 0 rfl) ?_
  refine lv_sipush (v := (3000 : Int32)) C.1 C.2.1 dX13_init_23 (by decide) ?_
  obtain ⟨a_2, ea_2, hE⟩ := nm_e2 hE
  obtain ⟨h_3, eh_3, hE⟩ := nm_e2 hE
  refine y_newa (k := 17) (ty := .int) (t0 := 1) C hW hZ hkl (moX13_init_28 hE) ⟨rfl, rfl⟩ (by decide) (by decide) rfl rfl (by intro C hC; cases hC) hdef_17 m_54 (by decide) (by decide) eh_3 dX13_init_26 (fun _ hW km k_a_2 hZ => ?_)
  replace hkl := hkl.tr km
  refine x_nmA ea_2 ?_
  rw [← ea_2] at k_a_2
  replace k_x0 := km.at k_x0 (by decide)
  exact bX13_init_28 C k_x0 k_a_2 k_x0 hkl hW hZ _ (lv_sub hl [0] rfl) hE
set_option maxRecDepth 20000 in
theorem bX13_init_10 {p : Program} {l : Launch} {e : Env} {s : State} {m : MethodId} {args : Array Value} {below : List Frame} {meth : Method} {c : Code} {X : Ec} {h0 : Hp} {o : Hp} (C : Cx X p s m args meth c RX13 cX13_init 1 none "<init>") {h : Hp} {x0 : Nat} {t0 : Nat} {t1 : Nat} {H : Heap} {locs : List Loc} (k_x0 : hK h x0 = 13) (k_t0 : hK h t0 = 17) (k_t1 : hK h t1 = 13) (hkl : Kl h0 h) (hW : Wx X h H) (hZ : va_S (aA (eB X)) s.heap H locs) (ls : Array Slot) (hl : lv_has ls 1 [(0, .ref x0)]) (hE : sX13_init_10 h x0 t0 t1 = some o) : W p l e (rmA 1 20 h0 o) s m args below meth c H locs (hS h - hS h0) (hL h - hL h0) (MQ below (QVA X h0 o) args s (hS o - hS h0) (hL o - hL h0) (aA (eB X))) (F0 m 10 ls [.ref t0, .ref t1]) := by
  obtain ⟨h_1, eh_1, hE⟩ := nm_e2 hE
  refine pf_X13_9 C hW hZ rfl k_t1 k_t0 eh_1 dX13_init_10 (fun _ _ hW km hZ => ?_)
  replace hkl := hkl.tr km.l
  refine x_wc km ?_
  replace k_x0 := km.at k_x0 (by decide)
  refine lv_aload_n C.1 C.2.1 dX13_init_13 rfl (lv_at hl 0 rfl) ?_
  refine lv_sipush (v := (3000 : Int32)) C.1 C.2.1 dX13_init_14 (by decide) ?_
  obtain ⟨a_2, ea_2, hE⟩ := nm_e2 hE
  obtain ⟨h_3, eh_3, hE⟩ := nm_e2 hE
  refine y_newa (k := 17) (ty := .int) (t0 := 1) C hW hZ hkl (moX13_init_19 hE) ⟨rfl, rfl⟩ (by decide) (by decide) rfl rfl (by intro C hC; cases hC) hdef_17 m_54 (by decide) (by decide) eh_3 dX13_init_17 (fun _ hW km k_a_2 hZ => ?_)
  replace hkl := hkl.tr km
  refine x_nmA ea_2 ?_
  rw [← ea_2] at k_a_2
  replace k_x0 := km.at k_x0 (by decide)
  exact bX13_init_19 C k_x0 k_a_2 k_x0 hkl hW hZ _ (lv_sub hl [0] rfl) hE
set_option maxRecDepth 20000 in
theorem ct_X13_init (l : Launch) (X : Ec) {h : Hp} {x0 : Nat} {o : Hp} (k_x0 : hK h x0 = 13) (hE : sX13_init h x0 = some o) : MetVA l yX13_init cX13_init 1 none 1 20 X [.ref x0] h o := by
  refine x_metA (oh := o) (by decide) (Nat.le_of_ble_eq_true rfl) ?_
  intro p e s m below meth c ls C hl hW hZ
  have hl : lv_has ls 1 [(0, .ref x0)] := hl
  have hkl : Kl h h := Kl.rf h
  refine lv_aload_n C.1 C.2.1 dX13_init_0 rfl (lv_at hl 0 rfl) ?_
  refine W.objInit C.1 C.2.1 C.2.2.2.1 (C.2.2.2.2.1 _ m_1967) (C.2.2.2.2.1 _ m_32) (C.2.2.2.2.1 _ m_33) rfl (by rw [C.2.2.1]; exact hl.1) rfl dX13_init_1 (Nat.le_of_ble_eq_true rfl) (Nat.le_of_ble_eq_true rfl) ?_
  refine W.eq (g2 := F0 m 4 ls []) rfl ?_
  refine lv_aload_n C.1 C.2.1 dX13_init_4 rfl (lv_at hl 0 rfl) ?_
  refine lv_sipush (v := (3000 : Int32)) C.1 C.2.1 dX13_init_5 (by decide) ?_
  obtain ⟨a_1, ea_1, hE⟩ := nm_e2 hE
  obtain ⟨h_2, eh_2, hE⟩ := nm_e2 hE
  refine y_newa (k := 17) (ty := .int) (t0 := 1) C hW hZ hkl (moX13_init_10 hE) ⟨rfl, rfl⟩ (by decide) (by decide) rfl rfl (by intro C hC; cases hC) hdef_17 m_54 (by decide) (by decide) eh_2 dX13_init_8 (fun _ hW km k_a_1 hZ => ?_)
  replace hkl := hkl.tr km
  refine x_nmA ea_1 ?_
  rw [← ea_1] at k_a_1
  replace k_x0 := km.at k_x0 (by decide)
  exact bX13_init_10 C k_x0 k_a_1 k_x0 hkl hW hZ _ (lv_sub hl [0] rfl) hE
theorem m_1829 : Cond.fieldLink RX14 39 (TX14 2).1 (TX14 2).2.1 (TX14 2).2.2.1 ∈ W0 := w0_in (List.mem_append_right _ (List.mem_of_getElem? (i := 1829) (by decide +kernel))) rfl
theorem m_1845 : Cond.fieldLink RX14 43 (TX14 10).1 (TX14 10).2.1 (TX14 10).2.2.1 ∈ W0 := w0_in (List.mem_append_right _ (List.mem_of_getElem? (i := 1845) (by decide +kernel))) rfl
theorem m_1847 : Cond.fieldLink RX14 46 (TX14 11).1 (TX14 11).2.1 (TX14 11).2.2.1 ∈ W0 := w0_in (List.mem_append_right _ (List.mem_of_getElem? (i := 1847) (by decide +kernel))) rfl
theorem m_1849 : Cond.fieldLink RX14 49 (TX14 12).1 (TX14 12).2.1 (TX14 12).2.2.1 ∈ W0 := w0_in (List.mem_append_right _ (List.mem_of_getElem? (i := 1849) (by decide +kernel))) rfl
theorem m_1855 : Cond.fieldLink RX14 52 (TX14 15).1 (TX14 15).2.1 (TX14 15).2.2.1 ∈ W0 := w0_in (List.mem_append_right _ (List.mem_of_getElem? (i := 1855) (by decide +kernel))) rfl
theorem m_1857 : Cond.fieldLink RX14 56 (TX14 16).1 (TX14 16).2.1 (TX14 16).2.2.1 ∈ W0 := w0_in (List.mem_append_right _ (List.mem_of_getElem? (i := 1857) (by decide +kernel))) rfl
theorem m_1859 : Cond.fieldLink RX14 59 (TX14 17).1 (TX14 17).2.1 (TX14 17).2.2.1 ∈ W0 := w0_in (List.mem_append_right _ (List.mem_of_getElem? (i := 1859) (by decide +kernel))) rfl
theorem m_1861 : Cond.fieldLink RX14 62 (TX14 18).1 (TX14 18).2.1 (TX14 18).2.2.1 ∈ W0 := w0_in (List.mem_append_right _ (List.mem_of_getElem? (i := 1861) (by decide +kernel))) rfl
theorem m_1863 : Cond.fieldLink RX14 65 (TX14 19).1 (TX14 19).2.1 (TX14 19).2.2.1 ∈ W0 := w0_in (List.mem_append_right _ (List.mem_of_getElem? (i := 1863) (by decide +kernel))) rfl
theorem m_1865 : Cond.fieldLink RX14 68 (TX14 20).1 (TX14 20).2.1 (TX14 20).2.2.1 ∈ W0 := w0_in (List.mem_append_right _ (List.mem_of_getElem? (i := 1865) (by decide +kernel))) rfl
theorem m_1867 : Cond.fieldLink RX14 71 (TX14 21).1 (TX14 21).2.1 (TX14 21).2.2.1 ∈ W0 := w0_in (List.mem_append_right _ (List.mem_of_getElem? (i := 1867) (by decide +kernel))) rfl
theorem m_1869 : Cond.fieldLink RX14 75 (TX14 22).1 (TX14 22).2.1 (TX14 22).2.2.1 ∈ W0 := w0_in (List.mem_append_right _ (List.mem_of_getElem? (i := 1869) (by decide +kernel))) rfl
theorem m_1871 : Cond.fieldLink RX14 78 (TX14 23).1 (TX14 23).2.1 (TX14 23).2.2.1 ∈ W0 := w0_in (List.mem_append_right _ (List.mem_of_getElem? (i := 1871) (by decide +kernel))) rfl
section
variable {p : Program} {l : Launch} {e : Env} {R : Room} {s : State} {m : MethodId} {args : Array Value} {below : List Frame} {meth : Method} {c : Code} {H : Heap} {locs : List Loc} {cells slots : Nat} {Q : State → Prop}
variable {cc : ByteArray} {pc : Nat} {ls : Array Slot} {rest : List Value} {X : Ec} {h h1 : Hp} {nL : Nat} {rt : Option FieldType} {mn : String}
theorem pf_X14_52 {a : Nat} {v : Int32} (C : Cx X p s m args meth c RX14 cc nL rt mn) (hW : Wx X h H) (hZ : va_S (aA (eB X)) s.heap H locs) (ha : hK h a = 14) (hn : narrow .boolean (.int v) = .int v) (eh : h1 = wI h a 15 v) (hdg : decode cc pc = .ok (.putfield 52, 3)) (kk : ∀ (H1 : Heap) (locs1 : List Loc), Wx X h1 H1 → Km h h1 → va_S (aA (eB X)) s.heap H1 locs1 → W p l e R s m args below meth c H1 locs1 cells slots Q (F0 m (pc + 3) ls rest)) : W p l e R s m args below meth c H locs cells slots Q (F0 m pc ls (.int v :: .ref a :: rest)) :=
  y_puti (ty := .boolean) C hW hZ ha i_X14 tyX14 tyX14_ok nmX14 (by decide) rfl rfl (by decide) m_1855 rfl (by decide +kernel) rfl hn (fitZ hn) eh hdg kk
theorem pf_X14_56 {a : Nat} {v : Int32} (C : Cx X p s m args meth c RX14 cc nL rt mn) (hW : Wx X h H) (hZ : va_S (aA (eB X)) s.heap H locs) (ha : hK h a = 14) (hn : narrow .boolean (.int v) = .int v) (eh : h1 = wI h a 16 v) (hdg : decode cc pc = .ok (.putfield 56, 3)) (kk : ∀ (H1 : Heap) (locs1 : List Loc), Wx X h1 H1 → Km h h1 → va_S (aA (eB X)) s.heap H1 locs1 → W p l e R s m args below meth c H1 locs1 cells slots Q (F0 m (pc + 3) ls rest)) : W p l e R s m args below meth c H locs cells slots Q (F0 m pc ls (.int v :: .ref a :: rest)) :=
  y_puti (ty := .boolean) C hW hZ ha i_X14 tyX14 tyX14_ok nmX14 (by decide) rfl rfl (by decide) m_1857 rfl (by decide +kernel) rfl hn (fitZ hn) eh hdg kk
theorem pf_X14_59 {a : Nat} {v : Int32} (C : Cx X p s m args meth c RX14 cc nL rt mn) (hW : Wx X h H) (hZ : va_S (aA (eB X)) s.heap H locs) (ha : hK h a = 14) (hn : narrow .boolean (.int v) = .int v) (eh : h1 = wI h a 17 v) (hdg : decode cc pc = .ok (.putfield 59, 3)) (kk : ∀ (H1 : Heap) (locs1 : List Loc), Wx X h1 H1 → Km h h1 → va_S (aA (eB X)) s.heap H1 locs1 → W p l e R s m args below meth c H1 locs1 cells slots Q (F0 m (pc + 3) ls rest)) : W p l e R s m args below meth c H locs cells slots Q (F0 m pc ls (.int v :: .ref a :: rest)) :=
  y_puti (ty := .boolean) C hW hZ ha i_X14 tyX14 tyX14_ok nmX14 (by decide) rfl rfl (by decide) m_1859 rfl (by decide +kernel) rfl hn (fitZ hn) eh hdg kk
theorem pf_X14_62 {a : Nat} {v : Int32} (C : Cx X p s m args meth c RX14 cc nL rt mn) (hW : Wx X h H) (hZ : va_S (aA (eB X)) s.heap H locs) (ha : hK h a = 14) (hn : narrow .boolean (.int v) = .int v) (eh : h1 = wI h a 18 v) (hdg : decode cc pc = .ok (.putfield 62, 3)) (kk : ∀ (H1 : Heap) (locs1 : List Loc), Wx X h1 H1 → Km h h1 → va_S (aA (eB X)) s.heap H1 locs1 → W p l e R s m args below meth c H1 locs1 cells slots Q (F0 m (pc + 3) ls rest)) : W p l e R s m args below meth c H locs cells slots Q (F0 m pc ls (.int v :: .ref a :: rest)) :=
  y_puti (ty := .boolean) C hW hZ ha i_X14 tyX14 tyX14_ok nmX14 (by decide) rfl rfl (by decide) m_1861 rfl (by decide +kernel) rfl hn (fitZ hn) eh hdg kk
theorem pf_X14_65 {a : Nat} {v : Int32} (C : Cx X p s m args meth c RX14 cc nL rt mn) (hW : Wx X h H) (hZ : va_S (aA (eB X)) s.heap H locs) (ha : hK h a = 14) (eh : h1 = wI h a 19 v) (hdg : decode cc pc = .ok (.putfield 65, 3)) (kk : ∀ (H1 : Heap) (locs1 : List Loc), Wx X h1 H1 → Km h h1 → va_S (aA (eB X)) s.heap H1 locs1 → W p l e R s m args below meth c H1 locs1 cells slots Q (F0 m (pc + 3) ls rest)) : W p l e R s m args below meth c H locs cells slots Q (F0 m pc ls (.int v :: .ref a :: rest)) :=
  y_puti (ty := .int) C hW hZ ha i_X14 tyX14 tyX14_ok nmX14 (by decide) rfl rfl (by decide) m_1863 rfl (by decide +kernel) rfl rfl rfl eh hdg kk
theorem pf_X14_68 {a : Nat} {v : Int32} (C : Cx X p s m args meth c RX14 cc nL rt mn) (hW : Wx X h H) (hZ : va_S (aA (eB X)) s.heap H locs) (ha : hK h a = 14) (eh : h1 = wI h a 20 v) (hdg : decode cc pc = .ok (.putfield 68, 3)) (kk : ∀ (H1 : Heap) (locs1 : List Loc), Wx X h1 H1 → Km h h1 → va_S (aA (eB X)) s.heap H1 locs1 → W p l e R s m args below meth c H1 locs1 cells slots Q (F0 m (pc + 3) ls rest)) : W p l e R s m args below meth c H locs cells slots Q (F0 m pc ls (.int v :: .ref a :: rest)) :=
  y_puti (ty := .int) C hW hZ ha i_X14 tyX14 tyX14_ok nmX14 (by decide) rfl rfl (by decide) m_1865 rfl (by decide +kernel) rfl rfl rfl eh hdg kk
theorem pf_X14_71 {a : Nat} {v : Int64} (C : Cx X p s m args meth c RX14 cc nL rt mn) (hW : Wx X h H) (hZ : va_S (aA (eB X)) s.heap H locs) (ha : hK h a = 14) (eh : h1 = wJ h a 21 v) (hdg : decode cc pc = .ok (.putfield 71, 3)) (kk : ∀ (H1 : Heap) (locs1 : List Loc), Wx X h1 H1 → Km h h1 → va_S (aA (eB X)) s.heap H1 locs1 → W p l e R s m args below meth c H1 locs1 cells slots Q (F0 m (pc + 3) ls rest)) : W p l e R s m args below meth c H locs cells slots Q (F0 m pc ls (.long v :: .ref a :: rest)) :=
  y_putj C hW hZ ha i_X14 tyX14 tyX14_ok nmX14 (by decide) rfl rfl (by decide) m_1867 rfl (by decide +kernel) rfl eh hdg kk
theorem pf_X14_75 {a : Nat} {v : Int32} (C : Cx X p s m args meth c RX14 cc nL rt mn) (hW : Wx X h H) (hZ : va_S (aA (eB X)) s.heap H locs) (ha : hK h a = 14) (eh : h1 = wI h a 22 v) (hdg : decode cc pc = .ok (.putfield 75, 3)) (kk : ∀ (H1 : Heap) (locs1 : List Loc), Wx X h1 H1 → Km h h1 → va_S (aA (eB X)) s.heap H1 locs1 → W p l e R s m args below meth c H1 locs1 cells slots Q (F0 m (pc + 3) ls rest)) : W p l e R s m args below meth c H locs cells slots Q (F0 m pc ls (.int v :: .ref a :: rest)) :=
  y_puti (ty := .int) C hW hZ ha i_X14 tyX14 tyX14_ok nmX14 (by decide) rfl rfl (by decide) m_1869 rfl (by decide +kernel) rfl rfl rfl eh hdg kk
theorem pf_X14_78 {a : Nat} {v : Int32} (C : Cx X p s m args meth c RX14 cc nL rt mn) (hW : Wx X h H) (hZ : va_S (aA (eB X)) s.heap H locs) (ha : hK h a = 14) (eh : h1 = wI h a 23 v) (hdg : decode cc pc = .ok (.putfield 78, 3)) (kk : ∀ (H1 : Heap) (locs1 : List Loc), Wx X h1 H1 → Km h h1 → va_S (aA (eB X)) s.heap H1 locs1 → W p l e R s m args below meth c H1 locs1 cells slots Q (F0 m (pc + 3) ls rest)) : W p l e R s m args below meth c H locs cells slots Q (F0 m pc ls (.int v :: .ref a :: rest)) :=
  y_puti (ty := .int) C hW hZ ha i_X14 tyX14 tyX14_ok nmX14 (by decide) rfl rfl (by decide) m_1871 rfl (by decide +kernel) rfl rfl rfl eh hdg kk
theorem gf_X14_15 {a r : Nat} (C : Cx X p s m args meth c RX14 cc nL rt mn) (hW : Wx X h H) (ha : hK h a = 14) (hr : hR h a 4 = some r) (hdg : decode cc pc = .ok (.getfield 15, 3)) (kk : hK h r = 17 → W p l e R s m args below meth c H locs cells slots Q (F0 m (pc + 3) ls (.ref r :: rest))) : W p l e R s m args below meth c H locs cells slots Q (F0 m pc ls (.ref a :: rest)) :=
  y_getr C hW ha i_X14 (by decide) rfl (by decide) m_1833 rfl rfl hr hdg kk
theorem gf_X14_36 {a r : Nat} (C : Cx X p s m args meth c RX14 cc nL rt mn) (hW : Wx X h H) (ha : hK h a = 14) (hr : hR h a 14 = some r) (hdg : decode cc pc = .ok (.getfield 36, 3)) (kk : hK h r = 17 → W p l e R s m args below meth c H locs cells slots Q (F0 m (pc + 3) ls (.ref r :: rest))) : W p l e R s m args below meth c H locs cells slots Q (F0 m pc ls (.ref a :: rest)) :=
  y_getr C hW ha i_X14 (by decide) rfl (by decide) m_1853 rfl rfl hr hdg kk
theorem pf_X14_39 {a : Nat} {v : Int32} (C : Cx X p s m args meth c RX14 cc nL rt mn) (hW : Wx X h H) (hZ : va_S (aA (eB X)) s.heap H locs) (ha : hK h a = 14) (eh : h1 = wI h a 2 v) (hdg : decode cc pc = .ok (.putfield 39, 3)) (kk : ∀ (H1 : Heap) (locs1 : List Loc), Wx X h1 H1 → Km h h1 → va_S (aA (eB X)) s.heap H1 locs1 → W p l e R s m args below meth c H1 locs1 cells slots Q (F0 m (pc + 3) ls rest)) : W p l e R s m args below meth c H locs cells slots Q (F0 m pc ls (.int v :: .ref a :: rest)) :=
  y_puti (ty := .int) C hW hZ ha i_X14 tyX14 tyX14_ok nmX14 (by decide) rfl rfl (by decide) m_1829 rfl (by decide +kernel) rfl rfl rfl eh hdg kk
theorem pf_X14_43 {a : Nat} {v : Int32} (C : Cx X p s m args meth c RX14 cc nL rt mn) (hW : Wx X h H) (hZ : va_S (aA (eB X)) s.heap H locs) (ha : hK h a = 14) (eh : h1 = wI h a 10 v) (hdg : decode cc pc = .ok (.putfield 43, 3)) (kk : ∀ (H1 : Heap) (locs1 : List Loc), Wx X h1 H1 → Km h h1 → va_S (aA (eB X)) s.heap H1 locs1 → W p l e R s m args below meth c H1 locs1 cells slots Q (F0 m (pc + 3) ls rest)) : W p l e R s m args below meth c H locs cells slots Q (F0 m pc ls (.int v :: .ref a :: rest)) :=
  y_puti (ty := .int) C hW hZ ha i_X14 tyX14 tyX14_ok nmX14 (by decide) rfl rfl (by decide) m_1845 rfl (by decide +kernel) rfl rfl rfl eh hdg kk
theorem pf_X14_46 {a : Nat} {v : Int32} (C : Cx X p s m args meth c RX14 cc nL rt mn) (hW : Wx X h H) (hZ : va_S (aA (eB X)) s.heap H locs) (ha : hK h a = 14) (eh : h1 = wI h a 11 v) (hdg : decode cc pc = .ok (.putfield 46, 3)) (kk : ∀ (H1 : Heap) (locs1 : List Loc), Wx X h1 H1 → Km h h1 → va_S (aA (eB X)) s.heap H1 locs1 → W p l e R s m args below meth c H1 locs1 cells slots Q (F0 m (pc + 3) ls rest)) : W p l e R s m args below meth c H locs cells slots Q (F0 m pc ls (.int v :: .ref a :: rest)) :=
  y_puti (ty := .int) C hW hZ ha i_X14 tyX14 tyX14_ok nmX14 (by decide) rfl rfl (by decide) m_1847 rfl (by decide +kernel) rfl rfl rfl eh hdg kk
theorem pf_X14_49 {a : Nat} {v : Int32} (C : Cx X p s m args meth c RX14 cc nL rt mn) (hW : Wx X h H) (hZ : va_S (aA (eB X)) s.heap H locs) (ha : hK h a = 14) (eh : h1 = wI h a 12 v) (hdg : decode cc pc = .ok (.putfield 49, 3)) (kk : ∀ (H1 : Heap) (locs1 : List Loc), Wx X h1 H1 → Km h h1 → va_S (aA (eB X)) s.heap H1 locs1 → W p l e R s m args below meth c H1 locs1 cells slots Q (F0 m (pc + 3) ls rest)) : W p l e R s m args below meth c H locs cells slots Q (F0 m pc ls (.int v :: .ref a :: rest)) :=
  y_puti (ty := .int) C hW hZ ha i_X14 tyX14 tyX14_ok nmX14 (by decide) rfl rfl (by decide) m_1849 rfl (by decide +kernel) rfl rfl rfl eh hdg kk
end
theorem dX14_clear_0 : decode cX14_clear 0 = .ok (.aload_n 0, 1) := by decide +kernel
theorem dX14_clear_1 : decode cX14_clear 1 = .ok (.iconst 0, 1) := by decide +kernel
theorem dX14_clear_2 : decode cX14_clear 2 = .ok (.putfield 39, 3) := by decide +kernel
theorem dX14_clear_5 : decode cX14_clear 5 = .ok (.aload_n 0, 1) := by decide +kernel
theorem dX14_clear_6 : decode cX14_clear 6 = .ok (.iconst (-1), 1) := by decide +kernel
theorem dX14_clear_7 : decode cX14_clear 7 = .ok (.putfield 43, 3) := by decide +kernel
theorem dX14_clear_10 : decode cX14_clear 10 = .ok (.aload_n 0, 1) := by decide +kernel
theorem dX14_clear_11 : decode cX14_clear 11 = .ok (.iconst (-1), 1) := by decide +kernel
theorem dX14_clear_12 : decode cX14_clear 12 = .ok (.putfield 46, 3) := by decide +kernel
theorem dX14_clear_15 : decode cX14_clear 15 = .ok (.aload_n 0, 1) := by decide +kernel
theorem dX14_clear_16 : decode cX14_clear 16 = .ok (.iconst (-1), 1) := by decide +kernel
theorem dX14_clear_17 : decode cX14_clear 17 = .ok (.putfield 49, 3) := by decide +kernel
theorem dX14_clear_20 : decode cX14_clear 20 = .ok (.iconst 0, 1) := by decide +kernel
theorem dX14_clear_21 : decode cX14_clear 21 = .ok (.istore_n 1, 1) := by decide +kernel
theorem dX14_clear_22 : decode cX14_clear 22 = .ok (.iload_n 1, 1) := by decide +kernel
theorem dX14_clear_23 : decode cX14_clear 23 = .ok (.bipush 12, 2) := by decide +kernel
theorem dX14_clear_25 : decode cX14_clear 25 = .ok (.if_icmp .ge 23, 3) := by decide +kernel
theorem dX14_clear_28 : decode cX14_clear 28 = .ok (.aload_n 0, 1) := by decide +kernel
theorem dX14_clear_29 : decode cX14_clear 29 = .ok (.getfield 15, 3) := by decide +kernel
theorem dX14_clear_32 : decode cX14_clear 32 = .ok (.iload_n 1, 1) := by decide +kernel
theorem dX14_clear_33 : decode cX14_clear 33 = .ok (.iconst 0, 1) := by decide +kernel
theorem dX14_clear_34 : decode cX14_clear 34 = .ok (.iastore, 1) := by decide +kernel
theorem dX14_clear_35 : decode cX14_clear 35 = .ok (.aload_n 0, 1) := by decide +kernel
theorem dX14_clear_36 : decode cX14_clear 36 = .ok (.getfield 36, 3) := by decide +kernel
theorem dX14_clear_39 : decode cX14_clear 39 = .ok (.iload_n 1, 1) := by decide +kernel
theorem dX14_clear_40 : decode cX14_clear 40 = .ok (.iconst 0, 1) := by decide +kernel
theorem dX14_clear_41 : decode cX14_clear 41 = .ok (.iastore, 1) := by decide +kernel
theorem dX14_clear_42 : decode cX14_clear 42 = .ok (.iinc 1 1, 3) := by decide +kernel
theorem dX14_clear_45 : decode cX14_clear 45 = .ok (.goto (-23), 3) := by decide +kernel
theorem dX14_clear_48 : decode cX14_clear 48 = .ok (.aload_n 0, 1) := by decide +kernel
theorem dX14_clear_49 : decode cX14_clear 49 = .ok (.iconst 0, 1) := by decide +kernel
theorem dX14_clear_50 : decode cX14_clear 50 = .ok (.putfield 52, 3) := by decide +kernel
theorem dX14_clear_53 : decode cX14_clear 53 = .ok (.aload_n 0, 1) := by decide +kernel
theorem dX14_clear_54 : decode cX14_clear 54 = .ok (.iconst 0, 1) := by decide +kernel
theorem dX14_clear_55 : decode cX14_clear 55 = .ok (.putfield 56, 3) := by decide +kernel
theorem dX14_clear_58 : decode cX14_clear 58 = .ok (.aload_n 0, 1) := by decide +kernel
theorem dX14_clear_59 : decode cX14_clear 59 = .ok (.iconst 0, 1) := by decide +kernel
theorem dX14_clear_60 : decode cX14_clear 60 = .ok (.putfield 59, 3) := by decide +kernel
theorem dX14_clear_63 : decode cX14_clear 63 = .ok (.aload_n 0, 1) := by decide +kernel
theorem dX14_clear_64 : decode cX14_clear 64 = .ok (.iconst 0, 1) := by decide +kernel
theorem dX14_clear_65 : decode cX14_clear 65 = .ok (.putfield 62, 3) := by decide +kernel
theorem dX14_clear_68 : decode cX14_clear 68 = .ok (.aload_n 0, 1) := by decide +kernel
theorem dX14_clear_69 : decode cX14_clear 69 = .ok (.iconst 0, 1) := by decide +kernel
theorem dX14_clear_70 : decode cX14_clear 70 = .ok (.putfield 65, 3) := by decide +kernel
theorem dX14_clear_73 : decode cX14_clear 73 = .ok (.aload_n 0, 1) := by decide +kernel
theorem dX14_clear_74 : decode cX14_clear 74 = .ok (.iconst 0, 1) := by decide +kernel
theorem dX14_clear_75 : decode cX14_clear 75 = .ok (.putfield 68, 3) := by decide +kernel
theorem dX14_clear_78 : decode cX14_clear 78 = .ok (.aload_n 0, 1) := by decide +kernel
theorem dX14_clear_79 : decode cX14_clear 79 = .ok (.lconst 0, 1) := by decide +kernel
theorem dX14_clear_80 : decode cX14_clear 80 = .ok (.putfield 71, 3) := by decide +kernel
theorem dX14_clear_83 : decode cX14_clear 83 = .ok (.aload_n 0, 1) := by decide +kernel
theorem dX14_clear_84 : decode cX14_clear 84 = .ok (.iconst 0, 1) := by decide +kernel
theorem dX14_clear_85 : decode cX14_clear 85 = .ok (.putfield 75, 3) := by decide +kernel
theorem dX14_clear_88 : decode cX14_clear 88 = .ok (.aload_n 0, 1) := by decide +kernel
theorem dX14_clear_89 : decode cX14_clear 89 = .ok (.iconst 0, 1) := by decide +kernel
theorem dX14_clear_90 : decode cX14_clear 90 = .ok (.putfield 78, 3) := by decide +kernel
theorem dX14_clear_93 : decode cX14_clear 93 = .ok (.return_, 1) := by decide +kernel
def sX14_clear_22 (F : Nat) : Nat → Hp → Nat → Int32 → Option (Hp)
  | 0, _, _, _ => none
  | f + 1, h, x0, x1 => br ((12 : Int32) ≤ x1) (nm (wI h x0 15 (0 : Int32)) fun h_2 => nm (wI h_2 x0 16 (0 : Int32)) fun h_3 => nm (wI h_3 x0 17 (0 : Int32)) fun h_4 => nm (wI h_4 x0 18 (0 : Int32)) fun h_5 => nm (wI h_5 x0 19 (0 : Int32)) fun h_6 => nm (wI h_6 x0 20 (0 : Int32)) fun h_7 => nm (wJ h_7 x0 21 (0 : Int64)) fun h_8 => nm (wI h_8 x0 22 (0 : Int32)) fun h_9 => nm (wI h_9 x0 23 (0 : Int32)) fun h_10 => some h_10) (cl (hR h x0 4) fun r_11 => gd (inB x1 (hN h r_11)) <| nm (wI h r_11 x1.toNatClampNeg (0 : Int32)) fun h_13 => cl (hR h_13 x0 14) fun r_14 => gd (inB x1 (hN h_13 r_14)) <| nm (wI h_13 r_14 x1.toNatClampNeg (0 : Int32)) fun h_16 => nm (x1 + (1 : Int32)) fun v_17 => sX14_clear_22 F f h_16 x0 v_17)
def sX14_clear (F : Nat) (h : Hp) (x0 : Nat) : Option (Hp) := nm (wI h x0 2 (0 : Int32)) fun h_1 => nm (wI h_1 x0 10 (-1 : Int32)) fun h_2 => nm (wI h_2 x0 11 (-1 : Int32)) fun h_3 => nm (wI h_3 x0 12 (-1 : Int32)) fun h_4 => sX14_clear_22 F F h_4 x0 (0 : Int32)
theorem moX14_clear_22 {o : Hp} {F : Nat} : ∀ (f : Nat) {h : Hp} {x0 : Nat} {x1 : Int32}, sX14_clear_22 F f h x0 x1 = some o → Le h o := by
  intro f
  induction f with
  | zero =>
    intro h x0 x1 hE
    rw [sX14_clear_22] at hE
    cases hE
  | succ f ih =>
    intro h x0 x1 hE
    rw [sX14_clear_22] at hE
    have mk_22 : ∀ (h : Hp) (x0 : Nat) (x1 : Int32), sX14_clear_22 F f h x0 x1 = some o → Le h o := fun h x0 x1 hE => ih hE
    rcases br_e hE with ⟨_, hE⟩ | ⟨_, hE⟩
    · obtain ⟨h_2, eh_2, hE⟩ := nm_e2 hE
      refine (le_I eh_2).tr ?_
      obtain ⟨h_3, eh_3, hE⟩ := nm_e2 hE
      refine (le_I eh_3).tr ?_
      obtain ⟨h_4, eh_4, hE⟩ := nm_e2 hE
      refine (le_I eh_4).tr ?_
      obtain ⟨h_5, eh_5, hE⟩ := nm_e2 hE
      refine (le_I eh_5).tr ?_
      obtain ⟨h_6, eh_6, hE⟩ := nm_e2 hE
      refine (le_I eh_6).tr ?_
      obtain ⟨h_7, eh_7, hE⟩ := nm_e2 hE
      refine (le_I eh_7).tr ?_
      obtain ⟨h_8, eh_8, hE⟩ := nm_e2 hE
      refine (le_J eh_8).tr ?_
      obtain ⟨h_9, eh_9, hE⟩ := nm_e2 hE
      refine (le_I eh_9).tr ?_
      obtain ⟨h_10, eh_10, hE⟩ := nm_e2 hE
      refine (le_I eh_10).tr ?_
      cases hE
      exact Le.rf _
    · obtain ⟨r_11, er_11, hE⟩ := cl_e hE
      obtain ⟨g_12, hE⟩ := gd_e hE
      obtain ⟨h_13, eh_13, hE⟩ := nm_e2 hE
      refine (le_I eh_13).tr ?_
      obtain ⟨r_14, er_14, hE⟩ := cl_e hE
      obtain ⟨g_15, hE⟩ := gd_e hE
      obtain ⟨h_16, eh_16, hE⟩ := nm_e2 hE
      refine (le_I eh_16).tr ?_
      obtain ⟨v_17, ev_17, hE⟩ := nm_e2 hE
      exact mk_22 _ _ _ hE
theorem moX14_clear {o : Hp} {F : Nat} {h : Hp} {x0 : Nat} (hE : sX14_clear F h x0 = some o) : Le h o := by
  obtain ⟨h_1, eh_1, hE⟩ := nm_e2 hE
  refine (le_I eh_1).tr ?_
  obtain ⟨h_2, eh_2, hE⟩ := nm_e2 hE
  refine (le_I eh_2).tr ?_
  obtain ⟨h_3, eh_3, hE⟩ := nm_e2 hE
  refine (le_I eh_3).tr ?_
  obtain ⟨h_4, eh_4, hE⟩ := nm_e2 hE
  refine (le_I eh_4).tr ?_
  exact moX14_clear_22 _ hE
set_option maxRecDepth 20000 in
theorem bX14_clear_22 {p : Program} {l : Launch} {e : Env} {s : State} {m : MethodId} {args : Array Value} {below : List Frame} {meth : Method} {c : Code} {X : Ec} {h0 : Hp} {o : Hp} {F : Nat} (C : Cx X p s m args meth c RX14 cX14_clear 2 none "clear") : ∀ (f : Nat) {h : Hp} {x0 : Nat} {x1 : Int32} {H : Heap} {locs : List Loc} (k_x0 : hK h x0 = 14), Km h0 h → Wx X h H → va_S (aA (eB X)) s.heap H locs → ∀ (ls : Array Slot), lv_has ls 2 [(0, .ref x0), (1, .int x1)] → sX14_clear_22 F f h x0 x1 = some o → W p l e (rm 0 0) s m args below meth c H locs 0 0 (MQ below (QV X h0 o) args s 0 0 (aA (eB X))) (F0 m 22 ls []) := by
  intro f
  induction f with
  | zero =>
    intro h x0 x1 H locs k_x0 hkm hW hZ ls hl hE
    rw [sX14_clear_22] at hE
    cases hE
  | succ f ih =>
    intro h x0 x1 H locs k_x0 hkm hW hZ ls hl hE
    rw [sX14_clear_22] at hE
    have hk_22 : ∀ (h : Hp) (x0 : Nat) (x1 : Int32) (H : Heap) (locs : List Loc), hK h x0 = 14 → Km h0 h → Wx X h H → va_S (aA (eB X)) s.heap H locs → ∀ (ls : Array Slot), lv_has ls 2 [(0, .ref x0), (1, .int x1)] → sX14_clear_22 F f h x0 x1 = some o → W p l e (rm 0 0) s m args below meth c H locs 0 0 (MQ below (QV X h0 o) args s 0 0 (aA (eB X))) (F0 m 22 ls []) := fun h x0 x1 H locs k_x0 a b c ls hl hE => ih k_x0 a b c ls hl hE
    refine lv_iload_n C.1 C.2.1 dX14_clear_22 rfl (lv_at hl 1 rfl) ?_
    refine lv_bipush (v := (12 : Int32)) C.1 C.2.1 dX14_clear_23 (by decide) ?_
    refine lv_icmp_ge (tgt := 48) C.1 C.2.1 dX14_clear_25 (by decide) (fun c_1 => ?_) (fun c_1 => ?_)
    · have hE := br_p hE c_1
      refine lv_aload_n C.1 C.2.1 dX14_clear_48 rfl (lv_at hl 0 rfl) ?_
      refine lv_iconst (v := (0 : Int32)) C.1 C.2.1 dX14_clear_49 (by decide) ?_
      obtain ⟨h_2, eh_2, hE⟩ := nm_e2 hE
      refine pf_X14_52 C hW hZ k_x0 (by decide) eh_2 dX14_clear_50 (fun _ _ hW km hZ => ?_)
      replace hkm := hkm.tr km
      replace k_x0 := km.at k_x0 (by decide)
      refine lv_aload_n C.1 C.2.1 dX14_clear_53 rfl (lv_at hl 0 rfl) ?_
      refine lv_iconst (v := (0 : Int32)) C.1 C.2.1 dX14_clear_54 (by decide) ?_
      obtain ⟨h_3, eh_3, hE⟩ := nm_e2 hE
      refine pf_X14_56 C hW hZ k_x0 (by decide) eh_3 dX14_clear_55 (fun _ _ hW km hZ => ?_)
      replace hkm := hkm.tr km
      replace k_x0 := km.at k_x0 (by decide)
      refine lv_aload_n C.1 C.2.1 dX14_clear_58 rfl (lv_at hl 0 rfl) ?_
      refine lv_iconst (v := (0 : Int32)) C.1 C.2.1 dX14_clear_59 (by decide) ?_
      obtain ⟨h_4, eh_4, hE⟩ := nm_e2 hE
      refine pf_X14_59 C hW hZ k_x0 (by decide) eh_4 dX14_clear_60 (fun _ _ hW km hZ => ?_)
      replace hkm := hkm.tr km
      replace k_x0 := km.at k_x0 (by decide)
      refine lv_aload_n C.1 C.2.1 dX14_clear_63 rfl (lv_at hl 0 rfl) ?_
      refine lv_iconst (v := (0 : Int32)) C.1 C.2.1 dX14_clear_64 (by decide) ?_
      obtain ⟨h_5, eh_5, hE⟩ := nm_e2 hE
      refine pf_X14_62 C hW hZ k_x0 (by decide) eh_5 dX14_clear_65 (fun _ _ hW km hZ => ?_)
      replace hkm := hkm.tr km
      replace k_x0 := km.at k_x0 (by decide)
      refine lv_aload_n C.1 C.2.1 dX14_clear_68 rfl (lv_at hl 0 rfl) ?_
      refine lv_iconst (v := (0 : Int32)) C.1 C.2.1 dX14_clear_69 (by decide) ?_
      obtain ⟨h_6, eh_6, hE⟩ := nm_e2 hE
      refine pf_X14_65 C hW hZ k_x0 eh_6 dX14_clear_70 (fun _ _ hW km hZ => ?_)
      replace hkm := hkm.tr km
      replace k_x0 := km.at k_x0 (by decide)
      refine lv_aload_n C.1 C.2.1 dX14_clear_73 rfl (lv_at hl 0 rfl) ?_
      refine lv_iconst (v := (0 : Int32)) C.1 C.2.1 dX14_clear_74 (by decide) ?_
      obtain ⟨h_7, eh_7, hE⟩ := nm_e2 hE
      refine pf_X14_68 C hW hZ k_x0 eh_7 dX14_clear_75 (fun _ _ hW km hZ => ?_)
      replace hkm := hkm.tr km
      replace k_x0 := km.at k_x0 (by decide)
      refine lv_aload_n C.1 C.2.1 dX14_clear_78 rfl (lv_at hl 0 rfl) ?_
      refine lv_lconst (v := (0 : Int64)) C.1 C.2.1 dX14_clear_79 (by decide) ?_
      obtain ⟨h_8, eh_8, hE⟩ := nm_e2 hE
      refine pf_X14_71 C hW hZ k_x0 eh_8 dX14_clear_80 (fun _ _ hW km hZ => ?_)
      replace hkm := hkm.tr km
      replace k_x0 := km.at k_x0 (by decide)
      refine lv_aload_n C.1 C.2.1 dX14_clear_83 rfl (lv_at hl 0 rfl) ?_
      refine lv_iconst (v := (0 : Int32)) C.1 C.2.1 dX14_clear_84 (by decide) ?_
      obtain ⟨h_9, eh_9, hE⟩ := nm_e2 hE
      refine pf_X14_75 C hW hZ k_x0 eh_9 dX14_clear_85 (fun _ _ hW km hZ => ?_)
      replace hkm := hkm.tr km
      replace k_x0 := km.at k_x0 (by decide)
      refine lv_aload_n C.1 C.2.1 dX14_clear_88 rfl (lv_at hl 0 rfl) ?_
      refine lv_iconst (v := (0 : Int32)) C.1 C.2.1 dX14_clear_89 (by decide) ?_
      obtain ⟨h_10, eh_10, hE⟩ := nm_e2 hE
      refine pf_X14_78 C hW hZ k_x0 eh_10 dX14_clear_90 (fun _ _ hW km hZ => ?_)
      replace hkm := hkm.tr km
      replace k_x0 := km.at k_x0 (by decide)
      exact x_vret C rfl hW hZ hkm hE dX14_clear_93
    · have hE := br_n hE c_1
      refine lv_aload_n C.1 C.2.1 dX14_clear_28 rfl (lv_at hl 0 rfl) ?_
      obtain ⟨r_11, er_11, hE⟩ := cl_e hE
      refine gf_X14_15 C hW k_x0 er_11 dX14_clear_29 (fun k_r_11 => ?_)
      refine lv_iload_n C.1 C.2.1 dX14_clear_32 rfl (lv_at hl 1 rfl) ?_
      refine lv_iconst (v := (0 : Int32)) C.1 C.2.1 dX14_clear_33 (by decide) ?_
      obtain ⟨g_12, hE⟩ := gd_e hE
      obtain ⟨h_13, eh_13, hE⟩ := nm_e2 hE
      refine y_iast C hW hZ k_r_11 g_12 eh_13 dX14_clear_34 (fun _ _ hW km hZ => ?_)
      replace hkm := hkm.tr km
      replace k_x0 := km.at k_x0 (by decide)
      refine lv_aload_n C.1 C.2.1 dX14_clear_35 rfl (lv_at hl 0 rfl) ?_
      obtain ⟨r_14, er_14, hE⟩ := cl_e hE
      refine gf_X14_36 C hW k_x0 er_14 dX14_clear_36 (fun k_r_14 => ?_)
      refine lv_iload_n C.1 C.2.1 dX14_clear_39 rfl (lv_at hl 1 rfl) ?_
      refine lv_iconst (v := (0 : Int32)) C.1 C.2.1 dX14_clear_40 (by decide) ?_
      obtain ⟨g_15, hE⟩ := gd_e hE
      obtain ⟨h_16, eh_16, hE⟩ := nm_e2 hE
      refine y_iast C hW hZ k_r_14 g_15 eh_16 dX14_clear_41 (fun _ _ hW km hZ => ?_)
      replace hkm := hkm.tr km
      replace k_x0 := km.at k_x0 (by decide)
      obtain ⟨v_17, ev_17, hE⟩ := nm_e2 hE
      refine lv_iinc (v := v_17) (lv' := [(1, .int v_17), (0, .ref x0)]) C.1 C.2.1 dX14_clear_42 hl (k := 1) rfl (by rw [ev_17]; rfl) (by decide) rfl (fun ls hl => ?_)
      refine lv_goto (tgt := 22) C.1 C.2.1 dX14_clear_45 (by decide) ?_
      exact hk_22 _ _ _ _ _ k_x0 hkm hW hZ _ (lv_sub hl [1, 0] rfl) hE
set_option maxRecDepth 20000 in
theorem ct_X14_clear (l : Launch) (X : Ec) (F : Nat) {h : Hp} {x0 : Nat} {o : Hp} (k_x0 : hK h x0 = 14) (hE : sX14_clear F h x0 = some o) : MetV l yX14_clear cX14_clear 2 none 0 0 X [.ref x0] h o := by
  refine x_met (by decide) (Nat.le_of_ble_eq_true rfl) ?_
  intro p e s m below meth c ls C hl hW hZ
  have hl : lv_has ls 2 [(0, .ref x0)] := hl
  have hkm : Km h h := Km.rf h
  refine lv_aload_n C.1 C.2.1 dX14_clear_0 rfl (lv_at hl 0 rfl) ?_
  refine lv_iconst (v := (0 : Int32)) C.1 C.2.1 dX14_clear_1 (by decide) ?_
  obtain ⟨h_1, eh_1, hE⟩ := nm_e2 hE
  refine pf_X14_39 C hW hZ k_x0 eh_1 dX14_clear_2 (fun _ _ hW km hZ => ?_)
  replace hkm := hkm.tr km
  replace k_x0 := km.at k_x0 (by decide)
  refine lv_aload_n C.1 C.2.1 dX14_clear_5 rfl (lv_at hl 0 rfl) ?_
  refine lv_iconst (v := (-1 : Int32)) C.1 C.2.1 dX14_clear_6 (by decide) ?_
  obtain ⟨h_2, eh_2, hE⟩ := nm_e2 hE
  refine pf_X14_43 C hW hZ k_x0 eh_2 dX14_clear_7 (fun _ _ hW km hZ => ?_)
  replace hkm := hkm.tr km
  replace k_x0 := km.at k_x0 (by decide)
  refine lv_aload_n C.1 C.2.1 dX14_clear_10 rfl (lv_at hl 0 rfl) ?_
  refine lv_iconst (v := (-1 : Int32)) C.1 C.2.1 dX14_clear_11 (by decide) ?_
  obtain ⟨h_3, eh_3, hE⟩ := nm_e2 hE
  refine pf_X14_46 C hW hZ k_x0 eh_3 dX14_clear_12 (fun _ _ hW km hZ => ?_)
  replace hkm := hkm.tr km
  replace k_x0 := km.at k_x0 (by decide)
  refine lv_aload_n C.1 C.2.1 dX14_clear_15 rfl (lv_at hl 0 rfl) ?_
  refine lv_iconst (v := (-1 : Int32)) C.1 C.2.1 dX14_clear_16 (by decide) ?_
  obtain ⟨h_4, eh_4, hE⟩ := nm_e2 hE
  refine pf_X14_49 C hW hZ k_x0 eh_4 dX14_clear_17 (fun _ _ hW km hZ => ?_)
  replace hkm := hkm.tr km
  replace k_x0 := km.at k_x0 (by decide)
  refine lv_iconst (v := (0 : Int32)) C.1 C.2.1 dX14_clear_20 (by decide) ?_
  refine lv_istore_n (lv' := [(1, .int (0 : Int32)), (0, .ref x0)]) C.1 C.2.1 dX14_clear_21 rfl hl (by decide) rfl (fun ls hl => ?_)
  exact bX14_clear_22 C F k_x0 hkm hW hZ _ (lv_sub hl [1, 0] rfl) hE
section
variable {p : Program} {l : Launch} {e : Env} {R : Room} {s : State} {m : MethodId} {args : Array Value} {below : List Frame} {meth : Method} {c : Code} {H : Heap} {locs : List Loc} {cells slots : Nat} {Q : State → Prop}
variable {cc : ByteArray} {pc : Nat} {ls : Array Slot} {rest : List Value} {X : Ec} {h h1 : Hp} {nL : Nat} {rt : Option FieldType} {mn : String}
theorem gf_X14_39 {a : Nat} (C : Cx X p s m args meth c RX14 cc nL rt mn) (hW : Wx X h H) (ha : hK h a = 14) (hdg : decode cc pc = .ok (.getfield 39, 3)) (kk : W p l e R s m args below meth c H locs cells slots Q (F0 m (pc + 3) ls (.int (hI h a 2) :: rest))) : W p l e R s m args below meth c H locs cells slots Q (F0 m pc ls (.ref a :: rest)) :=
  y_geti C hW ha i_X14 (by decide) rfl (by decide) m_1829 rfl hdg kk
theorem gf_X14_9 {a r : Nat} (C : Cx X p s m args meth c RX14 cc nL rt mn) (hW : Wx X h H) (ha : hK h a = 14) (hr : hR h a 3 = some r) (hdg : decode cc pc = .ok (.getfield 9, 3)) (kk : hK h r = 17 → W p l e R s m args below meth c H locs cells slots Q (F0 m (pc + 3) ls (.ref r :: rest))) : W p l e R s m args below meth c H locs cells slots Q (F0 m pc ls (.ref a :: rest)) :=
  y_getr C hW ha i_X14 (by decide) rfl (by decide) m_1831 rfl rfl hr hdg kk
end
theorem dX14_find_0 : decode cX14_find 0 = .ok (.iconst 0, 1) := by decide +kernel
theorem dX14_find_1 : decode cX14_find 1 = .ok (.istore_n 2, 1) := by decide +kernel
theorem dX14_find_2 : decode cX14_find 2 = .ok (.iload_n 2, 1) := by decide +kernel
theorem dX14_find_3 : decode cX14_find 3 = .ok (.aload_n 0, 1) := by decide +kernel
theorem dX14_find_4 : decode cX14_find 4 = .ok (.getfield 39, 3) := by decide +kernel
theorem dX14_find_7 : decode cX14_find 7 = .ok (.if_icmp .ge 21, 3) := by decide +kernel
theorem dX14_find_10 : decode cX14_find 10 = .ok (.aload_n 0, 1) := by decide +kernel
theorem dX14_find_11 : decode cX14_find 11 = .ok (.getfield 9, 3) := by decide +kernel
theorem dX14_find_14 : decode cX14_find 14 = .ok (.iload_n 2, 1) := by decide +kernel
theorem dX14_find_15 : decode cX14_find 15 = .ok (.iaload, 1) := by decide +kernel
theorem dX14_find_16 : decode cX14_find 16 = .ok (.iload_n 1, 1) := by decide +kernel
theorem dX14_find_17 : decode cX14_find 17 = .ok (.if_icmp .ne 5, 3) := by decide +kernel
theorem dX14_find_20 : decode cX14_find 20 = .ok (.iload_n 2, 1) := by decide +kernel
theorem dX14_find_21 : decode cX14_find 21 = .ok (.ireturn, 1) := by decide +kernel
theorem dX14_find_22 : decode cX14_find 22 = .ok (.iinc 2 1, 3) := by decide +kernel
theorem dX14_find_25 : decode cX14_find 25 = .ok (.goto (-23), 3) := by decide +kernel
theorem dX14_find_28 : decode cX14_find 28 = .ok (.iconst (-1), 1) := by decide +kernel
theorem dX14_find_29 : decode cX14_find 29 = .ok (.ireturn, 1) := by decide +kernel
def sX14_find_2 (F : Nat) : Nat → Hp → Nat → Int32 → Int32 → Option (Int32 × Hp)
  | 0, _, _, _, _ => none
  | f + 1, h, x0, x1, x2 => br ((hI h x0 2) ≤ x2) (some ((-1 : Int32), h)) (cl (hR h x0 3) fun r_2 => gd (inB x2 (hN h r_2)) <| br ((hI h r_2 x2.toNatClampNeg) = x1) (some (x2, h)) (nm (x2 + (1 : Int32)) fun v_5 => sX14_find_2 F f h x0 x1 v_5))
def sX14_find (F : Nat) (h : Hp) (x0 : Nat) (x1 : Int32) : Option (Int32 × Hp) := sX14_find_2 F F h x0 x1 (0 : Int32)
theorem moX14_find_2 {o : Int32 × Hp} {F : Nat} : ∀ (f : Nat) {h : Hp} {x0 : Nat} {x1 : Int32} {x2 : Int32}, sX14_find_2 F f h x0 x1 x2 = some o → Le h o.2 := by
  intro f
  induction f with
  | zero =>
    intro h x0 x1 x2 hE
    rw [sX14_find_2] at hE
    cases hE
  | succ f ih =>
    intro h x0 x1 x2 hE
    rw [sX14_find_2] at hE
    have mk_2 : ∀ (h : Hp) (x0 : Nat) (x1 : Int32) (x2 : Int32), sX14_find_2 F f h x0 x1 x2 = some o → Le h o.2 := fun h x0 x1 x2 hE => ih hE
    rcases br_e hE with ⟨_, hE⟩ | ⟨_, hE⟩
    · cases hE
      exact Le.rf _
    · obtain ⟨r_2, er_2, hE⟩ := cl_e hE
      obtain ⟨g_3, hE⟩ := gd_e hE
      rcases br_e hE with ⟨_, hE⟩ | ⟨_, hE⟩
      · cases hE
        exact Le.rf _
      · obtain ⟨v_5, ev_5, hE⟩ := nm_e2 hE
        exact mk_2 _ _ _ _ hE
theorem moX14_find {o : Int32 × Hp} {F : Nat} {h : Hp} {x0 : Nat} {x1 : Int32} (hE : sX14_find F h x0 x1 = some o) : Le h o.2 := by
  exact moX14_find_2 _ hE
set_option maxRecDepth 20000 in
theorem bX14_find_2 {p : Program} {l : Launch} {e : Env} {s : State} {m : MethodId} {args : Array Value} {below : List Frame} {meth : Method} {c : Code} {X : Ec} {h0 : Hp} {o : Int32 × Hp} {F : Nat} (C : Cx X p s m args meth c RX14 cX14_find 3 (some .int) "find") : ∀ (f : Nat) {h : Hp} {x0 : Nat} {x1 : Int32} {x2 : Int32} {H : Heap} {locs : List Loc} (k_x0 : hK h x0 = 14), Km h0 h → Wx X h H → va_S (aA (eB X)) s.heap H locs → ∀ (ls : Array Slot), lv_has ls 3 [(0, .ref x0), (1, .int x1), (2, .int x2)] → sX14_find_2 F f h x0 x1 x2 = some o → W p l e (rm 0 0) s m args below meth c H locs 0 0 (MQ below (QI X h0 o.1 o.2) args s 0 0 (aA (eB X))) (F0 m 2 ls []) := by
  intro f
  induction f with
  | zero =>
    intro h x0 x1 x2 H locs k_x0 hkm hW hZ ls hl hE
    rw [sX14_find_2] at hE
    cases hE
  | succ f ih =>
    intro h x0 x1 x2 H locs k_x0 hkm hW hZ ls hl hE
    rw [sX14_find_2] at hE
    have hk_2 : ∀ (h : Hp) (x0 : Nat) (x1 : Int32) (x2 : Int32) (H : Heap) (locs : List Loc), hK h x0 = 14 → Km h0 h → Wx X h H → va_S (aA (eB X)) s.heap H locs → ∀ (ls : Array Slot), lv_has ls 3 [(0, .ref x0), (1, .int x1), (2, .int x2)] → sX14_find_2 F f h x0 x1 x2 = some o → W p l e (rm 0 0) s m args below meth c H locs 0 0 (MQ below (QI X h0 o.1 o.2) args s 0 0 (aA (eB X))) (F0 m 2 ls []) := fun h x0 x1 x2 H locs k_x0 a b c ls hl hE => ih k_x0 a b c ls hl hE
    refine lv_iload_n C.1 C.2.1 dX14_find_2 rfl (lv_at hl 2 rfl) ?_
    refine lv_aload_n C.1 C.2.1 dX14_find_3 rfl (lv_at hl 0 rfl) ?_
    refine gf_X14_39 C hW k_x0 dX14_find_4 ?_
    refine lv_icmp_ge (tgt := 28) C.1 C.2.1 dX14_find_7 (by decide) (fun c_1 => ?_) (fun c_1 => ?_)
    · have hE := br_p hE c_1
      refine lv_iconst (v := (-1 : Int32)) C.1 C.2.1 dX14_find_28 (by decide) ?_
      exact x_iret C rfl rfl hW hZ hkm hE dX14_find_29
    · have hE := br_n hE c_1
      refine lv_aload_n C.1 C.2.1 dX14_find_10 rfl (lv_at hl 0 rfl) ?_
      obtain ⟨r_2, er_2, hE⟩ := cl_e hE
      refine gf_X14_9 C hW k_x0 er_2 dX14_find_11 (fun k_r_2 => ?_)
      refine lv_iload_n C.1 C.2.1 dX14_find_14 rfl (lv_at hl 2 rfl) ?_
      obtain ⟨g_3, hE⟩ := gd_e hE
      refine y_iald C hW k_r_2 g_3 dX14_find_15 ?_
      refine lv_iload_n C.1 C.2.1 dX14_find_16 rfl (lv_at hl 1 rfl) ?_
      refine lv_icmp_ne (tgt := 22) C.1 C.2.1 dX14_find_17 (by decide) (fun c_4 => ?_) (fun c_4 => ?_)
      · have hE := br_n hE c_4
        obtain ⟨v_5, ev_5, hE⟩ := nm_e2 hE
        refine lv_iinc (v := v_5) (lv' := [(2, .int v_5), (0, .ref x0), (1, .int x1)]) C.1 C.2.1 dX14_find_22 hl (k := 2) rfl (by rw [ev_5]; rfl) (by decide) rfl (fun ls hl => ?_)
        refine lv_goto (tgt := 2) C.1 C.2.1 dX14_find_25 (by decide) ?_
        exact hk_2 _ _ _ _ _ _ k_x0 hkm hW hZ _ (lv_sub hl [1, 2, 0] rfl) hE
      · have hE := br_p hE c_4
        refine lv_iload_n C.1 C.2.1 dX14_find_20 rfl (lv_at hl 2 rfl) ?_
        exact x_iret C rfl rfl hW hZ hkm hE dX14_find_21
set_option maxRecDepth 20000 in
theorem ct_X14_find (l : Launch) (X : Ec) (F : Nat) {h : Hp} {x0 : Nat} {x1 : Int32} {o : Int32 × Hp} (k_x0 : hK h x0 = 14) (hE : sX14_find F h x0 x1 = some o) : MetI l yX14_find cX14_find 3 (some .int) 0 0 X [.ref x0, .int x1] h o := by
  refine x_met (by decide) (Nat.le_of_ble_eq_true rfl) ?_
  intro p e s m below meth c ls C hl hW hZ
  have hl : lv_has ls 3 [(0, .ref x0), (1, .int x1)] := hl
  have hkm : Km h h := Km.rf h
  refine lv_iconst (v := (0 : Int32)) C.1 C.2.1 dX14_find_0 (by decide) ?_
  refine lv_istore_n (lv' := [(2, .int (0 : Int32)), (0, .ref x0), (1, .int x1)]) C.1 C.2.1 dX14_find_1 rfl hl (by decide) rfl (fun ls hl => ?_)
  exact bX14_find_2 C F k_x0 hkm hW hZ _ (lv_sub hl [1, 2, 0] rfl) hE
section
variable {p : Program} {l : Launch} {e : Env} {R : Room} {s : State} {m : MethodId} {args : Array Value} {below : List Frame} {meth : Method} {c : Code} {H : Heap} {locs : List Loc} {cells slots : Nat} {Q : State → Prop}
variable {cc : ByteArray} {pc : Nat} {ls : Array Slot} {rest : List Value} {X : Ec} {h h1 : Hp} {nL : Nat} {rt : Option FieldType} {mn : String}
theorem gf_X14_33 {a r : Nat} (C : Cx X p s m args meth c RX14 cc nL rt mn) (hW : Wx X h H) (ha : hK h a = 14) (hr : hR h a 13 = some r) (hdg : decode cc pc = .ok (.getfield 33, 3)) (kk : hK h r = 17 → W p l e R s m args below meth c H locs cells slots Q (F0 m (pc + 3) ls (.ref r :: rest))) : W p l e R s m args below meth c H locs cells slots Q (F0 m pc ls (.ref a :: rest)) :=
  y_getr C hW ha i_X14 (by decide) rfl (by decide) m_1851 rfl rfl hr hdg kk
end
theorem dX14_isBecome_0 : decode cX14_isBecome 0 = .ok (.iconst 0, 1) := by decide +kernel
theorem dX14_isBecome_1 : decode cX14_isBecome 1 = .ok (.istore_n 2, 1) := by decide +kernel
theorem dX14_isBecome_2 : decode cX14_isBecome 2 = .ok (.iconst 0, 1) := by decide +kernel
theorem dX14_isBecome_3 : decode cX14_isBecome 3 = .ok (.istore_n 3, 1) := by decide +kernel
theorem dX14_isBecome_4 : decode cX14_isBecome 4 = .ok (.iload_n 3, 1) := by decide +kernel
theorem dX14_isBecome_5 : decode cX14_isBecome 5 = .ok (.aload_n 0, 1) := by decide +kernel
theorem dX14_isBecome_6 : decode cX14_isBecome 6 = .ok (.getfield 39, 3) := by decide +kernel
theorem dX14_isBecome_9 : decode cX14_isBecome 9 = .ok (.if_icmp .ge 53, 3) := by decide +kernel
theorem dX14_isBecome_12 : decode cX14_isBecome 12 = .ok (.iconst 0, 1) := by decide +kernel
theorem dX14_isBecome_13 : decode cX14_isBecome 13 = .ok (.istore 4, 2) := by decide +kernel
theorem dX14_isBecome_15 : decode cX14_isBecome 15 = .ok (.iload 4, 2) := by decide +kernel
theorem dX14_isBecome_17 : decode cX14_isBecome 17 = .ok (.aload_n 0, 1) := by decide +kernel
theorem dX14_isBecome_18 : decode cX14_isBecome 18 = .ok (.getfield 36, 3) := by decide +kernel
theorem dX14_isBecome_21 : decode cX14_isBecome 21 = .ok (.iload_n 3, 1) := by decide +kernel
theorem dX14_isBecome_22 : decode cX14_isBecome 22 = .ok (.iaload, 1) := by decide +kernel
theorem dX14_isBecome_23 : decode cX14_isBecome 23 = .ok (.if_icmp .ge 33, 3) := by decide +kernel
theorem dX14_isBecome_26 : decode cX14_isBecome 26 = .ok (.iload_n 2, 1) := by decide +kernel
theorem dX14_isBecome_27 : decode cX14_isBecome 27 = .ok (.aload_n 0, 1) := by decide +kernel
theorem dX14_isBecome_28 : decode cX14_isBecome 28 = .ok (.getfield 33, 3) := by decide +kernel
theorem dX14_isBecome_31 : decode cX14_isBecome 31 = .ok (.bipush 6, 2) := by decide +kernel
theorem dX14_isBecome_33 : decode cX14_isBecome 33 = .ok (.iload_n 3, 1) := by decide +kernel
theorem dX14_isBecome_34 : decode cX14_isBecome 34 = .ok (.imul, 1) := by decide +kernel
theorem dX14_isBecome_35 : decode cX14_isBecome 35 = .ok (.iload 4, 2) := by decide +kernel
theorem dX14_isBecome_37 : decode cX14_isBecome 37 = .ok (.iadd, 1) := by decide +kernel
theorem dX14_isBecome_38 : decode cX14_isBecome 38 = .ok (.iaload, 1) := by decide +kernel
theorem dX14_isBecome_39 : decode cX14_isBecome 39 = .ok (.iload_n 1, 1) := by decide +kernel
theorem dX14_isBecome_40 : decode cX14_isBecome 40 = .ok (.if_icmp .ne 7, 3) := by decide +kernel
theorem dX14_isBecome_43 : decode cX14_isBecome 43 = .ok (.iconst 1, 1) := by decide +kernel
theorem dX14_isBecome_44 : decode cX14_isBecome 44 = .ok (.goto 4, 3) := by decide +kernel
theorem dX14_isBecome_47 : decode cX14_isBecome 47 = .ok (.iconst 0, 1) := by decide +kernel
theorem dX14_isBecome_48 : decode cX14_isBecome 48 = .ok (.ior, 1) := by decide +kernel
theorem dX14_isBecome_49 : decode cX14_isBecome 49 = .ok (.istore_n 2, 1) := by decide +kernel
theorem dX14_isBecome_50 : decode cX14_isBecome 50 = .ok (.iinc 4 1, 3) := by decide +kernel
theorem dX14_isBecome_53 : decode cX14_isBecome 53 = .ok (.goto (-38), 3) := by decide +kernel
theorem dX14_isBecome_56 : decode cX14_isBecome 56 = .ok (.iinc 3 1, 3) := by decide +kernel
theorem dX14_isBecome_59 : decode cX14_isBecome 59 = .ok (.goto (-55), 3) := by decide +kernel
theorem dX14_isBecome_62 : decode cX14_isBecome 62 = .ok (.iload_n 2, 1) := by decide +kernel
theorem dX14_isBecome_63 : decode cX14_isBecome 63 = .ok (.ireturn, 1) := by decide +kernel
def sX14_isBecome_48 (F : Nat) (k_4 : Hp → Nat → Int32 → Int32 → Int32 → Option (Int32 × Hp)) (k_15 : Hp → Nat → Int32 → Int32 → Int32 → Int32 → Option (Int32 × Hp)) (h : Hp) (x0 : Nat) (x1 : Int32) (x3 : Int32) (x4 : Int32) (t0 : Int32) (t1 : Int32) : Option (Int32 × Hp) := nm (t1 ||| t0) fun v_1 => nm (x4 + (1 : Int32)) fun v_2 => k_15 h x0 x1 v_1 x3 v_2
def sX14_isBecome_15 (F : Nat) (k_4 : Hp → Nat → Int32 → Int32 → Int32 → Option (Int32 × Hp)) : Nat → Hp → Nat → Int32 → Int32 → Int32 → Int32 → Option (Int32 × Hp)
  | 0, _, _, _, _, _, _ => none
  | f + 1, h, x0, x1, x2, x3, x4 => cl (hR h x0 14) fun r_1 => gd (inB x3 (hN h r_1)) <| br ((hI h r_1 x3.toNatClampNeg) ≤ x4) (nm (x3 + (1 : Int32)) fun v_4 => k_4 h x0 x1 x2 v_4) (cl (hR h x0 13) fun r_5 => gd (inB (((6 : Int32) * x3) + x4) (hN h r_5)) <| br ((hI h r_5 (((6 : Int32) * x3) + x4).toNatClampNeg) = x1) (sX14_isBecome_48 F k_4 (sX14_isBecome_15 F k_4 f) h x0 x1 x3 x4 (1 : Int32) x2) (sX14_isBecome_48 F k_4 (sX14_isBecome_15 F k_4 f) h x0 x1 x3 x4 (0 : Int32) x2))
def sX14_isBecome_4 (F : Nat) : Nat → Hp → Nat → Int32 → Int32 → Int32 → Option (Int32 × Hp)
  | 0, _, _, _, _, _ => none
  | f + 1, h, x0, x1, x2, x3 => br ((hI h x0 2) ≤ x3) (gd (x2 &&& 1 = x2) <| some (x2, h)) (sX14_isBecome_15 F (sX14_isBecome_4 F f) F h x0 x1 x2 x3 (0 : Int32))
def sX14_isBecome (F : Nat) (h : Hp) (x0 : Nat) (x1 : Int32) : Option (Int32 × Hp) := sX14_isBecome_4 F F h x0 x1 (0 : Int32) (0 : Int32)
theorem moX14_isBecome_48 {o : Int32 × Hp} {k_4 : Hp → Nat → Int32 → Int32 → Int32 → Option (Int32 × Hp)} {k_15 : Hp → Nat → Int32 → Int32 → Int32 → Int32 → Option (Int32 × Hp)} {F : Nat} (mk_4 : ∀ (h : Hp) (x0 : Nat) (x1 : Int32) (x2 : Int32) (x3 : Int32), k_4 h x0 x1 x2 x3 = some o → Le h o.2) (mk_15 : ∀ (h : Hp) (x0 : Nat) (x1 : Int32) (x2 : Int32) (x3 : Int32) (x4 : Int32), k_15 h x0 x1 x2 x3 x4 = some o → Le h o.2) {h : Hp} {x0 : Nat} {x1 : Int32} {x3 : Int32} {x4 : Int32} {t0 : Int32} {t1 : Int32} (hE : sX14_isBecome_48 F k_4 k_15 h x0 x1 x3 x4 t0 t1 = some o) : Le h o.2 := by
  obtain ⟨v_1, ev_1, hE⟩ := nm_e2 hE
  obtain ⟨v_2, ev_2, hE⟩ := nm_e2 hE
  exact mk_15 _ _ _ _ _ _ hE
theorem moX14_isBecome_15 {o : Int32 × Hp} {k_4 : Hp → Nat → Int32 → Int32 → Int32 → Option (Int32 × Hp)} {F : Nat} (mk_4 : ∀ (h : Hp) (x0 : Nat) (x1 : Int32) (x2 : Int32) (x3 : Int32), k_4 h x0 x1 x2 x3 = some o → Le h o.2) : ∀ (f : Nat) {h : Hp} {x0 : Nat} {x1 : Int32} {x2 : Int32} {x3 : Int32} {x4 : Int32}, sX14_isBecome_15 F k_4 f h x0 x1 x2 x3 x4 = some o → Le h o.2 := by
  intro f
  induction f with
  | zero =>
    intro h x0 x1 x2 x3 x4 hE
    rw [sX14_isBecome_15] at hE
    cases hE
  | succ f ih =>
    intro h x0 x1 x2 x3 x4 hE
    rw [sX14_isBecome_15] at hE
    have mk_15 : ∀ (h : Hp) (x0 : Nat) (x1 : Int32) (x2 : Int32) (x3 : Int32) (x4 : Int32), sX14_isBecome_15 F k_4 f h x0 x1 x2 x3 x4 = some o → Le h o.2 := fun h x0 x1 x2 x3 x4 hE => ih hE
    obtain ⟨r_1, er_1, hE⟩ := cl_e hE
    obtain ⟨g_2, hE⟩ := gd_e hE
    rcases br_e hE with ⟨_, hE⟩ | ⟨_, hE⟩
    · obtain ⟨v_4, ev_4, hE⟩ := nm_e2 hE
      exact mk_4 _ _ _ _ _ hE
    · obtain ⟨r_5, er_5, hE⟩ := cl_e hE
      obtain ⟨g_6, hE⟩ := gd_e hE
      rcases br_e hE with ⟨_, hE⟩ | ⟨_, hE⟩
      · exact moX14_isBecome_48 mk_4 mk_15 hE
      · exact moX14_isBecome_48 mk_4 mk_15 hE
theorem moX14_isBecome_4 {o : Int32 × Hp} {F : Nat} : ∀ (f : Nat) {h : Hp} {x0 : Nat} {x1 : Int32} {x2 : Int32} {x3 : Int32}, sX14_isBecome_4 F f h x0 x1 x2 x3 = some o → Le h o.2 := by
  intro f
  induction f with
  | zero =>
    intro h x0 x1 x2 x3 hE
    rw [sX14_isBecome_4] at hE
    cases hE
  | succ f ih =>
    intro h x0 x1 x2 x3 hE
    rw [sX14_isBecome_4] at hE
    have mk_4 : ∀ (h : Hp) (x0 : Nat) (x1 : Int32) (x2 : Int32) (x3 : Int32), sX14_isBecome_4 F f h x0 x1 x2 x3 = some o → Le h o.2 := fun h x0 x1 x2 x3 hE => ih hE
    rcases br_e hE with ⟨_, hE⟩ | ⟨_, hE⟩
    · obtain ⟨g_2, hE⟩ := gd_e hE
      cases hE
      exact Le.rf _
    · exact moX14_isBecome_15 mk_4 _ hE
theorem moX14_isBecome {o : Int32 × Hp} {F : Nat} {h : Hp} {x0 : Nat} {x1 : Int32} (hE : sX14_isBecome F h x0 x1 = some o) : Le h o.2 := by
  exact moX14_isBecome_4 _ hE
set_option maxRecDepth 20000 in
theorem bX14_isBecome_48 {p : Program} {l : Launch} {e : Env} {s : State} {m : MethodId} {args : Array Value} {below : List Frame} {meth : Method} {c : Code} {X : Ec} {h0 : Hp} {o : Int32 × Hp} {k_4 : Hp → Nat → Int32 → Int32 → Int32 → Option (Int32 × Hp)} {k_15 : Hp → Nat → Int32 → Int32 → Int32 → Int32 → Option (Int32 × Hp)} {F : Nat} (C : Cx X p s m args meth c RX14 cX14_isBecome 5 (some .boolean) "isBecome") (hk_4 : ∀ (h : Hp) (x0 : Nat) (x1 : Int32) (x2 : Int32) (x3 : Int32) (H : Heap) (locs : List Loc), hK h x0 = 14 → Km h0 h → Wx X h H → va_S (aA (eB X)) s.heap H locs → ∀ (ls : Array Slot), lv_has ls 5 [(0, .ref x0), (1, .int x1), (2, .int x2), (3, .int x3)] → k_4 h x0 x1 x2 x3 = some o → W p l e (rm 0 0) s m args below meth c H locs 0 0 (MQ below (QI X h0 o.1 o.2) args s 0 0 (aA (eB X))) (F0 m 4 ls [])) (hk_15 : ∀ (h : Hp) (x0 : Nat) (x1 : Int32) (x2 : Int32) (x3 : Int32) (x4 : Int32) (H : Heap) (locs : List Loc), hK h x0 = 14 → Km h0 h → Wx X h H → va_S (aA (eB X)) s.heap H locs → ∀ (ls : Array Slot), lv_has ls 5 [(0, .ref x0), (1, .int x1), (2, .int x2), (3, .int x3), (4, .int x4)] → k_15 h x0 x1 x2 x3 x4 = some o → W p l e (rm 0 0) s m args below meth c H locs 0 0 (MQ below (QI X h0 o.1 o.2) args s 0 0 (aA (eB X))) (F0 m 15 ls [])) {h : Hp} {x0 : Nat} {x1 : Int32} {x3 : Int32} {x4 : Int32} {t0 : Int32} {t1 : Int32} {H : Heap} {locs : List Loc} (k_x0 : hK h x0 = 14) (hkm : Km h0 h) (hW : Wx X h H) (hZ : va_S (aA (eB X)) s.heap H locs) (ls : Array Slot) (hl : lv_has ls 5 [(0, .ref x0), (1, .int x1), (3, .int x3), (4, .int x4)]) (hE : sX14_isBecome_48 F k_4 k_15 h x0 x1 x3 x4 t0 t1 = some o) : W p l e (rm 0 0) s m args below meth c H locs 0 0 (MQ below (QI X h0 o.1 o.2) args s 0 0 (aA (eB X))) (F0 m 48 ls [.int t0, .int t1]) := by
  refine lv_ior C.1 C.2.1 dX14_isBecome_48 ?_
  obtain ⟨v_1, ev_1, hE⟩ := nm_e2 hE
  refine x_nmI ev_1 ?_
  refine lv_istore_n (lv' := [(2, .int v_1), (0, .ref x0), (1, .int x1), (3, .int x3), (4, .int x4)]) C.1 C.2.1 dX14_isBecome_49 rfl hl (by decide) rfl (fun ls hl => ?_)
  obtain ⟨v_2, ev_2, hE⟩ := nm_e2 hE
  refine lv_iinc (v := v_2) (lv' := [(4, .int v_2), (2, .int v_1), (0, .ref x0), (1, .int x1), (3, .int x3)]) C.1 C.2.1 dX14_isBecome_50 hl (k := 4) rfl (by rw [ev_2]; rfl) (by decide) rfl (fun ls hl => ?_)
  refine lv_goto (tgt := 15) C.1 C.2.1 dX14_isBecome_53 (by decide) ?_
  exact hk_15 _ _ _ _ _ _ _ _ k_x0 hkm hW hZ _ (lv_sub hl [2, 3, 1, 4, 0] rfl) hE
set_option maxRecDepth 20000 in
theorem bX14_isBecome_15 {p : Program} {l : Launch} {e : Env} {s : State} {m : MethodId} {args : Array Value} {below : List Frame} {meth : Method} {c : Code} {X : Ec} {h0 : Hp} {o : Int32 × Hp} {k_4 : Hp → Nat → Int32 → Int32 → Int32 → Option (Int32 × Hp)} {F : Nat} (C : Cx X p s m args meth c RX14 cX14_isBecome 5 (some .boolean) "isBecome") (hk_4 : ∀ (h : Hp) (x0 : Nat) (x1 : Int32) (x2 : Int32) (x3 : Int32) (H : Heap) (locs : List Loc), hK h x0 = 14 → Km h0 h → Wx X h H → va_S (aA (eB X)) s.heap H locs → ∀ (ls : Array Slot), lv_has ls 5 [(0, .ref x0), (1, .int x1), (2, .int x2), (3, .int x3)] → k_4 h x0 x1 x2 x3 = some o → W p l e (rm 0 0) s m args below meth c H locs 0 0 (MQ below (QI X h0 o.1 o.2) args s 0 0 (aA (eB X))) (F0 m 4 ls [])) : ∀ (f : Nat) {h : Hp} {x0 : Nat} {x1 : Int32} {x2 : Int32} {x3 : Int32} {x4 : Int32} {H : Heap} {locs : List Loc} (k_x0 : hK h x0 = 14), Km h0 h → Wx X h H → va_S (aA (eB X)) s.heap H locs → ∀ (ls : Array Slot), lv_has ls 5 [(0, .ref x0), (1, .int x1), (2, .int x2), (3, .int x3), (4, .int x4)] → sX14_isBecome_15 F k_4 f h x0 x1 x2 x3 x4 = some o → W p l e (rm 0 0) s m args below meth c H locs 0 0 (MQ below (QI X h0 o.1 o.2) args s 0 0 (aA (eB X))) (F0 m 15 ls []) := by
  intro f
  induction f with
  | zero =>
    intro h x0 x1 x2 x3 x4 H locs k_x0 hkm hW hZ ls hl hE
    rw [sX14_isBecome_15] at hE
    cases hE
  | succ f ih =>
    intro h x0 x1 x2 x3 x4 H locs k_x0 hkm hW hZ ls hl hE
    rw [sX14_isBecome_15] at hE
    have hk_15 : ∀ (h : Hp) (x0 : Nat) (x1 : Int32) (x2 : Int32) (x3 : Int32) (x4 : Int32) (H : Heap) (locs : List Loc), hK h x0 = 14 → Km h0 h → Wx X h H → va_S (aA (eB X)) s.heap H locs → ∀ (ls : Array Slot), lv_has ls 5 [(0, .ref x0), (1, .int x1), (2, .int x2), (3, .int x3), (4, .int x4)] → sX14_isBecome_15 F k_4 f h x0 x1 x2 x3 x4 = some o → W p l e (rm 0 0) s m args below meth c H locs 0 0 (MQ below (QI X h0 o.1 o.2) args s 0 0 (aA (eB X))) (F0 m 15 ls []) := fun h x0 x1 x2 x3 x4 H locs k_x0 a b c ls hl hE => ih k_x0 a b c ls hl hE
    refine lv_iload C.1 C.2.1 dX14_isBecome_15 (lv_at hl 4 rfl) ?_
    refine lv_aload_n C.1 C.2.1 dX14_isBecome_17 rfl (lv_at hl 0 rfl) ?_
    obtain ⟨r_1, er_1, hE⟩ := cl_e hE
    refine gf_X14_36 C hW k_x0 er_1 dX14_isBecome_18 (fun k_r_1 => ?_)
    refine lv_iload_n C.1 C.2.1 dX14_isBecome_21 rfl (lv_at hl 3 rfl) ?_
    obtain ⟨g_2, hE⟩ := gd_e hE
    refine y_iald C hW k_r_1 g_2 dX14_isBecome_22 ?_
    refine lv_icmp_ge (tgt := 56) C.1 C.2.1 dX14_isBecome_23 (by decide) (fun c_3 => ?_) (fun c_3 => ?_)
    · have hE := br_p hE c_3
      obtain ⟨v_4, ev_4, hE⟩ := nm_e2 hE
      refine lv_iinc (v := v_4) (lv' := [(3, .int v_4), (0, .ref x0), (1, .int x1), (2, .int x2), (4, .int x4)]) C.1 C.2.1 dX14_isBecome_56 hl (k := 3) rfl (by rw [ev_4]; rfl) (by decide) rfl (fun ls hl => ?_)
      refine lv_goto (tgt := 4) C.1 C.2.1 dX14_isBecome_59 (by decide) ?_
      exact hk_4 _ _ _ _ _ _ _ k_x0 hkm hW hZ _ (lv_sub hl [1, 2, 3, 0] rfl) hE
    · have hE := br_n hE c_3
      refine lv_iload_n C.1 C.2.1 dX14_isBecome_26 rfl (lv_at hl 2 rfl) ?_
      refine lv_aload_n C.1 C.2.1 dX14_isBecome_27 rfl (lv_at hl 0 rfl) ?_
      obtain ⟨r_5, er_5, hE⟩ := cl_e hE
      refine gf_X14_33 C hW k_x0 er_5 dX14_isBecome_28 (fun k_r_5 => ?_)
      refine lv_bipush (v := (6 : Int32)) C.1 C.2.1 dX14_isBecome_31 (by decide) ?_
      refine lv_iload_n C.1 C.2.1 dX14_isBecome_33 rfl (lv_at hl 3 rfl) ?_
      refine lv_imul C.1 C.2.1 dX14_isBecome_34 ?_
      refine lv_iload C.1 C.2.1 dX14_isBecome_35 (lv_at hl 4 rfl) ?_
      refine lv_iadd C.1 C.2.1 dX14_isBecome_37 ?_
      obtain ⟨g_6, hE⟩ := gd_e hE
      refine y_iald C hW k_r_5 g_6 dX14_isBecome_38 ?_
      refine lv_iload_n C.1 C.2.1 dX14_isBecome_39 rfl (lv_at hl 1 rfl) ?_
      refine lv_icmp_ne (tgt := 47) C.1 C.2.1 dX14_isBecome_40 (by decide) (fun c_7 => ?_) (fun c_7 => ?_)
      · have hE := br_n hE c_7
        refine lv_iconst (v := (0 : Int32)) C.1 C.2.1 dX14_isBecome_47 (by decide) ?_
        exact bX14_isBecome_48 C hk_4 hk_15 k_x0 hkm hW hZ _ (lv_sub hl [0, 1, 3, 4] rfl) hE
      · have hE := br_p hE c_7
        refine lv_iconst (v := (1 : Int32)) C.1 C.2.1 dX14_isBecome_43 (by decide) ?_
        refine lv_goto (tgt := 48) C.1 C.2.1 dX14_isBecome_44 (by decide) ?_
        exact bX14_isBecome_48 C hk_4 hk_15 k_x0 hkm hW hZ _ (lv_sub hl [0, 1, 3, 4] rfl) hE
set_option maxRecDepth 20000 in
theorem bX14_isBecome_4 {p : Program} {l : Launch} {e : Env} {s : State} {m : MethodId} {args : Array Value} {below : List Frame} {meth : Method} {c : Code} {X : Ec} {h0 : Hp} {o : Int32 × Hp} {F : Nat} (C : Cx X p s m args meth c RX14 cX14_isBecome 5 (some .boolean) "isBecome") : ∀ (f : Nat) {h : Hp} {x0 : Nat} {x1 : Int32} {x2 : Int32} {x3 : Int32} {H : Heap} {locs : List Loc} (k_x0 : hK h x0 = 14), Km h0 h → Wx X h H → va_S (aA (eB X)) s.heap H locs → ∀ (ls : Array Slot), lv_has ls 5 [(0, .ref x0), (1, .int x1), (2, .int x2), (3, .int x3)] → sX14_isBecome_4 F f h x0 x1 x2 x3 = some o → W p l e (rm 0 0) s m args below meth c H locs 0 0 (MQ below (QI X h0 o.1 o.2) args s 0 0 (aA (eB X))) (F0 m 4 ls []) := by
  intro f
  induction f with
  | zero =>
    intro h x0 x1 x2 x3 H locs k_x0 hkm hW hZ ls hl hE
    rw [sX14_isBecome_4] at hE
    cases hE
  | succ f ih =>
    intro h x0 x1 x2 x3 H locs k_x0 hkm hW hZ ls hl hE
    rw [sX14_isBecome_4] at hE
    have hk_4 : ∀ (h : Hp) (x0 : Nat) (x1 : Int32) (x2 : Int32) (x3 : Int32) (H : Heap) (locs : List Loc), hK h x0 = 14 → Km h0 h → Wx X h H → va_S (aA (eB X)) s.heap H locs → ∀ (ls : Array Slot), lv_has ls 5 [(0, .ref x0), (1, .int x1), (2, .int x2), (3, .int x3)] → sX14_isBecome_4 F f h x0 x1 x2 x3 = some o → W p l e (rm 0 0) s m args below meth c H locs 0 0 (MQ below (QI X h0 o.1 o.2) args s 0 0 (aA (eB X))) (F0 m 4 ls []) := fun h x0 x1 x2 x3 H locs k_x0 a b c ls hl hE => ih k_x0 a b c ls hl hE
    refine lv_iload_n C.1 C.2.1 dX14_isBecome_4 rfl (lv_at hl 3 rfl) ?_
    refine lv_aload_n C.1 C.2.1 dX14_isBecome_5 rfl (lv_at hl 0 rfl) ?_
    refine gf_X14_39 C hW k_x0 dX14_isBecome_6 ?_
    refine lv_icmp_ge (tgt := 62) C.1 C.2.1 dX14_isBecome_9 (by decide) (fun c_1 => ?_) (fun c_1 => ?_)
    · have hE := br_p hE c_1
      refine lv_iload_n C.1 C.2.1 dX14_isBecome_62 rfl (lv_at hl 2 rfl) ?_
      obtain ⟨g_2, hE⟩ := gd_e hE
      exact x_iret C rfl (narB g_2) hW hZ hkm hE dX14_isBecome_63
    · have hE := br_n hE c_1
      refine lv_iconst (v := (0 : Int32)) C.1 C.2.1 dX14_isBecome_12 (by decide) ?_
      refine lv_istore (lv' := [(4, .int (0 : Int32)), (0, .ref x0), (1, .int x1), (2, .int x2), (3, .int x3)]) C.1 C.2.1 dX14_isBecome_13 hl (by decide) rfl (fun ls hl => ?_)
      exact bX14_isBecome_15 C hk_4 F k_x0 hkm hW hZ _ (lv_sub hl [1, 2, 3, 4, 0] rfl) hE
set_option maxRecDepth 20000 in
theorem ct_X14_isBecome (l : Launch) (X : Ec) (F : Nat) {h : Hp} {x0 : Nat} {x1 : Int32} {o : Int32 × Hp} (k_x0 : hK h x0 = 14) (hE : sX14_isBecome F h x0 x1 = some o) : MetI l yX14_isBecome cX14_isBecome 5 (some .boolean) 0 0 X [.ref x0, .int x1] h o := by
  refine x_met (by decide) (Nat.le_of_ble_eq_true rfl) ?_
  intro p e s m below meth c ls C hl hW hZ
  have hl : lv_has ls 5 [(0, .ref x0), (1, .int x1)] := hl
  have hkm : Km h h := Km.rf h
  refine lv_iconst (v := (0 : Int32)) C.1 C.2.1 dX14_isBecome_0 (by decide) ?_
  refine lv_istore_n (lv' := [(2, .int (0 : Int32)), (0, .ref x0), (1, .int x1)]) C.1 C.2.1 dX14_isBecome_1 rfl hl (by decide) rfl (fun ls hl => ?_)
  refine lv_iconst (v := (0 : Int32)) C.1 C.2.1 dX14_isBecome_2 (by decide) ?_
  refine lv_istore_n (lv' := [(3, .int (0 : Int32)), (2, .int (0 : Int32)), (0, .ref x0), (1, .int x1)]) C.1 C.2.1 dX14_isBecome_3 rfl hl (by decide) rfl (fun ls hl => ?_)
  exact bX14_isBecome_4 C F k_x0 hkm hW hZ _ (lv_sub hl [2, 3, 1, 0] rfl) hE
theorem m_1931 : Cond.fieldLink RX12 30 (TX12 1).1 (TX12 1).2.1 (TX12 1).2.2.1 ∈ W0 := w0_in (List.mem_append_right _ (List.mem_of_getElem? (i := 1931) (by decide +kernel))) rfl
theorem m_1933 : Cond.fieldLink RX12 34 (TX12 2).1 (TX12 2).2.1 (TX12 2).2.2.1 ∈ W0 := w0_in (List.mem_append_right _ (List.mem_of_getElem? (i := 1933) (by decide +kernel))) rfl
theorem m_1935 : Cond.fieldLink RX12 38 (TX12 3).1 (TX12 3).2.1 (TX12 3).2.2.1 ∈ W0 := w0_in (List.mem_append_right _ (List.mem_of_getElem? (i := 1935) (by decide +kernel))) rfl
theorem m_1943 : Cond.fieldLink RX12 41 (TX12 7).1 (TX12 7).2.1 (TX12 7).2.2.1 ∈ W0 := w0_in (List.mem_append_right _ (List.mem_of_getElem? (i := 1943) (by decide +kernel))) rfl
section
variable {p : Program} {l : Launch} {e : Env} {R : Room} {s : State} {m : MethodId} {args : Array Value} {below : List Frame} {meth : Method} {c : Code} {H : Heap} {locs : List Loc} {cells slots : Nat} {Q : State → Prop}
variable {cc : ByteArray} {pc : Nat} {ls : Array Slot} {rest : List Value} {X : Ec} {h h1 : Hp} {nL : Nat} {rt : Option FieldType} {mn : String}
theorem gf_X12_21 {a r : Nat} (C : Cx X p s m args meth c RX12 cc nL rt mn) (hW : Wx X h H) (ha : hK h a = 12) (hr : hR h a 6 = some r) (hdg : decode cc pc = .ok (.getfield 21, 3)) (kk : hK h r = 17 → W p l e R s m args below meth c H locs cells slots Q (F0 m (pc + 3) ls (.ref r :: rest))) : W p l e R s m args below meth c H locs cells slots Q (F0 m pc ls (.ref a :: rest)) :=
  y_getr C hW ha i_X12 (by decide) rfl (by decide) m_1941 rfl rfl hr hdg kk
theorem pf_X12_41 {a : Nat} {v : Int32} (C : Cx X p s m args meth c RX12 cc nL rt mn) (hW : Wx X h H) (hZ : va_S (aA (eB X)) s.heap H locs) (ha : hK h a = 12) (eh : h1 = wI h a 7 v) (hdg : decode cc pc = .ok (.putfield 41, 3)) (kk : ∀ (H1 : Heap) (locs1 : List Loc), Wx X h1 H1 → Km h h1 → va_S (aA (eB X)) s.heap H1 locs1 → W p l e R s m args below meth c H1 locs1 cells slots Q (F0 m (pc + 3) ls rest)) : W p l e R s m args below meth c H locs cells slots Q (F0 m pc ls (.int v :: .ref a :: rest)) :=
  y_puti (ty := .int) C hW hZ ha i_X12 tyX12 tyX12_ok nmX12 (by decide) rfl rfl (by decide) m_1943 rfl (by decide +kernel) rfl rfl rfl eh hdg kk
theorem gf_X12_18 {a r : Nat} (C : Cx X p s m args meth c RX12 cc nL rt mn) (hW : Wx X h H) (ha : hK h a = 12) (hr : hR h a 5 = some r) (hdg : decode cc pc = .ok (.getfield 18, 3)) (kk : hK h r = 17 → W p l e R s m args below meth c H locs cells slots Q (F0 m (pc + 3) ls (.ref r :: rest))) : W p l e R s m args below meth c H locs cells slots Q (F0 m pc ls (.ref a :: rest)) :=
  y_getr C hW ha i_X12 (by decide) rfl (by decide) m_1939 rfl rfl hr hdg kk
theorem pf_X12_30 {a : Nat} {v : Int32} (C : Cx X p s m args meth c RX12 cc nL rt mn) (hW : Wx X h H) (hZ : va_S (aA (eB X)) s.heap H locs) (ha : hK h a = 12) (eh : h1 = wI h a 1 v) (hdg : decode cc pc = .ok (.putfield 30, 3)) (kk : ∀ (H1 : Heap) (locs1 : List Loc), Wx X h1 H1 → Km h h1 → va_S (aA (eB X)) s.heap H1 locs1 → W p l e R s m args below meth c H1 locs1 cells slots Q (F0 m (pc + 3) ls rest)) : W p l e R s m args below meth c H locs cells slots Q (F0 m pc ls (.int v :: .ref a :: rest)) :=
  y_puti (ty := .int) C hW hZ ha i_X12 tyX12 tyX12_ok nmX12 (by decide) rfl rfl (by decide) m_1931 rfl (by decide +kernel) rfl rfl rfl eh hdg kk
theorem pf_X12_34 {a : Nat} {v : Int64} (C : Cx X p s m args meth c RX12 cc nL rt mn) (hW : Wx X h H) (hZ : va_S (aA (eB X)) s.heap H locs) (ha : hK h a = 12) (eh : h1 = wJ h a 2 v) (hdg : decode cc pc = .ok (.putfield 34, 3)) (kk : ∀ (H1 : Heap) (locs1 : List Loc), Wx X h1 H1 → Km h h1 → va_S (aA (eB X)) s.heap H1 locs1 → W p l e R s m args below meth c H1 locs1 cells slots Q (F0 m (pc + 3) ls rest)) : W p l e R s m args below meth c H locs cells slots Q (F0 m pc ls (.long v :: .ref a :: rest)) :=
  y_putj C hW hZ ha i_X12 tyX12 tyX12_ok nmX12 (by decide) rfl rfl (by decide) m_1933 rfl (by decide +kernel) rfl eh hdg kk
theorem pf_X12_38 {a : Nat} {v : Int32} (C : Cx X p s m args meth c RX12 cc nL rt mn) (hW : Wx X h H) (hZ : va_S (aA (eB X)) s.heap H locs) (ha : hK h a = 12) (eh : h1 = wI h a 3 v) (hdg : decode cc pc = .ok (.putfield 38, 3)) (kk : ∀ (H1 : Heap) (locs1 : List Loc), Wx X h1 H1 → Km h h1 → va_S (aA (eB X)) s.heap H1 locs1 → W p l e R s m args below meth c H1 locs1 cells slots Q (F0 m (pc + 3) ls rest)) : W p l e R s m args below meth c H locs cells slots Q (F0 m pc ls (.int v :: .ref a :: rest)) :=
  y_puti (ty := .int) C hW hZ ha i_X12 tyX12 tyX12_ok nmX12 (by decide) rfl rfl (by decide) m_1935 rfl (by decide +kernel) rfl rfl rfl eh hdg kk
theorem gf_X12_9 {a r : Nat} (C : Cx X p s m args meth c RX12 cc nL rt mn) (hW : Wx X h H) (ha : hK h a = 12) (hr : hR h a 0 = some r) (hdg : decode cc pc = .ok (.getfield 9, 3)) (kk : hK h r = 17 → W p l e R s m args below meth c H locs cells slots Q (F0 m (pc + 3) ls (.ref r :: rest))) : W p l e R s m args below meth c H locs cells slots Q (F0 m pc ls (.ref a :: rest)) :=
  y_getr C hW ha i_X12 (by decide) rfl (by decide) m_1929 rfl rfl hr hdg kk
end
theorem dX12_clear_0 : decode cX12_clear 0 = .ok (.iconst 0, 1) := by decide +kernel
theorem dX12_clear_1 : decode cX12_clear 1 = .ok (.istore_n 1, 1) := by decide +kernel
theorem dX12_clear_2 : decode cX12_clear 2 = .ok (.iload_n 1, 1) := by decide +kernel
theorem dX12_clear_3 : decode cX12_clear 3 = .ok (.bipush 64, 2) := by decide +kernel
theorem dX12_clear_5 : decode cX12_clear 5 = .ok (.if_icmp .ge 16, 3) := by decide +kernel
theorem dX12_clear_8 : decode cX12_clear 8 = .ok (.aload_n 0, 1) := by decide +kernel
theorem dX12_clear_9 : decode cX12_clear 9 = .ok (.getfield 9, 3) := by decide +kernel
theorem dX12_clear_12 : decode cX12_clear 12 = .ok (.iload_n 1, 1) := by decide +kernel
theorem dX12_clear_13 : decode cX12_clear 13 = .ok (.iconst 0, 1) := by decide +kernel
theorem dX12_clear_14 : decode cX12_clear 14 = .ok (.iastore, 1) := by decide +kernel
theorem dX12_clear_15 : decode cX12_clear 15 = .ok (.iinc 1 1, 3) := by decide +kernel
theorem dX12_clear_18 : decode cX12_clear 18 = .ok (.goto (-16), 3) := by decide +kernel
theorem dX12_clear_21 : decode cX12_clear 21 = .ok (.aload_n 0, 1) := by decide +kernel
theorem dX12_clear_22 : decode cX12_clear 22 = .ok (.iconst 0, 1) := by decide +kernel
theorem dX12_clear_23 : decode cX12_clear 23 = .ok (.putfield 30, 3) := by decide +kernel
theorem dX12_clear_26 : decode cX12_clear 26 = .ok (.aload_n 0, 1) := by decide +kernel
theorem dX12_clear_27 : decode cX12_clear 27 = .ok (.lconst 0, 1) := by decide +kernel
theorem dX12_clear_28 : decode cX12_clear 28 = .ok (.putfield 34, 3) := by decide +kernel
theorem dX12_clear_31 : decode cX12_clear 31 = .ok (.aload_n 0, 1) := by decide +kernel
theorem dX12_clear_32 : decode cX12_clear 32 = .ok (.iconst 0, 1) := by decide +kernel
theorem dX12_clear_33 : decode cX12_clear 33 = .ok (.putfield 38, 3) := by decide +kernel
theorem dX12_clear_36 : decode cX12_clear 36 = .ok (.iconst 0, 1) := by decide +kernel
theorem dX12_clear_37 : decode cX12_clear 37 = .ok (.istore_n 1, 1) := by decide +kernel
theorem dX12_clear_38 : decode cX12_clear 38 = .ok (.iload_n 1, 1) := by decide +kernel
theorem dX12_clear_39 : decode cX12_clear 39 = .ok (.bipush 24, 2) := by decide +kernel
theorem dX12_clear_41 : decode cX12_clear 41 = .ok (.if_icmp .ge 16, 3) := by decide +kernel
theorem dX12_clear_44 : decode cX12_clear 44 = .ok (.aload_n 0, 1) := by decide +kernel
theorem dX12_clear_45 : decode cX12_clear 45 = .ok (.getfield 18, 3) := by decide +kernel
theorem dX12_clear_48 : decode cX12_clear 48 = .ok (.iload_n 1, 1) := by decide +kernel
theorem dX12_clear_49 : decode cX12_clear 49 = .ok (.iconst 0, 1) := by decide +kernel
theorem dX12_clear_50 : decode cX12_clear 50 = .ok (.iastore, 1) := by decide +kernel
theorem dX12_clear_51 : decode cX12_clear 51 = .ok (.iinc 1 1, 3) := by decide +kernel
theorem dX12_clear_54 : decode cX12_clear 54 = .ok (.goto (-16), 3) := by decide +kernel
theorem dX12_clear_57 : decode cX12_clear 57 = .ok (.aload_n 0, 1) := by decide +kernel
theorem dX12_clear_58 : decode cX12_clear 58 = .ok (.getfield 21, 3) := by decide +kernel
theorem dX12_clear_61 : decode cX12_clear 61 = .ok (.iconst 0, 1) := by decide +kernel
theorem dX12_clear_62 : decode cX12_clear 62 = .ok (.iconst 0, 1) := by decide +kernel
theorem dX12_clear_63 : decode cX12_clear 63 = .ok (.iastore, 1) := by decide +kernel
theorem dX12_clear_64 : decode cX12_clear 64 = .ok (.aload_n 0, 1) := by decide +kernel
theorem dX12_clear_65 : decode cX12_clear 65 = .ok (.getfield 21, 3) := by decide +kernel
theorem dX12_clear_68 : decode cX12_clear 68 = .ok (.iconst 1, 1) := by decide +kernel
theorem dX12_clear_69 : decode cX12_clear 69 = .ok (.iconst 0, 1) := by decide +kernel
theorem dX12_clear_70 : decode cX12_clear 70 = .ok (.iastore, 1) := by decide +kernel
theorem dX12_clear_71 : decode cX12_clear 71 = .ok (.aload_n 0, 1) := by decide +kernel
theorem dX12_clear_72 : decode cX12_clear 72 = .ok (.iconst 0, 1) := by decide +kernel
theorem dX12_clear_73 : decode cX12_clear 73 = .ok (.putfield 41, 3) := by decide +kernel
theorem dX12_clear_76 : decode cX12_clear 76 = .ok (.return_, 1) := by decide +kernel
def sX12_clear_38 (F : Nat) : Nat → Hp → Nat → Int32 → Option (Hp)
  | 0, _, _, _ => none
  | f + 1, h, x0, x1 => br ((24 : Int32) ≤ x1) (cl (hR h x0 6) fun r_2 => gd (inB (0 : Int32) (hN h r_2)) <| nm (wI h r_2 (0 : Int32).toNatClampNeg (0 : Int32)) fun h_4 => cl (hR h_4 x0 6) fun r_5 => gd (inB (1 : Int32) (hN h_4 r_5)) <| nm (wI h_4 r_5 (1 : Int32).toNatClampNeg (0 : Int32)) fun h_7 => nm (wI h_7 x0 7 (0 : Int32)) fun h_8 => some h_8) (cl (hR h x0 5) fun r_9 => gd (inB x1 (hN h r_9)) <| nm (wI h r_9 x1.toNatClampNeg (0 : Int32)) fun h_11 => nm (x1 + (1 : Int32)) fun v_12 => sX12_clear_38 F f h_11 x0 v_12)
def sX12_clear_2 (F : Nat) : Nat → Hp → Nat → Int32 → Option (Hp)
  | 0, _, _, _ => none
  | f + 1, h, x0, x1 => br ((64 : Int32) ≤ x1) (nm (wI h x0 1 (0 : Int32)) fun h_2 => nm (wJ h_2 x0 2 (0 : Int64)) fun h_3 => nm (wI h_3 x0 3 (0 : Int32)) fun h_4 => sX12_clear_38 F F h_4 x0 (0 : Int32)) (cl (hR h x0 0) fun r_5 => gd (inB x1 (hN h r_5)) <| nm (wI h r_5 x1.toNatClampNeg (0 : Int32)) fun h_7 => nm (x1 + (1 : Int32)) fun v_8 => sX12_clear_2 F f h_7 x0 v_8)
def sX12_clear (F : Nat) (h : Hp) (x0 : Nat) : Option (Hp) := sX12_clear_2 F F h x0 (0 : Int32)
theorem moX12_clear_38 {o : Hp} {F : Nat} : ∀ (f : Nat) {h : Hp} {x0 : Nat} {x1 : Int32}, sX12_clear_38 F f h x0 x1 = some o → Le h o := by
  intro f
  induction f with
  | zero =>
    intro h x0 x1 hE
    rw [sX12_clear_38] at hE
    cases hE
  | succ f ih =>
    intro h x0 x1 hE
    rw [sX12_clear_38] at hE
    have mk_38 : ∀ (h : Hp) (x0 : Nat) (x1 : Int32), sX12_clear_38 F f h x0 x1 = some o → Le h o := fun h x0 x1 hE => ih hE
    rcases br_e hE with ⟨_, hE⟩ | ⟨_, hE⟩
    · obtain ⟨r_2, er_2, hE⟩ := cl_e hE
      obtain ⟨g_3, hE⟩ := gd_e hE
      obtain ⟨h_4, eh_4, hE⟩ := nm_e2 hE
      refine (le_I eh_4).tr ?_
      obtain ⟨r_5, er_5, hE⟩ := cl_e hE
      obtain ⟨g_6, hE⟩ := gd_e hE
      obtain ⟨h_7, eh_7, hE⟩ := nm_e2 hE
      refine (le_I eh_7).tr ?_
      obtain ⟨h_8, eh_8, hE⟩ := nm_e2 hE
      refine (le_I eh_8).tr ?_
      cases hE
      exact Le.rf _
    · obtain ⟨r_9, er_9, hE⟩ := cl_e hE
      obtain ⟨g_10, hE⟩ := gd_e hE
      obtain ⟨h_11, eh_11, hE⟩ := nm_e2 hE
      refine (le_I eh_11).tr ?_
      obtain ⟨v_12, ev_12, hE⟩ := nm_e2 hE
      exact mk_38 _ _ _ hE
theorem moX12_clear_2 {o : Hp} {F : Nat} : ∀ (f : Nat) {h : Hp} {x0 : Nat} {x1 : Int32}, sX12_clear_2 F f h x0 x1 = some o → Le h o := by
  intro f
  induction f with
  | zero =>
    intro h x0 x1 hE
    rw [sX12_clear_2] at hE
    cases hE
  | succ f ih =>
    intro h x0 x1 hE
    rw [sX12_clear_2] at hE
    have mk_2 : ∀ (h : Hp) (x0 : Nat) (x1 : Int32), sX12_clear_2 F f h x0 x1 = some o → Le h o := fun h x0 x1 hE => ih hE
    rcases br_e hE with ⟨_, hE⟩ | ⟨_, hE⟩
    · obtain ⟨h_2, eh_2, hE⟩ := nm_e2 hE
      refine (le_I eh_2).tr ?_
      obtain ⟨h_3, eh_3, hE⟩ := nm_e2 hE
      refine (le_J eh_3).tr ?_
      obtain ⟨h_4, eh_4, hE⟩ := nm_e2 hE
      refine (le_I eh_4).tr ?_
      exact moX12_clear_38 _ hE
    · obtain ⟨r_5, er_5, hE⟩ := cl_e hE
      obtain ⟨g_6, hE⟩ := gd_e hE
      obtain ⟨h_7, eh_7, hE⟩ := nm_e2 hE
      refine (le_I eh_7).tr ?_
      obtain ⟨v_8, ev_8, hE⟩ := nm_e2 hE
      exact mk_2 _ _ _ hE
theorem moX12_clear {o : Hp} {F : Nat} {h : Hp} {x0 : Nat} (hE : sX12_clear F h x0 = some o) : Le h o := by
  exact moX12_clear_2 _ hE
set_option maxRecDepth 20000 in
theorem bX12_clear_38 {p : Program} {l : Launch} {e : Env} {s : State} {m : MethodId} {args : Array Value} {below : List Frame} {meth : Method} {c : Code} {X : Ec} {h0 : Hp} {o : Hp} {F : Nat} (C : Cx X p s m args meth c RX12 cX12_clear 2 none "clear") : ∀ (f : Nat) {h : Hp} {x0 : Nat} {x1 : Int32} {H : Heap} {locs : List Loc} (k_x0 : hK h x0 = 12), Km h0 h → Wx X h H → va_S (aA (eB X)) s.heap H locs → ∀ (ls : Array Slot), lv_has ls 2 [(0, .ref x0), (1, .int x1)] → sX12_clear_38 F f h x0 x1 = some o → W p l e (rm 0 0) s m args below meth c H locs 0 0 (MQ below (QV X h0 o) args s 0 0 (aA (eB X))) (F0 m 38 ls []) := by
  intro f
  induction f with
  | zero =>
    intro h x0 x1 H locs k_x0 hkm hW hZ ls hl hE
    rw [sX12_clear_38] at hE
    cases hE
  | succ f ih =>
    intro h x0 x1 H locs k_x0 hkm hW hZ ls hl hE
    rw [sX12_clear_38] at hE
    have hk_38 : ∀ (h : Hp) (x0 : Nat) (x1 : Int32) (H : Heap) (locs : List Loc), hK h x0 = 12 → Km h0 h → Wx X h H → va_S (aA (eB X)) s.heap H locs → ∀ (ls : Array Slot), lv_has ls 2 [(0, .ref x0), (1, .int x1)] → sX12_clear_38 F f h x0 x1 = some o → W p l e (rm 0 0) s m args below meth c H locs 0 0 (MQ below (QV X h0 o) args s 0 0 (aA (eB X))) (F0 m 38 ls []) := fun h x0 x1 H locs k_x0 a b c ls hl hE => ih k_x0 a b c ls hl hE
    refine lv_iload_n C.1 C.2.1 dX12_clear_38 rfl (lv_at hl 1 rfl) ?_
    refine lv_bipush (v := (24 : Int32)) C.1 C.2.1 dX12_clear_39 (by decide) ?_
    refine lv_icmp_ge (tgt := 57) C.1 C.2.1 dX12_clear_41 (by decide) (fun c_1 => ?_) (fun c_1 => ?_)
    · have hE := br_p hE c_1
      refine lv_aload_n C.1 C.2.1 dX12_clear_57 rfl (lv_at hl 0 rfl) ?_
      obtain ⟨r_2, er_2, hE⟩ := cl_e hE
      refine gf_X12_21 C hW k_x0 er_2 dX12_clear_58 (fun k_r_2 => ?_)
      refine lv_iconst (v := (0 : Int32)) C.1 C.2.1 dX12_clear_61 (by decide) ?_
      refine lv_iconst (v := (0 : Int32)) C.1 C.2.1 dX12_clear_62 (by decide) ?_
      obtain ⟨g_3, hE⟩ := gd_e hE
      obtain ⟨h_4, eh_4, hE⟩ := nm_e2 hE
      refine y_iast C hW hZ k_r_2 g_3 eh_4 dX12_clear_63 (fun _ _ hW km hZ => ?_)
      replace hkm := hkm.tr km
      replace k_x0 := km.at k_x0 (by decide)
      refine lv_aload_n C.1 C.2.1 dX12_clear_64 rfl (lv_at hl 0 rfl) ?_
      obtain ⟨r_5, er_5, hE⟩ := cl_e hE
      refine gf_X12_21 C hW k_x0 er_5 dX12_clear_65 (fun k_r_5 => ?_)
      refine lv_iconst (v := (1 : Int32)) C.1 C.2.1 dX12_clear_68 (by decide) ?_
      refine lv_iconst (v := (0 : Int32)) C.1 C.2.1 dX12_clear_69 (by decide) ?_
      obtain ⟨g_6, hE⟩ := gd_e hE
      obtain ⟨h_7, eh_7, hE⟩ := nm_e2 hE
      refine y_iast C hW hZ k_r_5 g_6 eh_7 dX12_clear_70 (fun _ _ hW km hZ => ?_)
      replace hkm := hkm.tr km
      replace k_x0 := km.at k_x0 (by decide)
      refine lv_aload_n C.1 C.2.1 dX12_clear_71 rfl (lv_at hl 0 rfl) ?_
      refine lv_iconst (v := (0 : Int32)) C.1 C.2.1 dX12_clear_72 (by decide) ?_
      obtain ⟨h_8, eh_8, hE⟩ := nm_e2 hE
      refine pf_X12_41 C hW hZ k_x0 eh_8 dX12_clear_73 (fun _ _ hW km hZ => ?_)
      replace hkm := hkm.tr km
      replace k_x0 := km.at k_x0 (by decide)
      exact x_vret C rfl hW hZ hkm hE dX12_clear_76
    · have hE := br_n hE c_1
      refine lv_aload_n C.1 C.2.1 dX12_clear_44 rfl (lv_at hl 0 rfl) ?_
      obtain ⟨r_9, er_9, hE⟩ := cl_e hE
      refine gf_X12_18 C hW k_x0 er_9 dX12_clear_45 (fun k_r_9 => ?_)
      refine lv_iload_n C.1 C.2.1 dX12_clear_48 rfl (lv_at hl 1 rfl) ?_
      refine lv_iconst (v := (0 : Int32)) C.1 C.2.1 dX12_clear_49 (by decide) ?_
      obtain ⟨g_10, hE⟩ := gd_e hE
      obtain ⟨h_11, eh_11, hE⟩ := nm_e2 hE
      refine y_iast C hW hZ k_r_9 g_10 eh_11 dX12_clear_50 (fun _ _ hW km hZ => ?_)
      replace hkm := hkm.tr km
      replace k_x0 := km.at k_x0 (by decide)
      obtain ⟨v_12, ev_12, hE⟩ := nm_e2 hE
      refine lv_iinc (v := v_12) (lv' := [(1, .int v_12), (0, .ref x0)]) C.1 C.2.1 dX12_clear_51 hl (k := 1) rfl (by rw [ev_12]; rfl) (by decide) rfl (fun ls hl => ?_)
      refine lv_goto (tgt := 38) C.1 C.2.1 dX12_clear_54 (by decide) ?_
      exact hk_38 _ _ _ _ _ k_x0 hkm hW hZ _ (lv_sub hl [1, 0] rfl) hE
set_option maxRecDepth 20000 in
theorem bX12_clear_2 {p : Program} {l : Launch} {e : Env} {s : State} {m : MethodId} {args : Array Value} {below : List Frame} {meth : Method} {c : Code} {X : Ec} {h0 : Hp} {o : Hp} {F : Nat} (C : Cx X p s m args meth c RX12 cX12_clear 2 none "clear") : ∀ (f : Nat) {h : Hp} {x0 : Nat} {x1 : Int32} {H : Heap} {locs : List Loc} (k_x0 : hK h x0 = 12), Km h0 h → Wx X h H → va_S (aA (eB X)) s.heap H locs → ∀ (ls : Array Slot), lv_has ls 2 [(0, .ref x0), (1, .int x1)] → sX12_clear_2 F f h x0 x1 = some o → W p l e (rm 0 0) s m args below meth c H locs 0 0 (MQ below (QV X h0 o) args s 0 0 (aA (eB X))) (F0 m 2 ls []) := by
  intro f
  induction f with
  | zero =>
    intro h x0 x1 H locs k_x0 hkm hW hZ ls hl hE
    rw [sX12_clear_2] at hE
    cases hE
  | succ f ih =>
    intro h x0 x1 H locs k_x0 hkm hW hZ ls hl hE
    rw [sX12_clear_2] at hE
    have hk_2 : ∀ (h : Hp) (x0 : Nat) (x1 : Int32) (H : Heap) (locs : List Loc), hK h x0 = 12 → Km h0 h → Wx X h H → va_S (aA (eB X)) s.heap H locs → ∀ (ls : Array Slot), lv_has ls 2 [(0, .ref x0), (1, .int x1)] → sX12_clear_2 F f h x0 x1 = some o → W p l e (rm 0 0) s m args below meth c H locs 0 0 (MQ below (QV X h0 o) args s 0 0 (aA (eB X))) (F0 m 2 ls []) := fun h x0 x1 H locs k_x0 a b c ls hl hE => ih k_x0 a b c ls hl hE
    refine lv_iload_n C.1 C.2.1 dX12_clear_2 rfl (lv_at hl 1 rfl) ?_
    refine lv_bipush (v := (64 : Int32)) C.1 C.2.1 dX12_clear_3 (by decide) ?_
    refine lv_icmp_ge (tgt := 21) C.1 C.2.1 dX12_clear_5 (by decide) (fun c_1 => ?_) (fun c_1 => ?_)
    · have hE := br_p hE c_1
      refine lv_aload_n C.1 C.2.1 dX12_clear_21 rfl (lv_at hl 0 rfl) ?_
      refine lv_iconst (v := (0 : Int32)) C.1 C.2.1 dX12_clear_22 (by decide) ?_
      obtain ⟨h_2, eh_2, hE⟩ := nm_e2 hE
      refine pf_X12_30 C hW hZ k_x0 eh_2 dX12_clear_23 (fun _ _ hW km hZ => ?_)
      replace hkm := hkm.tr km
      replace k_x0 := km.at k_x0 (by decide)
      refine lv_aload_n C.1 C.2.1 dX12_clear_26 rfl (lv_at hl 0 rfl) ?_
      refine lv_lconst (v := (0 : Int64)) C.1 C.2.1 dX12_clear_27 (by decide) ?_
      obtain ⟨h_3, eh_3, hE⟩ := nm_e2 hE
      refine pf_X12_34 C hW hZ k_x0 eh_3 dX12_clear_28 (fun _ _ hW km hZ => ?_)
      replace hkm := hkm.tr km
      replace k_x0 := km.at k_x0 (by decide)
      refine lv_aload_n C.1 C.2.1 dX12_clear_31 rfl (lv_at hl 0 rfl) ?_
      refine lv_iconst (v := (0 : Int32)) C.1 C.2.1 dX12_clear_32 (by decide) ?_
      obtain ⟨h_4, eh_4, hE⟩ := nm_e2 hE
      refine pf_X12_38 C hW hZ k_x0 eh_4 dX12_clear_33 (fun _ _ hW km hZ => ?_)
      replace hkm := hkm.tr km
      replace k_x0 := km.at k_x0 (by decide)
      refine lv_iconst (v := (0 : Int32)) C.1 C.2.1 dX12_clear_36 (by decide) ?_
      refine lv_istore_n (lv' := [(1, .int (0 : Int32)), (0, .ref x0)]) C.1 C.2.1 dX12_clear_37 rfl hl (by decide) rfl (fun ls hl => ?_)
      exact bX12_clear_38 C F k_x0 hkm hW hZ _ (lv_sub hl [1, 0] rfl) hE
    · have hE := br_n hE c_1
      refine lv_aload_n C.1 C.2.1 dX12_clear_8 rfl (lv_at hl 0 rfl) ?_
      obtain ⟨r_5, er_5, hE⟩ := cl_e hE
      refine gf_X12_9 C hW k_x0 er_5 dX12_clear_9 (fun k_r_5 => ?_)
      refine lv_iload_n C.1 C.2.1 dX12_clear_12 rfl (lv_at hl 1 rfl) ?_
      refine lv_iconst (v := (0 : Int32)) C.1 C.2.1 dX12_clear_13 (by decide) ?_
      obtain ⟨g_6, hE⟩ := gd_e hE
      obtain ⟨h_7, eh_7, hE⟩ := nm_e2 hE
      refine y_iast C hW hZ k_r_5 g_6 eh_7 dX12_clear_14 (fun _ _ hW km hZ => ?_)
      replace hkm := hkm.tr km
      replace k_x0 := km.at k_x0 (by decide)
      obtain ⟨v_8, ev_8, hE⟩ := nm_e2 hE
      refine lv_iinc (v := v_8) (lv' := [(1, .int v_8), (0, .ref x0)]) C.1 C.2.1 dX12_clear_15 hl (k := 1) rfl (by rw [ev_8]; rfl) (by decide) rfl (fun ls hl => ?_)
      refine lv_goto (tgt := 2) C.1 C.2.1 dX12_clear_18 (by decide) ?_
      exact hk_2 _ _ _ _ _ k_x0 hkm hW hZ _ (lv_sub hl [1, 0] rfl) hE
set_option maxRecDepth 20000 in
theorem ct_X12_clear (l : Launch) (X : Ec) (F : Nat) {h : Hp} {x0 : Nat} {o : Hp} (k_x0 : hK h x0 = 12) (hE : sX12_clear F h x0 = some o) : MetV l yX12_clear cX12_clear 2 none 0 0 X [.ref x0] h o := by
  refine x_met (by decide) (Nat.le_of_ble_eq_true rfl) ?_
  intro p e s m below meth c ls C hl hW hZ
  have hl : lv_has ls 2 [(0, .ref x0)] := hl
  have hkm : Km h h := Km.rf h
  refine lv_iconst (v := (0 : Int32)) C.1 C.2.1 dX12_clear_0 (by decide) ?_
  refine lv_istore_n (lv' := [(1, .int (0 : Int32)), (0, .ref x0)]) C.1 C.2.1 dX12_clear_1 rfl hl (by decide) rfl (fun ls hl => ?_)
  exact bX12_clear_2 C F k_x0 hkm hW hZ _ (lv_sub hl [1, 0] rfl) hE
theorem m_2483 : Cond.methodLink RX12 24 arraycopyName ∈ W0 := w0_in (List.mem_append_right _ (List.mem_of_getElem? (i := 2483) (by decide +kernel))) rfl
section
variable {p : Program} {l : Launch} {e : Env} {R : Room} {s : State} {m : MethodId} {args : Array Value} {below : List Frame} {meth : Method} {c : Code} {H : Heap} {locs : List Loc} {cells slots : Nat} {Q : State → Prop}
variable {cc : ByteArray} {pc : Nat} {ls : Array Slot} {rest : List Value} {X : Ec} {h h1 : Hp} {nL : Nat} {rt : Option FieldType} {mn : String}
theorem gf_X12_30 {a : Nat} (C : Cx X p s m args meth c RX12 cc nL rt mn) (hW : Wx X h H) (ha : hK h a = 12) (hdg : decode cc pc = .ok (.getfield 30, 3)) (kk : W p l e R s m args below meth c H locs cells slots Q (F0 m (pc + 3) ls (.int (hI h a 1) :: rest))) : W p l e R s m args below meth c H locs cells slots Q (F0 m pc ls (.ref a :: rest)) :=
  y_geti C hW ha i_X12 (by decide) rfl (by decide) m_1931 rfl hdg kk
theorem gf_X12_34 {a : Nat} (C : Cx X p s m args meth c RX12 cc nL rt mn) (hW : Wx X h H) (ha : hK h a = 12) (hdg : decode cc pc = .ok (.getfield 34, 3)) (kk : W p l e R s m args below meth c H locs cells slots Q (F0 m (pc + 3) ls (.long (hJ h a 2) :: rest))) : W p l e R s m args below meth c H locs cells slots Q (F0 m pc ls (.ref a :: rest)) :=
  y_getj C hW ha i_X12 (by decide) rfl (by decide) m_1933 rfl hdg kk
theorem gf_X12_38 {a : Nat} (C : Cx X p s m args meth c RX12 cc nL rt mn) (hW : Wx X h H) (ha : hK h a = 12) (hdg : decode cc pc = .ok (.getfield 38, 3)) (kk : W p l e R s m args below meth c H locs cells slots Q (F0 m (pc + 3) ls (.int (hI h a 3) :: rest))) : W p l e R s m args below meth c H locs cells slots Q (F0 m pc ls (.ref a :: rest)) :=
  y_geti C hW ha i_X12 (by decide) rfl (by decide) m_1935 rfl hdg kk
theorem gf_X12_15 {a r : Nat} (C : Cx X p s m args meth c RX12 cc nL rt mn) (hW : Wx X h H) (ha : hK h a = 12) (hr : hR h a 4 = some r) (hdg : decode cc pc = .ok (.getfield 15, 3)) (kk : hK h r = 17 → W p l e R s m args below meth c H locs cells slots Q (F0 m (pc + 3) ls (.ref r :: rest))) : W p l e R s m args below meth c H locs cells slots Q (F0 m pc ls (.ref a :: rest)) :=
  y_getr C hW ha i_X12 (by decide) rfl (by decide) m_1937 rfl rfl hr hdg kk
theorem gf_X12_41 {a : Nat} (C : Cx X p s m args meth c RX12 cc nL rt mn) (hW : Wx X h H) (ha : hK h a = 12) (hdg : decode cc pc = .ok (.getfield 41, 3)) (kk : W p l e R s m args below meth c H locs cells slots Q (F0 m (pc + 3) ls (.int (hI h a 7) :: rest))) : W p l e R s m args below meth c H locs cells slots Q (F0 m pc ls (.ref a :: rest)) :=
  y_geti C hW ha i_X12 (by decide) rfl (by decide) m_1943 rfl hdg kk
end
theorem dX12_copy_0 : decode cX12_copy 0 = .ok (.aload_n 1, 1) := by decide +kernel
theorem dX12_copy_1 : decode cX12_copy 1 = .ok (.getfield 9, 3) := by decide +kernel
theorem dX12_copy_4 : decode cX12_copy 4 = .ok (.iconst 0, 1) := by decide +kernel
theorem dX12_copy_5 : decode cX12_copy 5 = .ok (.aload_n 0, 1) := by decide +kernel
theorem dX12_copy_6 : decode cX12_copy 6 = .ok (.getfield 9, 3) := by decide +kernel
theorem dX12_copy_9 : decode cX12_copy 9 = .ok (.iconst 0, 1) := by decide +kernel
theorem dX12_copy_10 : decode cX12_copy 10 = .ok (.bipush 64, 2) := by decide +kernel
theorem dX12_copy_12 : decode cX12_copy 12 = .ok (.invokestatic 24, 3) := by decide +kernel
theorem dX12_copy_15 : decode cX12_copy 15 = .ok (.aload_n 0, 1) := by decide +kernel
theorem dX12_copy_16 : decode cX12_copy 16 = .ok (.aload_n 1, 1) := by decide +kernel
theorem dX12_copy_17 : decode cX12_copy 17 = .ok (.getfield 30, 3) := by decide +kernel
theorem dX12_copy_20 : decode cX12_copy 20 = .ok (.putfield 30, 3) := by decide +kernel
theorem dX12_copy_23 : decode cX12_copy 23 = .ok (.aload_n 0, 1) := by decide +kernel
theorem dX12_copy_24 : decode cX12_copy 24 = .ok (.aload_n 1, 1) := by decide +kernel
theorem dX12_copy_25 : decode cX12_copy 25 = .ok (.getfield 34, 3) := by decide +kernel
theorem dX12_copy_28 : decode cX12_copy 28 = .ok (.putfield 34, 3) := by decide +kernel
theorem dX12_copy_31 : decode cX12_copy 31 = .ok (.aload_n 0, 1) := by decide +kernel
theorem dX12_copy_32 : decode cX12_copy 32 = .ok (.aload_n 1, 1) := by decide +kernel
theorem dX12_copy_33 : decode cX12_copy 33 = .ok (.getfield 38, 3) := by decide +kernel
theorem dX12_copy_36 : decode cX12_copy 36 = .ok (.putfield 38, 3) := by decide +kernel
theorem dX12_copy_39 : decode cX12_copy 39 = .ok (.aload_n 1, 1) := by decide +kernel
theorem dX12_copy_40 : decode cX12_copy 40 = .ok (.getfield 15, 3) := by decide +kernel
theorem dX12_copy_43 : decode cX12_copy 43 = .ok (.iconst 0, 1) := by decide +kernel
theorem dX12_copy_44 : decode cX12_copy 44 = .ok (.aload_n 0, 1) := by decide +kernel
theorem dX12_copy_45 : decode cX12_copy 45 = .ok (.getfield 15, 3) := by decide +kernel
theorem dX12_copy_48 : decode cX12_copy 48 = .ok (.iconst 0, 1) := by decide +kernel
theorem dX12_copy_49 : decode cX12_copy 49 = .ok (.aload_n 0, 1) := by decide +kernel
theorem dX12_copy_50 : decode cX12_copy 50 = .ok (.getfield 38, 3) := by decide +kernel
theorem dX12_copy_53 : decode cX12_copy 53 = .ok (.invokestatic 24, 3) := by decide +kernel
theorem dX12_copy_56 : decode cX12_copy 56 = .ok (.aload_n 1, 1) := by decide +kernel
theorem dX12_copy_57 : decode cX12_copy 57 = .ok (.getfield 18, 3) := by decide +kernel
theorem dX12_copy_60 : decode cX12_copy 60 = .ok (.iconst 0, 1) := by decide +kernel
theorem dX12_copy_61 : decode cX12_copy 61 = .ok (.aload_n 0, 1) := by decide +kernel
theorem dX12_copy_62 : decode cX12_copy 62 = .ok (.getfield 18, 3) := by decide +kernel
theorem dX12_copy_65 : decode cX12_copy 65 = .ok (.iconst 0, 1) := by decide +kernel
theorem dX12_copy_66 : decode cX12_copy 66 = .ok (.bipush 24, 2) := by decide +kernel
theorem dX12_copy_68 : decode cX12_copy 68 = .ok (.invokestatic 24, 3) := by decide +kernel
theorem dX12_copy_71 : decode cX12_copy 71 = .ok (.aload_n 0, 1) := by decide +kernel
theorem dX12_copy_72 : decode cX12_copy 72 = .ok (.getfield 21, 3) := by decide +kernel
theorem dX12_copy_75 : decode cX12_copy 75 = .ok (.iconst 0, 1) := by decide +kernel
theorem dX12_copy_76 : decode cX12_copy 76 = .ok (.aload_n 1, 1) := by decide +kernel
theorem dX12_copy_77 : decode cX12_copy 77 = .ok (.getfield 21, 3) := by decide +kernel
theorem dX12_copy_80 : decode cX12_copy 80 = .ok (.iconst 0, 1) := by decide +kernel
theorem dX12_copy_81 : decode cX12_copy 81 = .ok (.iaload, 1) := by decide +kernel
theorem dX12_copy_82 : decode cX12_copy 82 = .ok (.iastore, 1) := by decide +kernel
theorem dX12_copy_83 : decode cX12_copy 83 = .ok (.aload_n 0, 1) := by decide +kernel
theorem dX12_copy_84 : decode cX12_copy 84 = .ok (.getfield 21, 3) := by decide +kernel
theorem dX12_copy_87 : decode cX12_copy 87 = .ok (.iconst 1, 1) := by decide +kernel
theorem dX12_copy_88 : decode cX12_copy 88 = .ok (.aload_n 1, 1) := by decide +kernel
theorem dX12_copy_89 : decode cX12_copy 89 = .ok (.getfield 21, 3) := by decide +kernel
theorem dX12_copy_92 : decode cX12_copy 92 = .ok (.iconst 1, 1) := by decide +kernel
theorem dX12_copy_93 : decode cX12_copy 93 = .ok (.iaload, 1) := by decide +kernel
theorem dX12_copy_94 : decode cX12_copy 94 = .ok (.iastore, 1) := by decide +kernel
theorem dX12_copy_95 : decode cX12_copy 95 = .ok (.aload_n 0, 1) := by decide +kernel
theorem dX12_copy_96 : decode cX12_copy 96 = .ok (.aload_n 1, 1) := by decide +kernel
theorem dX12_copy_97 : decode cX12_copy 97 = .ok (.getfield 41, 3) := by decide +kernel
theorem dX12_copy_100 : decode cX12_copy 100 = .ok (.putfield 41, 3) := by decide +kernel
theorem dX12_copy_103 : decode cX12_copy 103 = .ok (.return_, 1) := by decide +kernel
def sX12_copy (h : Hp) (x0 : Nat) (x1 : Nat) : Option (Hp) := cl (hR h x1 0) fun r_1 => cl (hR h x0 0) fun r_2 => gd (¬ (0 : Int32) < 0) <| gd (¬ (0 : Int32) < 0) <| gd (¬ (64 : Int32) < 0) <| gd ((0 : Int32).toNatClampNeg + (64 : Int32).toNatClampNeg ≤ hN h r_1) <| gd ((0 : Int32).toNatClampNeg + (64 : Int32).toNatClampNeg ≤ hN h r_2) <| nm (cpI h r_1 (0 : Int32).toNatClampNeg r_2 (0 : Int32).toNatClampNeg (64 : Int32).toNatClampNeg) fun h_8 => nm (wI h_8 x0 1 (hI h_8 x1 1)) fun h_9 => nm (wJ h_9 x0 2 (hJ h_9 x1 2)) fun h_10 => nm (wI h_10 x0 3 (hI h_10 x1 3)) fun h_11 => cl (hR h_11 x1 4) fun r_12 => cl (hR h_11 x0 4) fun r_13 => gd (¬ (0 : Int32) < 0) <| gd (¬ (0 : Int32) < 0) <| gd (¬ (hI h_11 x0 3) < 0) <| gd ((0 : Int32).toNatClampNeg + (hI h_11 x0 3).toNatClampNeg ≤ hN h_11 r_12) <| gd ((0 : Int32).toNatClampNeg + (hI h_11 x0 3).toNatClampNeg ≤ hN h_11 r_13) <| nm (cpI h_11 r_12 (0 : Int32).toNatClampNeg r_13 (0 : Int32).toNatClampNeg (hI h_11 x0 3).toNatClampNeg) fun h_19 => cl (hR h_19 x1 5) fun r_20 => cl (hR h_19 x0 5) fun r_21 => gd (¬ (0 : Int32) < 0) <| gd (¬ (0 : Int32) < 0) <| gd (¬ (24 : Int32) < 0) <| gd ((0 : Int32).toNatClampNeg + (24 : Int32).toNatClampNeg ≤ hN h_19 r_20) <| gd ((0 : Int32).toNatClampNeg + (24 : Int32).toNatClampNeg ≤ hN h_19 r_21) <| nm (cpI h_19 r_20 (0 : Int32).toNatClampNeg r_21 (0 : Int32).toNatClampNeg (24 : Int32).toNatClampNeg) fun h_27 => cl (hR h_27 x0 6) fun r_28 => cl (hR h_27 x1 6) fun r_29 => gd (inB (0 : Int32) (hN h_27 r_29)) <| gd (inB (0 : Int32) (hN h_27 r_28)) <| nm (wI h_27 r_28 (0 : Int32).toNatClampNeg (hI h_27 r_29 (0 : Int32).toNatClampNeg)) fun h_32 => cl (hR h_32 x0 6) fun r_33 => cl (hR h_32 x1 6) fun r_34 => gd (inB (1 : Int32) (hN h_32 r_34)) <| gd (inB (1 : Int32) (hN h_32 r_33)) <| nm (wI h_32 r_33 (1 : Int32).toNatClampNeg (hI h_32 r_34 (1 : Int32).toNatClampNeg)) fun h_37 => nm (wI h_37 x0 7 (hI h_37 x1 7)) fun h_38 => some h_38
theorem moX12_copy {o : Hp} {h : Hp} {x0 : Nat} {x1 : Nat} (hE : sX12_copy h x0 x1 = some o) : Le h o := by
  obtain ⟨r_1, er_1, hE⟩ := cl_e hE
  obtain ⟨r_2, er_2, hE⟩ := cl_e hE
  obtain ⟨g_3, hE⟩ := gd_e hE
  obtain ⟨g_4, hE⟩ := gd_e hE
  obtain ⟨g_5, hE⟩ := gd_e hE
  obtain ⟨g_6, hE⟩ := gd_e hE
  obtain ⟨g_7, hE⟩ := gd_e hE
  obtain ⟨h_8, eh_8, hE⟩ := nm_e2 hE
  refine (le_cI eh_8).tr ?_
  obtain ⟨h_9, eh_9, hE⟩ := nm_e2 hE
  refine (le_I eh_9).tr ?_
  obtain ⟨h_10, eh_10, hE⟩ := nm_e2 hE
  refine (le_J eh_10).tr ?_
  obtain ⟨h_11, eh_11, hE⟩ := nm_e2 hE
  refine (le_I eh_11).tr ?_
  obtain ⟨r_12, er_12, hE⟩ := cl_e hE
  obtain ⟨r_13, er_13, hE⟩ := cl_e hE
  obtain ⟨g_14, hE⟩ := gd_e hE
  obtain ⟨g_15, hE⟩ := gd_e hE
  obtain ⟨g_16, hE⟩ := gd_e hE
  obtain ⟨g_17, hE⟩ := gd_e hE
  obtain ⟨g_18, hE⟩ := gd_e hE
  obtain ⟨h_19, eh_19, hE⟩ := nm_e2 hE
  refine (le_cI eh_19).tr ?_
  obtain ⟨r_20, er_20, hE⟩ := cl_e hE
  obtain ⟨r_21, er_21, hE⟩ := cl_e hE
  obtain ⟨g_22, hE⟩ := gd_e hE
  obtain ⟨g_23, hE⟩ := gd_e hE
  obtain ⟨g_24, hE⟩ := gd_e hE
  obtain ⟨g_25, hE⟩ := gd_e hE
  obtain ⟨g_26, hE⟩ := gd_e hE
  obtain ⟨h_27, eh_27, hE⟩ := nm_e2 hE
  refine (le_cI eh_27).tr ?_
  obtain ⟨r_28, er_28, hE⟩ := cl_e hE
  obtain ⟨r_29, er_29, hE⟩ := cl_e hE
  obtain ⟨g_30, hE⟩ := gd_e hE
  obtain ⟨g_31, hE⟩ := gd_e hE
  obtain ⟨h_32, eh_32, hE⟩ := nm_e2 hE
  refine (le_I eh_32).tr ?_
  obtain ⟨r_33, er_33, hE⟩ := cl_e hE
  obtain ⟨r_34, er_34, hE⟩ := cl_e hE
  obtain ⟨g_35, hE⟩ := gd_e hE
  obtain ⟨g_36, hE⟩ := gd_e hE
  obtain ⟨h_37, eh_37, hE⟩ := nm_e2 hE
  refine (le_I eh_37).tr ?_
  obtain ⟨h_38, eh_38, hE⟩ := nm_e2 hE
  refine (le_I eh_38).tr ?_
  cases hE
  exact Le.rf _
set_option maxRecDepth 20000 in
theorem ct_X12_copy (l : Launch) (X : Ec) {h : Hp} {x0 : Nat} {x1 : Nat} {o : Hp} (k_x0 : hK h x0 = 12) (k_x1 : hK h x1 = 12) (hE : sX12_copy h x0 x1 = some o) : MetV l yX12_copy cX12_copy 2 none 1 64 X [.ref x0, .ref x1] h o := by
  refine x_met (by decide) (Nat.le_of_ble_eq_true rfl) ?_
  intro p e s m below meth c ls C hl hW hZ
  have hl : lv_has ls 2 [(0, .ref x0), (1, .ref x1)] := hl
  have hkm : Km h h := Km.rf h
  refine lv_aload_n C.1 C.2.1 dX12_copy_0 rfl (lv_at hl 1 rfl) ?_
  obtain ⟨r_1, er_1, hE⟩ := cl_e hE
  refine gf_X12_9 C hW k_x1 er_1 dX12_copy_1 (fun k_r_1 => ?_)
  refine lv_iconst (v := (0 : Int32)) C.1 C.2.1 dX12_copy_4 (by decide) ?_
  refine lv_aload_n C.1 C.2.1 dX12_copy_5 rfl (lv_at hl 0 rfl) ?_
  obtain ⟨r_2, er_2, hE⟩ := cl_e hE
  refine gf_X12_9 C hW k_x0 er_2 dX12_copy_6 (fun k_r_2 => ?_)
  refine lv_iconst (v := (0 : Int32)) C.1 C.2.1 dX12_copy_9 (by decide) ?_
  refine lv_bipush (v := (64 : Int32)) C.1 C.2.1 dX12_copy_10 (by decide) ?_
  obtain ⟨g_3, hE⟩ := gd_e hE
  obtain ⟨g_4, hE⟩ := gd_e hE
  obtain ⟨g_5, hE⟩ := gd_e hE
  obtain ⟨g_6, hE⟩ := gd_e hE
  obtain ⟨g_7, hE⟩ := gd_e hE
  obtain ⟨h_8, eh_8, hE⟩ := nm_e2 hE
  refine y_cpyI (ty := .int) C hW hZ hl.1 m_2483 m_835 m_834 m_19 k_r_1 k_r_2 (Or.inr (Or.inl ⟨rfl, rfl⟩)) g_3 g_4 g_5 g_6 g_7 (fun _ _ => rfl) (Nat.le_of_ble_eq_true rfl) (Nat.le_of_ble_eq_true rfl) eh_8 dX12_copy_12 (fun _ _ hW km hZ => ?_)
  replace hkm := hkm.tr km
  replace k_x0 := km.at k_x0 (by decide)
  replace k_x1 := km.at k_x1 (by decide)
  refine lv_aload_n C.1 C.2.1 dX12_copy_15 rfl (lv_at hl 0 rfl) ?_
  refine lv_aload_n C.1 C.2.1 dX12_copy_16 rfl (lv_at hl 1 rfl) ?_
  refine gf_X12_30 C hW k_x1 dX12_copy_17 ?_
  obtain ⟨h_9, eh_9, hE⟩ := nm_e2 hE
  refine pf_X12_30 C hW hZ k_x0 eh_9 dX12_copy_20 (fun _ _ hW km hZ => ?_)
  replace hkm := hkm.tr km
  replace k_x0 := km.at k_x0 (by decide)
  replace k_x1 := km.at k_x1 (by decide)
  refine lv_aload_n C.1 C.2.1 dX12_copy_23 rfl (lv_at hl 0 rfl) ?_
  refine lv_aload_n C.1 C.2.1 dX12_copy_24 rfl (lv_at hl 1 rfl) ?_
  refine gf_X12_34 C hW k_x1 dX12_copy_25 ?_
  obtain ⟨h_10, eh_10, hE⟩ := nm_e2 hE
  refine pf_X12_34 C hW hZ k_x0 eh_10 dX12_copy_28 (fun _ _ hW km hZ => ?_)
  replace hkm := hkm.tr km
  replace k_x0 := km.at k_x0 (by decide)
  replace k_x1 := km.at k_x1 (by decide)
  refine lv_aload_n C.1 C.2.1 dX12_copy_31 rfl (lv_at hl 0 rfl) ?_
  refine lv_aload_n C.1 C.2.1 dX12_copy_32 rfl (lv_at hl 1 rfl) ?_
  refine gf_X12_38 C hW k_x1 dX12_copy_33 ?_
  obtain ⟨h_11, eh_11, hE⟩ := nm_e2 hE
  refine pf_X12_38 C hW hZ k_x0 eh_11 dX12_copy_36 (fun _ _ hW km hZ => ?_)
  replace hkm := hkm.tr km
  replace k_x0 := km.at k_x0 (by decide)
  replace k_x1 := km.at k_x1 (by decide)
  refine lv_aload_n C.1 C.2.1 dX12_copy_39 rfl (lv_at hl 1 rfl) ?_
  obtain ⟨r_12, er_12, hE⟩ := cl_e hE
  refine gf_X12_15 C hW k_x1 er_12 dX12_copy_40 (fun k_r_12 => ?_)
  refine lv_iconst (v := (0 : Int32)) C.1 C.2.1 dX12_copy_43 (by decide) ?_
  refine lv_aload_n C.1 C.2.1 dX12_copy_44 rfl (lv_at hl 0 rfl) ?_
  obtain ⟨r_13, er_13, hE⟩ := cl_e hE
  refine gf_X12_15 C hW k_x0 er_13 dX12_copy_45 (fun k_r_13 => ?_)
  refine lv_iconst (v := (0 : Int32)) C.1 C.2.1 dX12_copy_48 (by decide) ?_
  refine lv_aload_n C.1 C.2.1 dX12_copy_49 rfl (lv_at hl 0 rfl) ?_
  refine gf_X12_38 C hW k_x0 dX12_copy_50 ?_
  obtain ⟨g_14, hE⟩ := gd_e hE
  obtain ⟨g_15, hE⟩ := gd_e hE
  obtain ⟨g_16, hE⟩ := gd_e hE
  obtain ⟨g_17, hE⟩ := gd_e hE
  obtain ⟨g_18, hE⟩ := gd_e hE
  obtain ⟨h_19, eh_19, hE⟩ := nm_e2 hE
  refine y_cpyI (ty := .int) C hW hZ hl.1 m_2483 m_835 m_834 m_19 k_r_12 k_r_13 (Or.inr (Or.inl ⟨rfl, rfl⟩)) g_14 g_15 g_16 g_17 g_18 (fun _ _ => rfl) (Nat.le_of_ble_eq_true rfl) (Nat.le_of_ble_eq_true rfl) eh_19 dX12_copy_53 (fun _ _ hW km hZ => ?_)
  replace hkm := hkm.tr km
  replace k_x0 := km.at k_x0 (by decide)
  replace k_x1 := km.at k_x1 (by decide)
  refine lv_aload_n C.1 C.2.1 dX12_copy_56 rfl (lv_at hl 1 rfl) ?_
  obtain ⟨r_20, er_20, hE⟩ := cl_e hE
  refine gf_X12_18 C hW k_x1 er_20 dX12_copy_57 (fun k_r_20 => ?_)
  refine lv_iconst (v := (0 : Int32)) C.1 C.2.1 dX12_copy_60 (by decide) ?_
  refine lv_aload_n C.1 C.2.1 dX12_copy_61 rfl (lv_at hl 0 rfl) ?_
  obtain ⟨r_21, er_21, hE⟩ := cl_e hE
  refine gf_X12_18 C hW k_x0 er_21 dX12_copy_62 (fun k_r_21 => ?_)
  refine lv_iconst (v := (0 : Int32)) C.1 C.2.1 dX12_copy_65 (by decide) ?_
  refine lv_bipush (v := (24 : Int32)) C.1 C.2.1 dX12_copy_66 (by decide) ?_
  obtain ⟨g_22, hE⟩ := gd_e hE
  obtain ⟨g_23, hE⟩ := gd_e hE
  obtain ⟨g_24, hE⟩ := gd_e hE
  obtain ⟨g_25, hE⟩ := gd_e hE
  obtain ⟨g_26, hE⟩ := gd_e hE
  obtain ⟨h_27, eh_27, hE⟩ := nm_e2 hE
  refine y_cpyI (ty := .int) C hW hZ hl.1 m_2483 m_835 m_834 m_19 k_r_20 k_r_21 (Or.inr (Or.inl ⟨rfl, rfl⟩)) g_22 g_23 g_24 g_25 g_26 (fun _ _ => rfl) (Nat.le_of_ble_eq_true rfl) (Nat.le_of_ble_eq_true rfl) eh_27 dX12_copy_68 (fun _ _ hW km hZ => ?_)
  replace hkm := hkm.tr km
  replace k_x0 := km.at k_x0 (by decide)
  replace k_x1 := km.at k_x1 (by decide)
  refine lv_aload_n C.1 C.2.1 dX12_copy_71 rfl (lv_at hl 0 rfl) ?_
  obtain ⟨r_28, er_28, hE⟩ := cl_e hE
  refine gf_X12_21 C hW k_x0 er_28 dX12_copy_72 (fun k_r_28 => ?_)
  refine lv_iconst (v := (0 : Int32)) C.1 C.2.1 dX12_copy_75 (by decide) ?_
  refine lv_aload_n C.1 C.2.1 dX12_copy_76 rfl (lv_at hl 1 rfl) ?_
  obtain ⟨r_29, er_29, hE⟩ := cl_e hE
  refine gf_X12_21 C hW k_x1 er_29 dX12_copy_77 (fun k_r_29 => ?_)
  refine lv_iconst (v := (0 : Int32)) C.1 C.2.1 dX12_copy_80 (by decide) ?_
  obtain ⟨g_30, hE⟩ := gd_e hE
  refine y_iald C hW k_r_29 g_30 dX12_copy_81 ?_
  obtain ⟨g_31, hE⟩ := gd_e hE
  obtain ⟨h_32, eh_32, hE⟩ := nm_e2 hE
  refine y_iast C hW hZ k_r_28 g_31 eh_32 dX12_copy_82 (fun _ _ hW km hZ => ?_)
  replace hkm := hkm.tr km
  replace k_x0 := km.at k_x0 (by decide)
  replace k_x1 := km.at k_x1 (by decide)
  refine lv_aload_n C.1 C.2.1 dX12_copy_83 rfl (lv_at hl 0 rfl) ?_
  obtain ⟨r_33, er_33, hE⟩ := cl_e hE
  refine gf_X12_21 C hW k_x0 er_33 dX12_copy_84 (fun k_r_33 => ?_)
  refine lv_iconst (v := (1 : Int32)) C.1 C.2.1 dX12_copy_87 (by decide) ?_
  refine lv_aload_n C.1 C.2.1 dX12_copy_88 rfl (lv_at hl 1 rfl) ?_
  obtain ⟨r_34, er_34, hE⟩ := cl_e hE
  refine gf_X12_21 C hW k_x1 er_34 dX12_copy_89 (fun k_r_34 => ?_)
  refine lv_iconst (v := (1 : Int32)) C.1 C.2.1 dX12_copy_92 (by decide) ?_
  obtain ⟨g_35, hE⟩ := gd_e hE
  refine y_iald C hW k_r_34 g_35 dX12_copy_93 ?_
  obtain ⟨g_36, hE⟩ := gd_e hE
  obtain ⟨h_37, eh_37, hE⟩ := nm_e2 hE
  refine y_iast C hW hZ k_r_33 g_36 eh_37 dX12_copy_94 (fun _ _ hW km hZ => ?_)
  replace hkm := hkm.tr km
  replace k_x0 := km.at k_x0 (by decide)
  replace k_x1 := km.at k_x1 (by decide)
  refine lv_aload_n C.1 C.2.1 dX12_copy_95 rfl (lv_at hl 0 rfl) ?_
  refine lv_aload_n C.1 C.2.1 dX12_copy_96 rfl (lv_at hl 1 rfl) ?_
  refine gf_X12_41 C hW k_x1 dX12_copy_97 ?_
  obtain ⟨h_38, eh_38, hE⟩ := nm_e2 hE
  refine pf_X12_41 C hW hZ k_x0 eh_38 dX12_copy_100 (fun _ _ hW km hZ => ?_)
  replace hkm := hkm.tr km
  replace k_x0 := km.at k_x0 (by decide)
  replace k_x1 := km.at k_x1 (by decide)
  exact x_vret C rfl hW hZ hkm hE dX12_copy_103
theorem m_1968 : Cond.fieldLink RX13 33 (TX13 0).1 (TX13 0).2.1 (TX13 0).2.2.1 ∈ W0 := w0_in (List.mem_append_right _ (List.mem_of_getElem? (i := 1968) (by decide +kernel))) rfl
section
variable {p : Program} {l : Launch} {e : Env} {R : Room} {s : State} {m : MethodId} {args : Array Value} {below : List Frame} {meth : Method} {c : Code} {H : Heap} {locs : List Loc} {cells slots : Nat} {Q : State → Prop}
variable {cc : ByteArray} {pc : Nat} {ls : Array Slot} {rest : List Value} {X : Ec} {h h1 : Hp} {nL : Nat} {rt : Option FieldType} {mn : String}
theorem gf_X13_9 {a r : Nat} (C : Cx X p s m args meth c RX13 cc nL rt mn) (hW : Wx X h H) (ha : hK h a = 13) (hr : hR h a 1 = some r) (hdg : decode cc pc = .ok (.getfield 9, 3)) (kk : hK h r = 17 → W p l e R s m args below meth c H locs cells slots Q (F0 m (pc + 3) ls (.ref r :: rest))) : W p l e R s m args below meth c H locs cells slots Q (F0 m pc ls (.ref a :: rest)) :=
  y_getr C hW ha i_X13 (by decide) rfl (by decide) m_1970 rfl rfl hr hdg kk
theorem gf_X13_33 {a : Nat} (C : Cx X p s m args meth c RX13 cc nL rt mn) (hW : Wx X h H) (ha : hK h a = 13) (hdg : decode cc pc = .ok (.getfield 33, 3)) (kk : W p l e R s m args below meth c H locs cells slots Q (F0 m (pc + 3) ls (.int (hI h a 0) :: rest))) : W p l e R s m args below meth c H locs cells slots Q (F0 m pc ls (.ref a :: rest)) :=
  y_geti C hW ha i_X13 (by decide) rfl (by decide) m_1968 rfl hdg kk
theorem gf_X13_15 {a r : Nat} (C : Cx X p s m args meth c RX13 cc nL rt mn) (hW : Wx X h H) (ha : hK h a = 13) (hr : hR h a 2 = some r) (hdg : decode cc pc = .ok (.getfield 15, 3)) (kk : hK h r = 17 → W p l e R s m args below meth c H locs cells slots Q (F0 m (pc + 3) ls (.ref r :: rest))) : W p l e R s m args below meth c H locs cells slots Q (F0 m pc ls (.ref a :: rest)) :=
  y_getr C hW ha i_X13 (by decide) rfl (by decide) m_1972 rfl rfl hr hdg kk
theorem gf_X13_18 {a r : Nat} (C : Cx X p s m args meth c RX13 cc nL rt mn) (hW : Wx X h H) (ha : hK h a = 13) (hr : hR h a 3 = some r) (hdg : decode cc pc = .ok (.getfield 18, 3)) (kk : hK h r = 17 → W p l e R s m args below meth c H locs cells slots Q (F0 m (pc + 3) ls (.ref r :: rest))) : W p l e R s m args below meth c H locs cells slots Q (F0 m pc ls (.ref a :: rest)) :=
  y_getr C hW ha i_X13 (by decide) rfl (by decide) m_1974 rfl rfl hr hdg kk
theorem gf_X13_21 {a r : Nat} (C : Cx X p s m args meth c RX13 cc nL rt mn) (hW : Wx X h H) (ha : hK h a = 13) (hr : hR h a 4 = some r) (hdg : decode cc pc = .ok (.getfield 21, 3)) (kk : hK h r = 17 → W p l e R s m args below meth c H locs cells slots Q (F0 m (pc + 3) ls (.ref r :: rest))) : W p l e R s m args below meth c H locs cells slots Q (F0 m pc ls (.ref a :: rest)) :=
  y_getr C hW ha i_X13 (by decide) rfl (by decide) m_1976 rfl rfl hr hdg kk
theorem gf_X13_24 {a r : Nat} (C : Cx X p s m args meth c RX13 cc nL rt mn) (hW : Wx X h H) (ha : hK h a = 13) (hr : hR h a 5 = some r) (hdg : decode cc pc = .ok (.getfield 24, 3)) (kk : hK h r = 17 → W p l e R s m args below meth c H locs cells slots Q (F0 m (pc + 3) ls (.ref r :: rest))) : W p l e R s m args below meth c H locs cells slots Q (F0 m pc ls (.ref a :: rest)) :=
  y_getr C hW ha i_X13 (by decide) rfl (by decide) m_1978 rfl rfl hr hdg kk
theorem gf_X13_27 {a r : Nat} (C : Cx X p s m args meth c RX13 cc nL rt mn) (hW : Wx X h H) (ha : hK h a = 13) (hr : hR h a 6 = some r) (hdg : decode cc pc = .ok (.getfield 27, 3)) (kk : hK h r = 17 → W p l e R s m args below meth c H locs cells slots Q (F0 m (pc + 3) ls (.ref r :: rest))) : W p l e R s m args below meth c H locs cells slots Q (F0 m pc ls (.ref a :: rest)) :=
  y_getr C hW ha i_X13 (by decide) rfl (by decide) m_1980 rfl rfl hr hdg kk
theorem gf_X13_30 {a r : Nat} (C : Cx X p s m args meth c RX13 cc nL rt mn) (hW : Wx X h H) (ha : hK h a = 13) (hr : hR h a 7 = some r) (hdg : decode cc pc = .ok (.getfield 30, 3)) (kk : hK h r = 17 → W p l e R s m args below meth c H locs cells slots Q (F0 m (pc + 3) ls (.ref r :: rest))) : W p l e R s m args below meth c H locs cells slots Q (F0 m pc ls (.ref a :: rest)) :=
  y_getr C hW ha i_X13 (by decide) rfl (by decide) m_1982 rfl rfl hr hdg kk
theorem pf_X13_33 {a : Nat} {v : Int32} (C : Cx X p s m args meth c RX13 cc nL rt mn) (hW : Wx X h H) (hZ : va_S (aA (eB X)) s.heap H locs) (ha : hK h a = 13) (eh : h1 = wI h a 0 v) (hdg : decode cc pc = .ok (.putfield 33, 3)) (kk : ∀ (H1 : Heap) (locs1 : List Loc), Wx X h1 H1 → Km h h1 → va_S (aA (eB X)) s.heap H1 locs1 → W p l e R s m args below meth c H1 locs1 cells slots Q (F0 m (pc + 3) ls rest)) : W p l e R s m args below meth c H locs cells slots Q (F0 m pc ls (.int v :: .ref a :: rest)) :=
  y_puti (ty := .int) C hW hZ ha i_X13 tyX13 tyX13_ok nmX13 (by decide) rfl rfl (by decide) m_1968 rfl (by decide +kernel) rfl rfl rfl eh hdg kk
end
theorem dX13_add_0 : decode cX13_add 0 = .ok (.aload_n 0, 1) := by decide +kernel
theorem dX13_add_1 : decode cX13_add 1 = .ok (.getfield 9, 3) := by decide +kernel
theorem dX13_add_4 : decode cX13_add 4 = .ok (.aload_n 0, 1) := by decide +kernel
theorem dX13_add_5 : decode cX13_add 5 = .ok (.getfield 33, 3) := by decide +kernel
theorem dX13_add_8 : decode cX13_add 8 = .ok (.iload_n 1, 1) := by decide +kernel
theorem dX13_add_9 : decode cX13_add 9 = .ok (.iastore, 1) := by decide +kernel
theorem dX13_add_10 : decode cX13_add 10 = .ok (.aload_n 0, 1) := by decide +kernel
theorem dX13_add_11 : decode cX13_add 11 = .ok (.getfield 15, 3) := by decide +kernel
theorem dX13_add_14 : decode cX13_add 14 = .ok (.aload_n 0, 1) := by decide +kernel
theorem dX13_add_15 : decode cX13_add 15 = .ok (.getfield 33, 3) := by decide +kernel
theorem dX13_add_18 : decode cX13_add 18 = .ok (.iload_n 2, 1) := by decide +kernel
theorem dX13_add_19 : decode cX13_add 19 = .ok (.iastore, 1) := by decide +kernel
theorem dX13_add_20 : decode cX13_add 20 = .ok (.aload_n 0, 1) := by decide +kernel
theorem dX13_add_21 : decode cX13_add 21 = .ok (.getfield 18, 3) := by decide +kernel
theorem dX13_add_24 : decode cX13_add 24 = .ok (.aload_n 0, 1) := by decide +kernel
theorem dX13_add_25 : decode cX13_add 25 = .ok (.getfield 33, 3) := by decide +kernel
theorem dX13_add_28 : decode cX13_add 28 = .ok (.iload_n 3, 1) := by decide +kernel
theorem dX13_add_29 : decode cX13_add 29 = .ok (.iastore, 1) := by decide +kernel
theorem dX13_add_30 : decode cX13_add 30 = .ok (.aload_n 0, 1) := by decide +kernel
theorem dX13_add_31 : decode cX13_add 31 = .ok (.getfield 21, 3) := by decide +kernel
theorem dX13_add_34 : decode cX13_add 34 = .ok (.aload_n 0, 1) := by decide +kernel
theorem dX13_add_35 : decode cX13_add 35 = .ok (.getfield 33, 3) := by decide +kernel
theorem dX13_add_38 : decode cX13_add 38 = .ok (.iload 4, 2) := by decide +kernel
theorem dX13_add_40 : decode cX13_add 40 = .ok (.iastore, 1) := by decide +kernel
theorem dX13_add_41 : decode cX13_add 41 = .ok (.aload_n 0, 1) := by decide +kernel
theorem dX13_add_42 : decode cX13_add 42 = .ok (.getfield 24, 3) := by decide +kernel
theorem dX13_add_45 : decode cX13_add 45 = .ok (.aload_n 0, 1) := by decide +kernel
theorem dX13_add_46 : decode cX13_add 46 = .ok (.getfield 33, 3) := by decide +kernel
theorem dX13_add_49 : decode cX13_add 49 = .ok (.iload 5, 2) := by decide +kernel
theorem dX13_add_51 : decode cX13_add 51 = .ok (.iastore, 1) := by decide +kernel
theorem dX13_add_52 : decode cX13_add 52 = .ok (.aload_n 0, 1) := by decide +kernel
theorem dX13_add_53 : decode cX13_add 53 = .ok (.getfield 27, 3) := by decide +kernel
theorem dX13_add_56 : decode cX13_add 56 = .ok (.aload_n 0, 1) := by decide +kernel
theorem dX13_add_57 : decode cX13_add 57 = .ok (.getfield 33, 3) := by decide +kernel
theorem dX13_add_60 : decode cX13_add 60 = .ok (.iload 6, 2) := by decide +kernel
theorem dX13_add_62 : decode cX13_add 62 = .ok (.iastore, 1) := by decide +kernel
theorem dX13_add_63 : decode cX13_add 63 = .ok (.aload_n 0, 1) := by decide +kernel
theorem dX13_add_64 : decode cX13_add 64 = .ok (.getfield 30, 3) := by decide +kernel
theorem dX13_add_67 : decode cX13_add 67 = .ok (.aload_n 0, 1) := by decide +kernel
theorem dX13_add_68 : decode cX13_add 68 = .ok (.getfield 33, 3) := by decide +kernel
theorem dX13_add_71 : decode cX13_add 71 = .ok (.iload 7, 2) := by decide +kernel
theorem dX13_add_73 : decode cX13_add 73 = .ok (.iastore, 1) := by decide +kernel
theorem dX13_add_74 : decode cX13_add 74 = .ok (.aload_n 0, 1) := by decide +kernel
theorem dX13_add_75 : decode cX13_add 75 = .ok (.dup, 1) := by decide +kernel
theorem dX13_add_76 : decode cX13_add 76 = .ok (.getfield 33, 3) := by decide +kernel
theorem dX13_add_79 : decode cX13_add 79 = .ok (.iconst 1, 1) := by decide +kernel
theorem dX13_add_80 : decode cX13_add 80 = .ok (.iadd, 1) := by decide +kernel
theorem dX13_add_81 : decode cX13_add 81 = .ok (.putfield 33, 3) := by decide +kernel
theorem dX13_add_84 : decode cX13_add 84 = .ok (.return_, 1) := by decide +kernel
def sX13_add (h : Hp) (x0 : Nat) (x1 : Int32) (x2 : Int32) (x3 : Int32) (x4 : Int32) (x5 : Int32) (x6 : Int32) (x7 : Int32) : Option (Hp) := cl (hR h x0 1) fun r_1 => gd (inB (hI h x0 0) (hN h r_1)) <| nm (wI h r_1 (hI h x0 0).toNatClampNeg x1) fun h_3 => cl (hR h_3 x0 2) fun r_4 => gd (inB (hI h_3 x0 0) (hN h_3 r_4)) <| nm (wI h_3 r_4 (hI h_3 x0 0).toNatClampNeg x2) fun h_6 => cl (hR h_6 x0 3) fun r_7 => gd (inB (hI h_6 x0 0) (hN h_6 r_7)) <| nm (wI h_6 r_7 (hI h_6 x0 0).toNatClampNeg x3) fun h_9 => cl (hR h_9 x0 4) fun r_10 => gd (inB (hI h_9 x0 0) (hN h_9 r_10)) <| nm (wI h_9 r_10 (hI h_9 x0 0).toNatClampNeg x4) fun h_12 => cl (hR h_12 x0 5) fun r_13 => gd (inB (hI h_12 x0 0) (hN h_12 r_13)) <| nm (wI h_12 r_13 (hI h_12 x0 0).toNatClampNeg x5) fun h_15 => cl (hR h_15 x0 6) fun r_16 => gd (inB (hI h_15 x0 0) (hN h_15 r_16)) <| nm (wI h_15 r_16 (hI h_15 x0 0).toNatClampNeg x6) fun h_18 => cl (hR h_18 x0 7) fun r_19 => gd (inB (hI h_18 x0 0) (hN h_18 r_19)) <| nm (wI h_18 r_19 (hI h_18 x0 0).toNatClampNeg x7) fun h_21 => nm (wI h_21 x0 0 ((hI h_21 x0 0) + (1 : Int32))) fun h_22 => some h_22
theorem moX13_add {o : Hp} {h : Hp} {x0 : Nat} {x1 : Int32} {x2 : Int32} {x3 : Int32} {x4 : Int32} {x5 : Int32} {x6 : Int32} {x7 : Int32} (hE : sX13_add h x0 x1 x2 x3 x4 x5 x6 x7 = some o) : Le h o := by
  obtain ⟨r_1, er_1, hE⟩ := cl_e hE
  obtain ⟨g_2, hE⟩ := gd_e hE
  obtain ⟨h_3, eh_3, hE⟩ := nm_e2 hE
  refine (le_I eh_3).tr ?_
  obtain ⟨r_4, er_4, hE⟩ := cl_e hE
  obtain ⟨g_5, hE⟩ := gd_e hE
  obtain ⟨h_6, eh_6, hE⟩ := nm_e2 hE
  refine (le_I eh_6).tr ?_
  obtain ⟨r_7, er_7, hE⟩ := cl_e hE
  obtain ⟨g_8, hE⟩ := gd_e hE
  obtain ⟨h_9, eh_9, hE⟩ := nm_e2 hE
  refine (le_I eh_9).tr ?_
  obtain ⟨r_10, er_10, hE⟩ := cl_e hE
  obtain ⟨g_11, hE⟩ := gd_e hE
  obtain ⟨h_12, eh_12, hE⟩ := nm_e2 hE
  refine (le_I eh_12).tr ?_
  obtain ⟨r_13, er_13, hE⟩ := cl_e hE
  obtain ⟨g_14, hE⟩ := gd_e hE
  obtain ⟨h_15, eh_15, hE⟩ := nm_e2 hE
  refine (le_I eh_15).tr ?_
  obtain ⟨r_16, er_16, hE⟩ := cl_e hE
  obtain ⟨g_17, hE⟩ := gd_e hE
  obtain ⟨h_18, eh_18, hE⟩ := nm_e2 hE
  refine (le_I eh_18).tr ?_
  obtain ⟨r_19, er_19, hE⟩ := cl_e hE
  obtain ⟨g_20, hE⟩ := gd_e hE
  obtain ⟨h_21, eh_21, hE⟩ := nm_e2 hE
  refine (le_I eh_21).tr ?_
  obtain ⟨h_22, eh_22, hE⟩ := nm_e2 hE
  refine (le_I eh_22).tr ?_
  cases hE
  exact Le.rf _
set_option maxRecDepth 20000 in
theorem ct_X13_add (l : Launch) (X : Ec) {h : Hp} {x0 : Nat} {x1 : Int32} {x2 : Int32} {x3 : Int32} {x4 : Int32} {x5 : Int32} {x6 : Int32} {x7 : Int32} {o : Hp} (k_x0 : hK h x0 = 13) (hE : sX13_add h x0 x1 x2 x3 x4 x5 x6 x7 = some o) : MetV l yX13_add cX13_add 8 none 0 0 X [.ref x0, .int x1, .int x2, .int x3, .int x4, .int x5, .int x6, .int x7] h o := by
  refine x_met (by decide) (Nat.le_of_ble_eq_true rfl) ?_
  intro p e s m below meth c ls C hl hW hZ
  have hl : lv_has ls 8 [(0, .ref x0), (1, .int x1), (2, .int x2), (3, .int x3), (4, .int x4), (5, .int x5), (6, .int x6), (7, .int x7)] := hl
  have hkm : Km h h := Km.rf h
  refine lv_aload_n C.1 C.2.1 dX13_add_0 rfl (lv_at hl 0 rfl) ?_
  obtain ⟨r_1, er_1, hE⟩ := cl_e hE
  refine gf_X13_9 C hW k_x0 er_1 dX13_add_1 (fun k_r_1 => ?_)
  refine lv_aload_n C.1 C.2.1 dX13_add_4 rfl (lv_at hl 0 rfl) ?_
  refine gf_X13_33 C hW k_x0 dX13_add_5 ?_
  refine lv_iload_n C.1 C.2.1 dX13_add_8 rfl (lv_at hl 1 rfl) ?_
  obtain ⟨g_2, hE⟩ := gd_e hE
  obtain ⟨h_3, eh_3, hE⟩ := nm_e2 hE
  refine y_iast C hW hZ k_r_1 g_2 eh_3 dX13_add_9 (fun _ _ hW km hZ => ?_)
  replace hkm := hkm.tr km
  replace k_x0 := km.at k_x0 (by decide)
  refine lv_aload_n C.1 C.2.1 dX13_add_10 rfl (lv_at hl 0 rfl) ?_
  obtain ⟨r_4, er_4, hE⟩ := cl_e hE
  refine gf_X13_15 C hW k_x0 er_4 dX13_add_11 (fun k_r_4 => ?_)
  refine lv_aload_n C.1 C.2.1 dX13_add_14 rfl (lv_at hl 0 rfl) ?_
  refine gf_X13_33 C hW k_x0 dX13_add_15 ?_
  refine lv_iload_n C.1 C.2.1 dX13_add_18 rfl (lv_at hl 2 rfl) ?_
  obtain ⟨g_5, hE⟩ := gd_e hE
  obtain ⟨h_6, eh_6, hE⟩ := nm_e2 hE
  refine y_iast C hW hZ k_r_4 g_5 eh_6 dX13_add_19 (fun _ _ hW km hZ => ?_)
  replace hkm := hkm.tr km
  replace k_x0 := km.at k_x0 (by decide)
  refine lv_aload_n C.1 C.2.1 dX13_add_20 rfl (lv_at hl 0 rfl) ?_
  obtain ⟨r_7, er_7, hE⟩ := cl_e hE
  refine gf_X13_18 C hW k_x0 er_7 dX13_add_21 (fun k_r_7 => ?_)
  refine lv_aload_n C.1 C.2.1 dX13_add_24 rfl (lv_at hl 0 rfl) ?_
  refine gf_X13_33 C hW k_x0 dX13_add_25 ?_
  refine lv_iload_n C.1 C.2.1 dX13_add_28 rfl (lv_at hl 3 rfl) ?_
  obtain ⟨g_8, hE⟩ := gd_e hE
  obtain ⟨h_9, eh_9, hE⟩ := nm_e2 hE
  refine y_iast C hW hZ k_r_7 g_8 eh_9 dX13_add_29 (fun _ _ hW km hZ => ?_)
  replace hkm := hkm.tr km
  replace k_x0 := km.at k_x0 (by decide)
  refine lv_aload_n C.1 C.2.1 dX13_add_30 rfl (lv_at hl 0 rfl) ?_
  obtain ⟨r_10, er_10, hE⟩ := cl_e hE
  refine gf_X13_21 C hW k_x0 er_10 dX13_add_31 (fun k_r_10 => ?_)
  refine lv_aload_n C.1 C.2.1 dX13_add_34 rfl (lv_at hl 0 rfl) ?_
  refine gf_X13_33 C hW k_x0 dX13_add_35 ?_
  refine lv_iload C.1 C.2.1 dX13_add_38 (lv_at hl 4 rfl) ?_
  obtain ⟨g_11, hE⟩ := gd_e hE
  obtain ⟨h_12, eh_12, hE⟩ := nm_e2 hE
  refine y_iast C hW hZ k_r_10 g_11 eh_12 dX13_add_40 (fun _ _ hW km hZ => ?_)
  replace hkm := hkm.tr km
  replace k_x0 := km.at k_x0 (by decide)
  refine lv_aload_n C.1 C.2.1 dX13_add_41 rfl (lv_at hl 0 rfl) ?_
  obtain ⟨r_13, er_13, hE⟩ := cl_e hE
  refine gf_X13_24 C hW k_x0 er_13 dX13_add_42 (fun k_r_13 => ?_)
  refine lv_aload_n C.1 C.2.1 dX13_add_45 rfl (lv_at hl 0 rfl) ?_
  refine gf_X13_33 C hW k_x0 dX13_add_46 ?_
  refine lv_iload C.1 C.2.1 dX13_add_49 (lv_at hl 5 rfl) ?_
  obtain ⟨g_14, hE⟩ := gd_e hE
  obtain ⟨h_15, eh_15, hE⟩ := nm_e2 hE
  refine y_iast C hW hZ k_r_13 g_14 eh_15 dX13_add_51 (fun _ _ hW km hZ => ?_)
  replace hkm := hkm.tr km
  replace k_x0 := km.at k_x0 (by decide)
  refine lv_aload_n C.1 C.2.1 dX13_add_52 rfl (lv_at hl 0 rfl) ?_
  obtain ⟨r_16, er_16, hE⟩ := cl_e hE
  refine gf_X13_27 C hW k_x0 er_16 dX13_add_53 (fun k_r_16 => ?_)
  refine lv_aload_n C.1 C.2.1 dX13_add_56 rfl (lv_at hl 0 rfl) ?_
  refine gf_X13_33 C hW k_x0 dX13_add_57 ?_
  refine lv_iload C.1 C.2.1 dX13_add_60 (lv_at hl 6 rfl) ?_
  obtain ⟨g_17, hE⟩ := gd_e hE
  obtain ⟨h_18, eh_18, hE⟩ := nm_e2 hE
  refine y_iast C hW hZ k_r_16 g_17 eh_18 dX13_add_62 (fun _ _ hW km hZ => ?_)
  replace hkm := hkm.tr km
  replace k_x0 := km.at k_x0 (by decide)
  refine lv_aload_n C.1 C.2.1 dX13_add_63 rfl (lv_at hl 0 rfl) ?_
  obtain ⟨r_19, er_19, hE⟩ := cl_e hE
  refine gf_X13_30 C hW k_x0 er_19 dX13_add_64 (fun k_r_19 => ?_)
  refine lv_aload_n C.1 C.2.1 dX13_add_67 rfl (lv_at hl 0 rfl) ?_
  refine gf_X13_33 C hW k_x0 dX13_add_68 ?_
  refine lv_iload C.1 C.2.1 dX13_add_71 (lv_at hl 7 rfl) ?_
  obtain ⟨g_20, hE⟩ := gd_e hE
  obtain ⟨h_21, eh_21, hE⟩ := nm_e2 hE
  refine y_iast C hW hZ k_r_19 g_20 eh_21 dX13_add_73 (fun _ _ hW km hZ => ?_)
  replace hkm := hkm.tr km
  replace k_x0 := km.at k_x0 (by decide)
  refine lv_aload_n C.1 C.2.1 dX13_add_74 rfl (lv_at hl 0 rfl) ?_
  refine lv_dup C.1 C.2.1 dX13_add_75 rfl ?_
  refine gf_X13_33 C hW k_x0 dX13_add_76 ?_
  refine lv_iconst (v := (1 : Int32)) C.1 C.2.1 dX13_add_79 (by decide) ?_
  refine lv_iadd C.1 C.2.1 dX13_add_80 ?_
  obtain ⟨h_22, eh_22, hE⟩ := nm_e2 hE
  refine pf_X13_33 C hW hZ k_x0 eh_22 dX13_add_81 (fun _ _ hW km hZ => ?_)
  replace hkm := hkm.tr km
  replace k_x0 := km.at k_x0 (by decide)
  exact x_vret C rfl hW hZ hkm hE dX13_add_84
theorem dX13_set_0 : decode cX13_set 0 = .ok (.aload_n 0, 1) := by decide +kernel
theorem dX13_set_1 : decode cX13_set 1 = .ok (.getfield 9, 3) := by decide +kernel
theorem dX13_set_4 : decode cX13_set 4 = .ok (.iload_n 1, 1) := by decide +kernel
theorem dX13_set_5 : decode cX13_set 5 = .ok (.aload_n 2, 1) := by decide +kernel
theorem dX13_set_6 : decode cX13_set 6 = .ok (.getfield 9, 3) := by decide +kernel
theorem dX13_set_9 : decode cX13_set 9 = .ok (.iload_n 3, 1) := by decide +kernel
theorem dX13_set_10 : decode cX13_set 10 = .ok (.iaload, 1) := by decide +kernel
theorem dX13_set_11 : decode cX13_set 11 = .ok (.iastore, 1) := by decide +kernel
theorem dX13_set_12 : decode cX13_set 12 = .ok (.aload_n 0, 1) := by decide +kernel
theorem dX13_set_13 : decode cX13_set 13 = .ok (.getfield 15, 3) := by decide +kernel
theorem dX13_set_16 : decode cX13_set 16 = .ok (.iload_n 1, 1) := by decide +kernel
theorem dX13_set_17 : decode cX13_set 17 = .ok (.aload_n 2, 1) := by decide +kernel
theorem dX13_set_18 : decode cX13_set 18 = .ok (.getfield 15, 3) := by decide +kernel
theorem dX13_set_21 : decode cX13_set 21 = .ok (.iload_n 3, 1) := by decide +kernel
theorem dX13_set_22 : decode cX13_set 22 = .ok (.iaload, 1) := by decide +kernel
theorem dX13_set_23 : decode cX13_set 23 = .ok (.iastore, 1) := by decide +kernel
theorem dX13_set_24 : decode cX13_set 24 = .ok (.aload_n 0, 1) := by decide +kernel
theorem dX13_set_25 : decode cX13_set 25 = .ok (.getfield 18, 3) := by decide +kernel
theorem dX13_set_28 : decode cX13_set 28 = .ok (.iload_n 1, 1) := by decide +kernel
theorem dX13_set_29 : decode cX13_set 29 = .ok (.aload_n 2, 1) := by decide +kernel
theorem dX13_set_30 : decode cX13_set 30 = .ok (.getfield 18, 3) := by decide +kernel
theorem dX13_set_33 : decode cX13_set 33 = .ok (.iload_n 3, 1) := by decide +kernel
theorem dX13_set_34 : decode cX13_set 34 = .ok (.iaload, 1) := by decide +kernel
theorem dX13_set_35 : decode cX13_set 35 = .ok (.iastore, 1) := by decide +kernel
theorem dX13_set_36 : decode cX13_set 36 = .ok (.aload_n 0, 1) := by decide +kernel
theorem dX13_set_37 : decode cX13_set 37 = .ok (.getfield 21, 3) := by decide +kernel
theorem dX13_set_40 : decode cX13_set 40 = .ok (.iload_n 1, 1) := by decide +kernel
theorem dX13_set_41 : decode cX13_set 41 = .ok (.aload_n 2, 1) := by decide +kernel
theorem dX13_set_42 : decode cX13_set 42 = .ok (.getfield 21, 3) := by decide +kernel
theorem dX13_set_45 : decode cX13_set 45 = .ok (.iload_n 3, 1) := by decide +kernel
theorem dX13_set_46 : decode cX13_set 46 = .ok (.iaload, 1) := by decide +kernel
theorem dX13_set_47 : decode cX13_set 47 = .ok (.iastore, 1) := by decide +kernel
theorem dX13_set_48 : decode cX13_set 48 = .ok (.aload_n 0, 1) := by decide +kernel
theorem dX13_set_49 : decode cX13_set 49 = .ok (.getfield 24, 3) := by decide +kernel
theorem dX13_set_52 : decode cX13_set 52 = .ok (.iload_n 1, 1) := by decide +kernel
theorem dX13_set_53 : decode cX13_set 53 = .ok (.aload_n 2, 1) := by decide +kernel
theorem dX13_set_54 : decode cX13_set 54 = .ok (.getfield 24, 3) := by decide +kernel
theorem dX13_set_57 : decode cX13_set 57 = .ok (.iload_n 3, 1) := by decide +kernel
theorem dX13_set_58 : decode cX13_set 58 = .ok (.iaload, 1) := by decide +kernel
theorem dX13_set_59 : decode cX13_set 59 = .ok (.iastore, 1) := by decide +kernel
theorem dX13_set_60 : decode cX13_set 60 = .ok (.aload_n 0, 1) := by decide +kernel
theorem dX13_set_61 : decode cX13_set 61 = .ok (.getfield 27, 3) := by decide +kernel
theorem dX13_set_64 : decode cX13_set 64 = .ok (.iload_n 1, 1) := by decide +kernel
theorem dX13_set_65 : decode cX13_set 65 = .ok (.aload_n 2, 1) := by decide +kernel
theorem dX13_set_66 : decode cX13_set 66 = .ok (.getfield 27, 3) := by decide +kernel
theorem dX13_set_69 : decode cX13_set 69 = .ok (.iload_n 3, 1) := by decide +kernel
theorem dX13_set_70 : decode cX13_set 70 = .ok (.iaload, 1) := by decide +kernel
theorem dX13_set_71 : decode cX13_set 71 = .ok (.iastore, 1) := by decide +kernel
theorem dX13_set_72 : decode cX13_set 72 = .ok (.aload_n 0, 1) := by decide +kernel
theorem dX13_set_73 : decode cX13_set 73 = .ok (.getfield 30, 3) := by decide +kernel
theorem dX13_set_76 : decode cX13_set 76 = .ok (.iload_n 1, 1) := by decide +kernel
theorem dX13_set_77 : decode cX13_set 77 = .ok (.aload_n 2, 1) := by decide +kernel
theorem dX13_set_78 : decode cX13_set 78 = .ok (.getfield 30, 3) := by decide +kernel
theorem dX13_set_81 : decode cX13_set 81 = .ok (.iload_n 3, 1) := by decide +kernel
theorem dX13_set_82 : decode cX13_set 82 = .ok (.iaload, 1) := by decide +kernel
theorem dX13_set_83 : decode cX13_set 83 = .ok (.iastore, 1) := by decide +kernel
theorem dX13_set_84 : decode cX13_set 84 = .ok (.return_, 1) := by decide +kernel
def sX13_set (h : Hp) (x0 : Nat) (x1 : Int32) (x2 : Nat) (x3 : Int32) : Option (Hp) := cl (hR h x0 1) fun r_1 => cl (hR h x2 1) fun r_2 => gd (inB x3 (hN h r_2)) <| gd (inB x1 (hN h r_1)) <| nm (wI h r_1 x1.toNatClampNeg (hI h r_2 x3.toNatClampNeg)) fun h_5 => cl (hR h_5 x0 2) fun r_6 => cl (hR h_5 x2 2) fun r_7 => gd (inB x3 (hN h_5 r_7)) <| gd (inB x1 (hN h_5 r_6)) <| nm (wI h_5 r_6 x1.toNatClampNeg (hI h_5 r_7 x3.toNatClampNeg)) fun h_10 => cl (hR h_10 x0 3) fun r_11 => cl (hR h_10 x2 3) fun r_12 => gd (inB x3 (hN h_10 r_12)) <| gd (inB x1 (hN h_10 r_11)) <| nm (wI h_10 r_11 x1.toNatClampNeg (hI h_10 r_12 x3.toNatClampNeg)) fun h_15 => cl (hR h_15 x0 4) fun r_16 => cl (hR h_15 x2 4) fun r_17 => gd (inB x3 (hN h_15 r_17)) <| gd (inB x1 (hN h_15 r_16)) <| nm (wI h_15 r_16 x1.toNatClampNeg (hI h_15 r_17 x3.toNatClampNeg)) fun h_20 => cl (hR h_20 x0 5) fun r_21 => cl (hR h_20 x2 5) fun r_22 => gd (inB x3 (hN h_20 r_22)) <| gd (inB x1 (hN h_20 r_21)) <| nm (wI h_20 r_21 x1.toNatClampNeg (hI h_20 r_22 x3.toNatClampNeg)) fun h_25 => cl (hR h_25 x0 6) fun r_26 => cl (hR h_25 x2 6) fun r_27 => gd (inB x3 (hN h_25 r_27)) <| gd (inB x1 (hN h_25 r_26)) <| nm (wI h_25 r_26 x1.toNatClampNeg (hI h_25 r_27 x3.toNatClampNeg)) fun h_30 => cl (hR h_30 x0 7) fun r_31 => cl (hR h_30 x2 7) fun r_32 => gd (inB x3 (hN h_30 r_32)) <| gd (inB x1 (hN h_30 r_31)) <| nm (wI h_30 r_31 x1.toNatClampNeg (hI h_30 r_32 x3.toNatClampNeg)) fun h_35 => some h_35
theorem moX13_set {o : Hp} {h : Hp} {x0 : Nat} {x1 : Int32} {x2 : Nat} {x3 : Int32} (hE : sX13_set h x0 x1 x2 x3 = some o) : Le h o := by
  obtain ⟨r_1, er_1, hE⟩ := cl_e hE
  obtain ⟨r_2, er_2, hE⟩ := cl_e hE
  obtain ⟨g_3, hE⟩ := gd_e hE
  obtain ⟨g_4, hE⟩ := gd_e hE
  obtain ⟨h_5, eh_5, hE⟩ := nm_e2 hE
  refine (le_I eh_5).tr ?_
  obtain ⟨r_6, er_6, hE⟩ := cl_e hE
  obtain ⟨r_7, er_7, hE⟩ := cl_e hE
  obtain ⟨g_8, hE⟩ := gd_e hE
  obtain ⟨g_9, hE⟩ := gd_e hE
  obtain ⟨h_10, eh_10, hE⟩ := nm_e2 hE
  refine (le_I eh_10).tr ?_
  obtain ⟨r_11, er_11, hE⟩ := cl_e hE
  obtain ⟨r_12, er_12, hE⟩ := cl_e hE
  obtain ⟨g_13, hE⟩ := gd_e hE
  obtain ⟨g_14, hE⟩ := gd_e hE
  obtain ⟨h_15, eh_15, hE⟩ := nm_e2 hE
  refine (le_I eh_15).tr ?_
  obtain ⟨r_16, er_16, hE⟩ := cl_e hE
  obtain ⟨r_17, er_17, hE⟩ := cl_e hE
  obtain ⟨g_18, hE⟩ := gd_e hE
  obtain ⟨g_19, hE⟩ := gd_e hE
  obtain ⟨h_20, eh_20, hE⟩ := nm_e2 hE
  refine (le_I eh_20).tr ?_
  obtain ⟨r_21, er_21, hE⟩ := cl_e hE
  obtain ⟨r_22, er_22, hE⟩ := cl_e hE
  obtain ⟨g_23, hE⟩ := gd_e hE
  obtain ⟨g_24, hE⟩ := gd_e hE
  obtain ⟨h_25, eh_25, hE⟩ := nm_e2 hE
  refine (le_I eh_25).tr ?_
  obtain ⟨r_26, er_26, hE⟩ := cl_e hE
  obtain ⟨r_27, er_27, hE⟩ := cl_e hE
  obtain ⟨g_28, hE⟩ := gd_e hE
  obtain ⟨g_29, hE⟩ := gd_e hE
  obtain ⟨h_30, eh_30, hE⟩ := nm_e2 hE
  refine (le_I eh_30).tr ?_
  obtain ⟨r_31, er_31, hE⟩ := cl_e hE
  obtain ⟨r_32, er_32, hE⟩ := cl_e hE
  obtain ⟨g_33, hE⟩ := gd_e hE
  obtain ⟨g_34, hE⟩ := gd_e hE
  obtain ⟨h_35, eh_35, hE⟩ := nm_e2 hE
  refine (le_I eh_35).tr ?_
  cases hE
  exact Le.rf _
set_option maxRecDepth 20000 in
theorem ct_X13_set (l : Launch) (X : Ec) {h : Hp} {x0 : Nat} {x1 : Int32} {x2 : Nat} {x3 : Int32} {o : Hp} (k_x0 : hK h x0 = 13) (k_x2 : hK h x2 = 13) (hE : sX13_set h x0 x1 x2 x3 = some o) : MetV l yX13_set cX13_set 4 none 0 0 X [.ref x0, .int x1, .ref x2, .int x3] h o := by
  refine x_met (by decide) (Nat.le_of_ble_eq_true rfl) ?_
  intro p e s m below meth c ls C hl hW hZ
  have hl : lv_has ls 4 [(0, .ref x0), (1, .int x1), (2, .ref x2), (3, .int x3)] := hl
  have hkm : Km h h := Km.rf h
  refine lv_aload_n C.1 C.2.1 dX13_set_0 rfl (lv_at hl 0 rfl) ?_
  obtain ⟨r_1, er_1, hE⟩ := cl_e hE
  refine gf_X13_9 C hW k_x0 er_1 dX13_set_1 (fun k_r_1 => ?_)
  refine lv_iload_n C.1 C.2.1 dX13_set_4 rfl (lv_at hl 1 rfl) ?_
  refine lv_aload_n C.1 C.2.1 dX13_set_5 rfl (lv_at hl 2 rfl) ?_
  obtain ⟨r_2, er_2, hE⟩ := cl_e hE
  refine gf_X13_9 C hW k_x2 er_2 dX13_set_6 (fun k_r_2 => ?_)
  refine lv_iload_n C.1 C.2.1 dX13_set_9 rfl (lv_at hl 3 rfl) ?_
  obtain ⟨g_3, hE⟩ := gd_e hE
  refine y_iald C hW k_r_2 g_3 dX13_set_10 ?_
  obtain ⟨g_4, hE⟩ := gd_e hE
  obtain ⟨h_5, eh_5, hE⟩ := nm_e2 hE
  refine y_iast C hW hZ k_r_1 g_4 eh_5 dX13_set_11 (fun _ _ hW km hZ => ?_)
  replace hkm := hkm.tr km
  replace k_x0 := km.at k_x0 (by decide)
  replace k_x2 := km.at k_x2 (by decide)
  refine lv_aload_n C.1 C.2.1 dX13_set_12 rfl (lv_at hl 0 rfl) ?_
  obtain ⟨r_6, er_6, hE⟩ := cl_e hE
  refine gf_X13_15 C hW k_x0 er_6 dX13_set_13 (fun k_r_6 => ?_)
  refine lv_iload_n C.1 C.2.1 dX13_set_16 rfl (lv_at hl 1 rfl) ?_
  refine lv_aload_n C.1 C.2.1 dX13_set_17 rfl (lv_at hl 2 rfl) ?_
  obtain ⟨r_7, er_7, hE⟩ := cl_e hE
  refine gf_X13_15 C hW k_x2 er_7 dX13_set_18 (fun k_r_7 => ?_)
  refine lv_iload_n C.1 C.2.1 dX13_set_21 rfl (lv_at hl 3 rfl) ?_
  obtain ⟨g_8, hE⟩ := gd_e hE
  refine y_iald C hW k_r_7 g_8 dX13_set_22 ?_
  obtain ⟨g_9, hE⟩ := gd_e hE
  obtain ⟨h_10, eh_10, hE⟩ := nm_e2 hE
  refine y_iast C hW hZ k_r_6 g_9 eh_10 dX13_set_23 (fun _ _ hW km hZ => ?_)
  replace hkm := hkm.tr km
  replace k_x0 := km.at k_x0 (by decide)
  replace k_x2 := km.at k_x2 (by decide)
  refine lv_aload_n C.1 C.2.1 dX13_set_24 rfl (lv_at hl 0 rfl) ?_
  obtain ⟨r_11, er_11, hE⟩ := cl_e hE
  refine gf_X13_18 C hW k_x0 er_11 dX13_set_25 (fun k_r_11 => ?_)
  refine lv_iload_n C.1 C.2.1 dX13_set_28 rfl (lv_at hl 1 rfl) ?_
  refine lv_aload_n C.1 C.2.1 dX13_set_29 rfl (lv_at hl 2 rfl) ?_
  obtain ⟨r_12, er_12, hE⟩ := cl_e hE
  refine gf_X13_18 C hW k_x2 er_12 dX13_set_30 (fun k_r_12 => ?_)
  refine lv_iload_n C.1 C.2.1 dX13_set_33 rfl (lv_at hl 3 rfl) ?_
  obtain ⟨g_13, hE⟩ := gd_e hE
  refine y_iald C hW k_r_12 g_13 dX13_set_34 ?_
  obtain ⟨g_14, hE⟩ := gd_e hE
  obtain ⟨h_15, eh_15, hE⟩ := nm_e2 hE
  refine y_iast C hW hZ k_r_11 g_14 eh_15 dX13_set_35 (fun _ _ hW km hZ => ?_)
  replace hkm := hkm.tr km
  replace k_x0 := km.at k_x0 (by decide)
  replace k_x2 := km.at k_x2 (by decide)
  refine lv_aload_n C.1 C.2.1 dX13_set_36 rfl (lv_at hl 0 rfl) ?_
  obtain ⟨r_16, er_16, hE⟩ := cl_e hE
  refine gf_X13_21 C hW k_x0 er_16 dX13_set_37 (fun k_r_16 => ?_)
  refine lv_iload_n C.1 C.2.1 dX13_set_40 rfl (lv_at hl 1 rfl) ?_
  refine lv_aload_n C.1 C.2.1 dX13_set_41 rfl (lv_at hl 2 rfl) ?_
  obtain ⟨r_17, er_17, hE⟩ := cl_e hE
  refine gf_X13_21 C hW k_x2 er_17 dX13_set_42 (fun k_r_17 => ?_)
  refine lv_iload_n C.1 C.2.1 dX13_set_45 rfl (lv_at hl 3 rfl) ?_
  obtain ⟨g_18, hE⟩ := gd_e hE
  refine y_iald C hW k_r_17 g_18 dX13_set_46 ?_
  obtain ⟨g_19, hE⟩ := gd_e hE
  obtain ⟨h_20, eh_20, hE⟩ := nm_e2 hE
  refine y_iast C hW hZ k_r_16 g_19 eh_20 dX13_set_47 (fun _ _ hW km hZ => ?_)
  replace hkm := hkm.tr km
  replace k_x0 := km.at k_x0 (by decide)
  replace k_x2 := km.at k_x2 (by decide)
  refine lv_aload_n C.1 C.2.1 dX13_set_48 rfl (lv_at hl 0 rfl) ?_
  obtain ⟨r_21, er_21, hE⟩ := cl_e hE
  refine gf_X13_24 C hW k_x0 er_21 dX13_set_49 (fun k_r_21 => ?_)
  refine lv_iload_n C.1 C.2.1 dX13_set_52 rfl (lv_at hl 1 rfl) ?_
  refine lv_aload_n C.1 C.2.1 dX13_set_53 rfl (lv_at hl 2 rfl) ?_
  obtain ⟨r_22, er_22, hE⟩ := cl_e hE
  refine gf_X13_24 C hW k_x2 er_22 dX13_set_54 (fun k_r_22 => ?_)
  refine lv_iload_n C.1 C.2.1 dX13_set_57 rfl (lv_at hl 3 rfl) ?_
  obtain ⟨g_23, hE⟩ := gd_e hE
  refine y_iald C hW k_r_22 g_23 dX13_set_58 ?_
  obtain ⟨g_24, hE⟩ := gd_e hE
  obtain ⟨h_25, eh_25, hE⟩ := nm_e2 hE
  refine y_iast C hW hZ k_r_21 g_24 eh_25 dX13_set_59 (fun _ _ hW km hZ => ?_)
  replace hkm := hkm.tr km
  replace k_x0 := km.at k_x0 (by decide)
  replace k_x2 := km.at k_x2 (by decide)
  refine lv_aload_n C.1 C.2.1 dX13_set_60 rfl (lv_at hl 0 rfl) ?_
  obtain ⟨r_26, er_26, hE⟩ := cl_e hE
  refine gf_X13_27 C hW k_x0 er_26 dX13_set_61 (fun k_r_26 => ?_)
  refine lv_iload_n C.1 C.2.1 dX13_set_64 rfl (lv_at hl 1 rfl) ?_
  refine lv_aload_n C.1 C.2.1 dX13_set_65 rfl (lv_at hl 2 rfl) ?_
  obtain ⟨r_27, er_27, hE⟩ := cl_e hE
  refine gf_X13_27 C hW k_x2 er_27 dX13_set_66 (fun k_r_27 => ?_)
  refine lv_iload_n C.1 C.2.1 dX13_set_69 rfl (lv_at hl 3 rfl) ?_
  obtain ⟨g_28, hE⟩ := gd_e hE
  refine y_iald C hW k_r_27 g_28 dX13_set_70 ?_
  obtain ⟨g_29, hE⟩ := gd_e hE
  obtain ⟨h_30, eh_30, hE⟩ := nm_e2 hE
  refine y_iast C hW hZ k_r_26 g_29 eh_30 dX13_set_71 (fun _ _ hW km hZ => ?_)
  replace hkm := hkm.tr km
  replace k_x0 := km.at k_x0 (by decide)
  replace k_x2 := km.at k_x2 (by decide)
  refine lv_aload_n C.1 C.2.1 dX13_set_72 rfl (lv_at hl 0 rfl) ?_
  obtain ⟨r_31, er_31, hE⟩ := cl_e hE
  refine gf_X13_30 C hW k_x0 er_31 dX13_set_73 (fun k_r_31 => ?_)
  refine lv_iload_n C.1 C.2.1 dX13_set_76 rfl (lv_at hl 1 rfl) ?_
  refine lv_aload_n C.1 C.2.1 dX13_set_77 rfl (lv_at hl 2 rfl) ?_
  obtain ⟨r_32, er_32, hE⟩ := cl_e hE
  refine gf_X13_30 C hW k_x2 er_32 dX13_set_78 (fun k_r_32 => ?_)
  refine lv_iload_n C.1 C.2.1 dX13_set_81 rfl (lv_at hl 3 rfl) ?_
  obtain ⟨g_33, hE⟩ := gd_e hE
  refine y_iald C hW k_r_32 g_33 dX13_set_82 ?_
  obtain ⟨g_34, hE⟩ := gd_e hE
  obtain ⟨h_35, eh_35, hE⟩ := nm_e2 hE
  refine y_iast C hW hZ k_r_31 g_34 eh_35 dX13_set_83 (fun _ _ hW km hZ => ?_)
  replace hkm := hkm.tr km
  replace k_x0 := km.at k_x0 (by decide)
  replace k_x2 := km.at k_x2 (by decide)
  exact x_vret C rfl hW hZ hkm hE dX13_set_84
