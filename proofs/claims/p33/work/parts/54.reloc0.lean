def kcX9_init_12 (h : Qs) (t0 : Nat) (t1 : Nat) : Option (Qs) := cwRk h t1 0 (some t0) fun h_1 => some h_1
theorem e_X9_init_12 {u : Hp} {h : Qs} {t0 : Nat} {t1 : Nat}  : sX9_init_12 (rel u h) (hS u + t0) (hS u + t1) = (kcX9_init_12 h t0 t1).map (rm1 u) := by
  simp only [sX9_init_12, kcX9_init_12, l_I, l_J, l_N, l_R, l_wI, l_wJ, l_wR, l_wR0, l_nC, l_nM, nm_rel, nm_hS, l_onr, m_onr, cl_some, m_br, m_gd, m_nm, m_cl, cl_m, mapS, mapN, fcN_eq, fcI_eq, cwIk_eq, cwJk_eq, cwRk_eq, cnCk_eq, cnMk_eq]

def kcX9_init_10 (h : Qs) (t0 : Int32) (t1 : Nat) : Option (Qs) := gd (¬ t0 < 0) <| gd (t0.toNatClampNeg ≤ 1000000) <| fcN (cS h) fun a_1 => cnCk h 17 t0.toNatClampNeg t0.toNatClampNeg fun h_2 => kcX9_init_12 h_2 a_1 t1
theorem e_X9_init_10 {u : Hp} {h : Qs} {t0 : Int32} {t1 : Nat}  : sX9_init_10 (rel u h) t0 (hS u + t1) = (kcX9_init_10 h t0 t1).map (rm1 u) := by
  simp only [sX9_init_10, kcX9_init_10, e_X9_init_12, l_I, l_J, l_N, l_R, l_wI, l_wJ, l_wR, l_wR0, l_nC, l_nM, nm_rel, nm_hS, l_onr, m_onr, cl_some, m_br, m_gd, m_nm, m_cl, cl_m, mapS, mapN, fcN_eq, fcI_eq, cwIk_eq, cwJk_eq, cwRk_eq, cnCk_eq, cnMk_eq]

def kcX9_init (h : Qs) (x0 : Nat) (x1 : Int32) : Option (Qs) := kcX9_init_10 h (if x1 < (0 : Int32) then (0 : Int32) else x1) x0
theorem e_X9_init {u : Hp} {h : Qs} {x0 : Nat} {x1 : Int32}  : sX9_init (rel u h) (hS u + x0) x1 = (kcX9_init h x0 x1).map (rm1 u) := by
  simp only [sX9_init, kcX9_init, e_X9_init_10, l_I, l_J, l_N, l_R, l_wI, l_wJ, l_wR, l_wR0, l_nC, l_nM, nm_rel, nm_hS, l_onr, m_onr, cl_some, m_br, m_gd, m_nm, m_cl, cl_m, mapS, mapN, fcN_eq, fcI_eq, cwIk_eq, cwJk_eq, cwRk_eq, cnCk_eq, cnMk_eq]

def kcX9_append_36 (h : Qs) : Option (Qs) := some h
theorem e_X9_append_36 {u : Hp} {h : Qs}  : sX9_append_36 (rel u h) = (kcX9_append_36 h).map (rm1 u) := by
  simp only [sX9_append_36, kcX9_append_36, l_I, l_J, l_N, l_R, l_wI, l_wJ, l_wR, l_wR0, l_nC, l_nM, nm_rel, nm_hS, l_onr, m_onr, cl_some, m_br, m_gd, m_nm, m_cl, cl_m, mapS, mapN, fcN_eq, fcI_eq, cwIk_eq, cwJk_eq, cwRk_eq, cnCk_eq, cnMk_eq]

def kcX9_append (h : Qs) (x0 : Nat) (x1 : Int32) : Option (Qs) := cl (cR h x0 0) fun r_1 => br ((nI (cN h r_1)) ≤ (cI h x0 1)) (kcX9_append_36 h) (cl (cR h x0 0) fun r_3 => gd (inB (cI h x0 1) (cN h r_3)) <| cwIk h r_3 (cI h x0 1).toNatClampNeg (x1 &&& (255 : Int32)) fun h_5 => cwIk h_5 x0 1 ((cI h_5 x0 1) + (1 : Int32)) fun h_6 => kcX9_append_36 h_6)
theorem e_X9_append {u : Hp} {h : Qs} {x0 : Nat} {x1 : Int32}  : sX9_append (rel u h) (hS u + x0) x1 = (kcX9_append h x0 x1).map (rm1 u) := by
  simp only [sX9_append, kcX9_append, e_X9_append_36, l_I, l_J, l_N, l_R, l_wI, l_wJ, l_wR, l_wR0, l_nC, l_nM, nm_rel, nm_hS, l_onr, m_onr, cl_some, m_br, m_gd, m_nm, m_cl, cl_m, mapS, mapN, fcN_eq, fcI_eq, cwIk_eq, cwJk_eq, cwRk_eq, cnCk_eq, cnMk_eq]

def kcX9_appendAll_2 (F : Nat) : Nat → Qs → Nat → Nat → Int32 → Option (Qs)
  | 0, _, _, _, _ => none
  | f + 1, h, x0, x1, x2 => br ((nI (lB x1).length) ≤ x2) (some h) (gd (inB x2 (lB x1).length) <| cl (kcX9_append h x0 (schr x1 x2)) fun o_3 => fcI (x2 + (1 : Int32)) fun v_4 => kcX9_appendAll_2 F f o_3 x0 x1 v_4)
theorem e_X9_appendAll_2 {u : Hp} {F : Nat}  : ∀ (f : Nat) (h : Qs) (x0 : Nat) (x1 : Nat) (x2 : Int32), sX9_appendAll_2 F f (rel u h) (hS u + x0) x1 x2 = (kcX9_appendAll_2 F f h x0 x1 x2).map (rm1 u) := by
  intro f
  induction f with
  | zero => intros; rfl
  | succ f ih =>
    intro h x0 x1 x2
    simp only [sX9_appendAll_2, kcX9_appendAll_2, ih, e_X9_append, l_I, l_J, l_N, l_R, l_wI, l_wJ, l_wR, l_wR0, l_nC, l_nM, nm_rel, nm_hS, l_onr, m_onr, cl_some, m_br, m_gd, m_nm, m_cl, cl_m, mapS, mapN, fcN_eq, fcI_eq, cwIk_eq, cwJk_eq, cwRk_eq, cnCk_eq, cnMk_eq]

def kcX9_appendAll (F : Nat) (h : Qs) (x0 : Nat) (x1 : Nat) : Option (Qs) := kcX9_appendAll_2 F F h x0 x1 (0 : Int32)
theorem e_X9_appendAll {u : Hp} {F : Nat} {h : Qs} {x0 : Nat} {x1 : Nat}  : sX9_appendAll F (rel u h) (hS u + x0) x1 = (kcX9_appendAll F h x0 x1).map (rm1 u) := by
  simp only [sX9_appendAll, kcX9_appendAll, e_X9_appendAll_2, l_I, l_J, l_N, l_R, l_wI, l_wJ, l_wR, l_wR0, l_nC, l_nM, nm_rel, nm_hS, l_onr, m_onr, cl_some, m_br, m_gd, m_nm, m_cl, cl_m, mapS, mapN, fcN_eq, fcI_eq, cwIk_eq, cwJk_eq, cwRk_eq, cnCk_eq, cnMk_eq]

def kcX9_byteAt_22 (h : Qs) (t0 : Int32) : Option (Int32 × Qs) := some (t0 , h)
theorem e_X9_byteAt_22 {u : Hp} {h : Qs} {t0 : Int32}  : sX9_byteAt_22 (rel u h) t0 = (kcX9_byteAt_22 h t0).map (rm2 u) := by
  simp only [sX9_byteAt_22, kcX9_byteAt_22, l_I, l_J, l_N, l_R, l_wI, l_wJ, l_wR, l_wR0, l_nC, l_nM, nm_rel, nm_hS, l_onr, m_onr, cl_some, m_br, m_gd, m_nm, m_cl, cl_m, mapS, mapN, fcN_eq, fcI_eq, cwIk_eq, cwJk_eq, cwRk_eq, cnCk_eq, cnMk_eq]

def kcX9_byteAt_21 (h : Qs) : Option (Int32 × Qs) := kcX9_byteAt_22 h (- 1 : Int32)
theorem e_X9_byteAt_21 {u : Hp} {h : Qs}  : sX9_byteAt_21 (rel u h) = (kcX9_byteAt_21 h).map (rm2 u) := by
  simp only [sX9_byteAt_21, kcX9_byteAt_21, e_X9_byteAt_22, l_I, l_J, l_N, l_R, l_wI, l_wJ, l_wR, l_wR0, l_nC, l_nM, nm_rel, nm_hS, l_onr, m_onr, cl_some, m_br, m_gd, m_nm, m_cl, cl_m, mapS, mapN, fcN_eq, fcI_eq, cwIk_eq, cwJk_eq, cwRk_eq, cnCk_eq, cnMk_eq]

def kcX9_byteAt (h : Qs) (x0 : Nat) (x1 : Int32) : Option (Int32 × Qs) := br (x1 < 0) (kcX9_byteAt_21 h) (br ((cI h x0 1) ≤ x1) (kcX9_byteAt_21 h) (cl (cR h x0 0) fun r_3 => gd (inB x1 (cN h r_3)) <| kcX9_byteAt_22 h (cI h r_3 x1.toNatClampNeg)))
theorem e_X9_byteAt {u : Hp} {h : Qs} {x0 : Nat} {x1 : Int32}  : sX9_byteAt (rel u h) (hS u + x0) x1 = (kcX9_byteAt h x0 x1).map (rm2 u) := by
  simp only [sX9_byteAt, kcX9_byteAt, e_X9_byteAt_21, e_X9_byteAt_22, l_I, l_J, l_N, l_R, l_wI, l_wJ, l_wR, l_wR0, l_nC, l_nM, nm_rel, nm_hS, l_onr, m_onr, cl_some, m_br, m_gd, m_nm, m_cl, cl_m, mapS, mapN, fcN_eq, fcI_eq, cwIk_eq, cwJk_eq, cwRk_eq, cnCk_eq, cnMk_eq]

def kcJ7_fill_031fb_5 (F : Nat) : Nat → Qs → Nat → Int32 → Int32 → Int32 → Option (Qs)
  | 0, _, _, _, _, _ => none
  | f + 1, h, x0, x1, x2, x3 => br (x3 ≤ x2) (some h) (gd (inB x2 (cN h x0)) <| cwIk h x0 x2.toNatClampNeg (vp_nar .byte x1) fun h_3 => fcI (x2 + (1 : Int32)) fun v_4 => kcJ7_fill_031fb_5 F f h_3 x0 x1 v_4 x3)
theorem e_J7_fill_031fb_5 {u : Hp} {F : Nat}  : ∀ (f : Nat) (h : Qs) (x0 : Nat) (x1 : Int32) (x2 : Int32) (x3 : Int32), sJ7_fill_031fb_5 F f (rel u h) (hS u + x0) x1 x2 x3 = (kcJ7_fill_031fb_5 F f h x0 x1 x2 x3).map (rm1 u) := by
  intro f
  induction f with
  | zero => intros; rfl
  | succ f ih =>
    intro h x0 x1 x2 x3
    simp only [sJ7_fill_031fb_5, kcJ7_fill_031fb_5, ih, l_I, l_J, l_N, l_R, l_wI, l_wJ, l_wR, l_wR0, l_nC, l_nM, nm_rel, nm_hS, l_onr, m_onr, cl_some, m_br, m_gd, m_nm, m_cl, cl_m, mapS, mapN, fcN_eq, fcI_eq, cwIk_eq, cwJk_eq, cwRk_eq, cnCk_eq, cnMk_eq]

def kcJ7_fill_031fb (F : Nat) (h : Qs) (x0 : Nat) (x1 : Int32) : Option (Qs) := fcI (nI (cN h x0)) fun v_1 => kcJ7_fill_031fb_5 F F h x0 x1 (0 : Int32) v_1
theorem e_J7_fill_031fb {u : Hp} {F : Nat} {h : Qs} {x0 : Nat} {x1 : Int32}  : sJ7_fill_031fb F (rel u h) (hS u + x0) x1 = (kcJ7_fill_031fb F h x0 x1).map (rm1 u) := by
  simp only [sJ7_fill_031fb, kcJ7_fill_031fb, e_J7_fill_031fb_5, l_I, l_J, l_N, l_R, l_wI, l_wJ, l_wR, l_wR0, l_nC, l_nM, nm_rel, nm_hS, l_onr, m_onr, cl_some, m_br, m_gd, m_nm, m_cl, cl_m, mapS, mapN, fcN_eq, fcI_eq, cwIk_eq, cwJk_eq, cwRk_eq, cnCk_eq, cnMk_eq]

def kcJ7_fill_53178_5 (F : Nat) : Nat → Qs → Nat → Int32 → Int32 → Int32 → Option (Qs)
  | 0, _, _, _, _, _ => none
  | f + 1, h, x0, x1, x2, x3 => br (x3 ≤ x2) (some h) (gd (inB x2 (cN h x0)) <| cwIk h x0 x2.toNatClampNeg x1 fun h_3 => fcI (x2 + (1 : Int32)) fun v_4 => kcJ7_fill_53178_5 F f h_3 x0 x1 v_4 x3)
theorem e_J7_fill_53178_5 {u : Hp} {F : Nat}  : ∀ (f : Nat) (h : Qs) (x0 : Nat) (x1 : Int32) (x2 : Int32) (x3 : Int32), sJ7_fill_53178_5 F f (rel u h) (hS u + x0) x1 x2 x3 = (kcJ7_fill_53178_5 F f h x0 x1 x2 x3).map (rm1 u) := by
  intro f
  induction f with
  | zero => intros; rfl
  | succ f ih =>
    intro h x0 x1 x2 x3
    simp only [sJ7_fill_53178_5, kcJ7_fill_53178_5, ih, l_I, l_J, l_N, l_R, l_wI, l_wJ, l_wR, l_wR0, l_nC, l_nM, nm_rel, nm_hS, l_onr, m_onr, cl_some, m_br, m_gd, m_nm, m_cl, cl_m, mapS, mapN, fcN_eq, fcI_eq, cwIk_eq, cwJk_eq, cwRk_eq, cnCk_eq, cnMk_eq]

def kcJ7_fill_53178 (F : Nat) (h : Qs) (x0 : Nat) (x1 : Int32) : Option (Qs) := fcI (nI (cN h x0)) fun v_1 => kcJ7_fill_53178_5 F F h x0 x1 (0 : Int32) v_1
theorem e_J7_fill_53178 {u : Hp} {F : Nat} {h : Qs} {x0 : Nat} {x1 : Int32}  : sJ7_fill_53178 F (rel u h) (hS u + x0) x1 = (kcJ7_fill_53178 F h x0 x1).map (rm1 u) := by
  simp only [sJ7_fill_53178, kcJ7_fill_53178, e_J7_fill_53178_5, l_I, l_J, l_N, l_R, l_wI, l_wJ, l_wR, l_wR0, l_nC, l_nM, nm_rel, nm_hS, l_onr, m_onr, cl_some, m_br, m_gd, m_nm, m_cl, cl_m, mapS, mapN, fcN_eq, fcI_eq, cwIk_eq, cwJk_eq, cwRk_eq, cnCk_eq, cnMk_eq]

def kcX1_init_57 (h : Qs) (t0 : Nat) (t1 : Nat) : Option (Qs) := cwRk h t1 20 (some t0) fun h_1 => some h_1
theorem e_X1_init_57 {u : Hp} {h : Qs} {t0 : Nat} {t1 : Nat}  : sX1_init_57 (rel u h) (hS u + t0) (hS u + t1) = (kcX1_init_57 h t0 t1).map (rm1 u) := by
  simp only [sX1_init_57, kcX1_init_57, l_I, l_J, l_N, l_R, l_wI, l_wJ, l_wR, l_wR0, l_nC, l_nM, nm_rel, nm_hS, l_onr, m_onr, cl_some, m_br, m_gd, m_nm, m_cl, cl_m, mapS, mapN, fcN_eq, fcI_eq, cwIk_eq, cwJk_eq, cwRk_eq, cnCk_eq, cnMk_eq]

def kcX1_init_49 (h : Qs) (x0 : Nat) (t0 : Nat) (t1 : Nat) : Option (Qs) := cwRk h t1 19 (some t0) fun h_1 => fcN (cS h_1) fun a_2 => cnCk h_1 17 (64 : Int32).toNatClampNeg (64 : Int32).toNatClampNeg fun h_3 => kcX1_init_57 h_3 a_2 x0
theorem e_X1_init_49 {u : Hp} {h : Qs} {x0 : Nat} {t0 : Nat} {t1 : Nat}  : sX1_init_49 (rel u h) (hS u + x0) (hS u + t0) (hS u + t1) = (kcX1_init_49 h x0 t0 t1).map (rm1 u) := by
  simp only [sX1_init_49, kcX1_init_49, e_X1_init_57, l_I, l_J, l_N, l_R, l_wI, l_wJ, l_wR, l_wR0, l_nC, l_nM, nm_rel, nm_hS, l_onr, m_onr, cl_some, m_br, m_gd, m_nm, m_cl, cl_m, mapS, mapN, fcN_eq, fcI_eq, cwIk_eq, cwJk_eq, cwRk_eq, cnCk_eq, cnMk_eq]

def kcX1_init_41 (h : Qs) (x0 : Nat) (t0 : Nat) (t1 : Nat) : Option (Qs) := cwRk h t1 18 (some t0) fun h_1 => fcN (cS h_1) fun a_2 => cnCk h_1 17 (64 : Int32).toNatClampNeg (64 : Int32).toNatClampNeg fun h_3 => kcX1_init_49 h_3 x0 a_2 x0
theorem e_X1_init_41 {u : Hp} {h : Qs} {x0 : Nat} {t0 : Nat} {t1 : Nat}  : sX1_init_41 (rel u h) (hS u + x0) (hS u + t0) (hS u + t1) = (kcX1_init_41 h x0 t0 t1).map (rm1 u) := by
  simp only [sX1_init_41, kcX1_init_41, e_X1_init_49, l_I, l_J, l_N, l_R, l_wI, l_wJ, l_wR, l_wR0, l_nC, l_nM, nm_rel, nm_hS, l_onr, m_onr, cl_some, m_br, m_gd, m_nm, m_cl, cl_m, mapS, mapN, fcN_eq, fcI_eq, cwIk_eq, cwJk_eq, cwRk_eq, cnCk_eq, cnMk_eq]

def kcX1_init_33 (h : Qs) (x0 : Nat) (t0 : Nat) (t1 : Nat) : Option (Qs) := cwRk h t1 17 (some t0) fun h_1 => fcN (cS h_1) fun a_2 => cnCk h_1 17 (12 : Int32).toNatClampNeg (12 : Int32).toNatClampNeg fun h_3 => kcX1_init_41 h_3 x0 a_2 x0
theorem e_X1_init_33 {u : Hp} {h : Qs} {x0 : Nat} {t0 : Nat} {t1 : Nat}  : sX1_init_33 (rel u h) (hS u + x0) (hS u + t0) (hS u + t1) = (kcX1_init_33 h x0 t0 t1).map (rm1 u) := by
  simp only [sX1_init_33, kcX1_init_33, e_X1_init_41, l_I, l_J, l_N, l_R, l_wI, l_wJ, l_wR, l_wR0, l_nC, l_nM, nm_rel, nm_hS, l_onr, m_onr, cl_some, m_br, m_gd, m_nm, m_cl, cl_m, mapS, mapN, fcN_eq, fcI_eq, cwIk_eq, cwJk_eq, cwRk_eq, cnCk_eq, cnMk_eq]

def kcX1_init_25 (h : Qs) (x0 : Nat) (t0 : Nat) (t1 : Nat) : Option (Qs) := cwRk h t1 16 (some t0) fun h_1 => fcN (cS h_1) fun a_2 => cnCk h_1 17 (72 : Int32).toNatClampNeg (72 : Int32).toNatClampNeg fun h_3 => kcX1_init_33 h_3 x0 a_2 x0
theorem e_X1_init_25 {u : Hp} {h : Qs} {x0 : Nat} {t0 : Nat} {t1 : Nat}  : sX1_init_25 (rel u h) (hS u + x0) (hS u + t0) (hS u + t1) = (kcX1_init_25 h x0 t0 t1).map (rm1 u) := by
  simp only [sX1_init_25, kcX1_init_25, e_X1_init_33, l_I, l_J, l_N, l_R, l_wI, l_wJ, l_wR, l_wR0, l_nC, l_nM, nm_rel, nm_hS, l_onr, m_onr, cl_some, m_br, m_gd, m_nm, m_cl, cl_m, mapS, mapN, fcN_eq, fcI_eq, cwIk_eq, cwJk_eq, cwRk_eq, cnCk_eq, cnMk_eq]

def kcX1_init_17 (h : Qs) (x0 : Nat) (t0 : Nat) (t1 : Nat) : Option (Qs) := cwRk h t1 15 (some t0) fun h_1 => fcN (cS h_1) fun a_2 => cnCk h_1 17 (12 : Int32).toNatClampNeg (12 : Int32).toNatClampNeg fun h_3 => kcX1_init_25 h_3 x0 a_2 x0
theorem e_X1_init_17 {u : Hp} {h : Qs} {x0 : Nat} {t0 : Nat} {t1 : Nat}  : sX1_init_17 (rel u h) (hS u + x0) (hS u + t0) (hS u + t1) = (kcX1_init_17 h x0 t0 t1).map (rm1 u) := by
  simp only [sX1_init_17, kcX1_init_17, e_X1_init_25, l_I, l_J, l_N, l_R, l_wI, l_wJ, l_wR, l_wR0, l_nC, l_nM, nm_rel, nm_hS, l_onr, m_onr, cl_some, m_br, m_gd, m_nm, m_cl, cl_m, mapS, mapN, fcN_eq, fcI_eq, cwIk_eq, cwJk_eq, cwRk_eq, cnCk_eq, cnMk_eq]

def kcX1_init_9 (h : Qs) (x0 : Nat) (t0 : Nat) (t1 : Nat) : Option (Qs) := cwRk h t1 14 (some t0) fun h_1 => fcN (cS h_1) fun a_2 => cnCk h_1 17 (96 : Int32).toNatClampNeg (96 : Int32).toNatClampNeg fun h_3 => kcX1_init_17 h_3 x0 a_2 x0
theorem e_X1_init_9 {u : Hp} {h : Qs} {x0 : Nat} {t0 : Nat} {t1 : Nat}  : sX1_init_9 (rel u h) (hS u + x0) (hS u + t0) (hS u + t1) = (kcX1_init_9 h x0 t0 t1).map (rm1 u) := by
  simp only [sX1_init_9, kcX1_init_9, e_X1_init_17, l_I, l_J, l_N, l_R, l_wI, l_wJ, l_wR, l_wR0, l_nC, l_nM, nm_rel, nm_hS, l_onr, m_onr, cl_some, m_br, m_gd, m_nm, m_cl, cl_m, mapS, mapN, fcN_eq, fcI_eq, cwIk_eq, cwJk_eq, cwRk_eq, cnCk_eq, cnMk_eq]

def kcX1_init (h : Qs) (x0 : Nat) : Option (Qs) := fcN (cS h) fun a_1 => cnCk h 17 (12 : Int32).toNatClampNeg (12 : Int32).toNatClampNeg fun h_2 => kcX1_init_9 h_2 x0 a_1 x0
theorem e_X1_init {u : Hp} {h : Qs} {x0 : Nat}  : sX1_init (rel u h) (hS u + x0) = (kcX1_init h x0).map (rm1 u) := by
  simp only [sX1_init, kcX1_init, e_X1_init_9, l_I, l_J, l_N, l_R, l_wI, l_wJ, l_wR, l_wR0, l_nC, l_nM, nm_rel, nm_hS, l_onr, m_onr, cl_some, m_br, m_gd, m_nm, m_cl, cl_m, mapS, mapN, fcN_eq, fcI_eq, cwIk_eq, cwJk_eq, cwRk_eq, cnCk_eq, cnMk_eq]

def kcX1_clear (F : Nat) (h : Qs) (x0 : Nat) : Option (Qs) := cwIk h x0 12 (0 : Int32) fun h_1 => cwIk h_1 x0 11 (0 : Int32) fun h_2 => cwIk h_2 x0 10 (0 : Int32) fun h_3 => cwIk h_3 x0 9 (0 : Int32) fun h_4 => cwIk h_4 x0 8 (0 : Int32) fun h_5 => cwIk h_5 x0 7 (0 : Int32) fun h_6 => cwIk h_6 x0 3 (0 : Int32) fun h_7 => cwIk h_7 x0 2 (0 : Int32) fun h_8 => cwIk h_8 x0 1 (0 : Int32) fun h_9 => cwIk h_9 x0 0 (0 : Int32) fun h_10 => cwIk h_10 x0 6 (- 1 : Int32) fun h_11 => cwIk h_11 x0 5 (- 1 : Int32) fun h_12 => cwIk h_12 x0 4 (- 1 : Int32) fun h_13 => cwJk h_13 x0 13 (0 : Int64) fun h_14 => cl (cR h_14 x0 16) fun r_15 => cl (kcJ7_fill_53178 F h_14 r_15 (0 : Int32)) fun o_16 => cl (cR o_16 x0 18) fun r_17 => cl (kcJ7_fill_53178 F o_16 r_17 (0 : Int32)) fun o_18 => some o_18
theorem e_X1_clear {u : Hp} {F : Nat} {h : Qs} {x0 : Nat}  : sX1_clear F (rel u h) (hS u + x0) = (kcX1_clear F h x0).map (rm1 u) := by
  simp only [sX1_clear, kcX1_clear, e_J7_fill_53178, l_I, l_J, l_N, l_R, l_wI, l_wJ, l_wR, l_wR0, l_nC, l_nM, nm_rel, nm_hS, l_onr, m_onr, cl_some, m_br, m_gd, m_nm, m_cl, cl_m, mapS, mapN, fcN_eq, fcI_eq, cwIk_eq, cwJk_eq, cwRk_eq, cnCk_eq, cnMk_eq]

def kcX1_setBoard_83 (F : Nat) (k_17 : Qs → Nat → Int32 → Option (Qs)) (h : Qs) (x0 : Nat) (x3 : Int32) : Option (Qs) := fcI (x3 + (1 : Int32)) fun v_1 => k_17 h x0 v_1
theorem e_X1_setBoard_83 {u : Hp} {F : Nat} {k_17 : Hp → Nat → Int32 → Option (Hp)} {k_17_ : Qs → Nat → Int32 → Option (Qs)} {h : Qs} {x0 : Nat} {x3 : Int32} (hk_17 : ∀ (h : Qs) (x0 : Nat) (x3 : Int32), k_17 (rel u h) (hS u + x0) x3 = (k_17_ h x0 x3).map (rm1 u)) : sX1_setBoard_83 F k_17 (rel u h) (hS u + x0) x3 = (kcX1_setBoard_83 F k_17_ h x0 x3).map (rm1 u) := by
  simp only [sX1_setBoard_83, kcX1_setBoard_83, hk_17, l_I, l_J, l_N, l_R, l_wI, l_wJ, l_wR, l_wR0, l_nC, l_nM, nm_rel, nm_hS, l_onr, m_onr, cl_some, m_br, m_gd, m_nm, m_cl, cl_m, mapS, mapN, fcN_eq, fcI_eq, cwIk_eq, cwJk_eq, cwRk_eq, cnCk_eq, cnMk_eq]

def kcX1_setBoard_28 (F : Nat) (k_17 : Qs → Nat → Int32 → Option (Qs)) : Nat → Qs → Nat → Int32 → Int32 → Option (Qs)
  | 0, _, _, _, _ => none
  | f + 1, h, x0, x3, x4 => br ((cI h x0 0) ≤ x4) (kcX1_setBoard_83 F k_17 h x0 x3) (br ((64 : Int32) ≤ (cI h x0 2)) (kcX1_setBoard_83 F k_17 h x0 x3) (cl (cR h x0 19) fun r_3 => gd (inB (cI h x0 2) (cN h r_3)) <| cwIk h r_3 (cI h x0 2).toNatClampNeg x4 fun h_5 => cl (cR h_5 x0 20) fun r_6 => gd (inB (cI h_5 x0 2) (cN h_5 r_6)) <| cwIk h_5 r_6 (cI h_5 x0 2).toNatClampNeg x3 fun h_8 => cwIk h_8 x0 2 ((cI h_8 x0 2) + (1 : Int32)) fun h_9 => fcI (x4 + (1 : Int32)) fun v_10 => kcX1_setBoard_28 F k_17 f h_9 x0 x3 v_10))
theorem e_X1_setBoard_28 {u : Hp} {F : Nat} {k_17 : Hp → Nat → Int32 → Option (Hp)} {k_17_ : Qs → Nat → Int32 → Option (Qs)} (hk_17 : ∀ (h : Qs) (x0 : Nat) (x3 : Int32), k_17 (rel u h) (hS u + x0) x3 = (k_17_ h x0 x3).map (rm1 u)) : ∀ (f : Nat) (h : Qs) (x0 : Nat) (x3 : Int32) (x4 : Int32), sX1_setBoard_28 F k_17 f (rel u h) (hS u + x0) x3 x4 = (kcX1_setBoard_28 F k_17_ f h x0 x3 x4).map (rm1 u) := by
  intro f
  induction f with
  | zero => intros; rfl
  | succ f ih =>
    intro h x0 x3 x4
    simp only [sX1_setBoard_28, kcX1_setBoard_28, (e_X1_setBoard_83 hk_17), ih, hk_17, l_I, l_J, l_N, l_R, l_wI, l_wJ, l_wR, l_wR0, l_nC, l_nM, nm_rel, nm_hS, l_onr, m_onr, cl_some, m_br, m_gd, m_nm, m_cl, cl_m, mapS, mapN, fcN_eq, fcI_eq, cwIk_eq, cwJk_eq, cwRk_eq, cnCk_eq, cnMk_eq]

def kcX1_setBoard_17 (F : Nat) : Nat → Qs → Nat → Int32 → Option (Qs)
  | 0, _, _, _ => none
  | f + 1, h, x0, x3 => br ((cI h x0 1) ≤ x3) (some h) (kcX1_setBoard_28 F (kcX1_setBoard_17 F f) F h x0 x3 (0 : Int32))
theorem e_X1_setBoard_17 {u : Hp} {F : Nat}  : ∀ (f : Nat) (h : Qs) (x0 : Nat) (x3 : Int32), sX1_setBoard_17 F f (rel u h) (hS u + x0) x3 = (kcX1_setBoard_17 F f h x0 x3).map (rm1 u) := by
  intro f
  induction f with
  | zero => intros; rfl
  | succ f ih =>
    intro h x0 x3
    simp only [sX1_setBoard_17, kcX1_setBoard_17, (e_X1_setBoard_28 ih), l_I, l_J, l_N, l_R, l_wI, l_wJ, l_wR, l_wR0, l_nC, l_nM, nm_rel, nm_hS, l_onr, m_onr, cl_some, m_br, m_gd, m_nm, m_cl, cl_m, mapS, mapN, fcN_eq, fcI_eq, cwIk_eq, cwJk_eq, cwRk_eq, cnCk_eq, cnMk_eq]

def kcX1_setBoard (F : Nat) (h : Qs) (x0 : Nat) (x1 : Int32) (x2 : Int32) : Option (Qs) := cwIk h x0 0 x1 fun h_1 => cwIk h_1 x0 1 x2 fun h_2 => cwIk h_2 x0 2 (0 : Int32) fun h_3 => kcX1_setBoard_17 F F h_3 x0 (0 : Int32)
theorem e_X1_setBoard {u : Hp} {F : Nat} {h : Qs} {x0 : Nat} {x1 : Int32} {x2 : Int32}  : sX1_setBoard F (rel u h) (hS u + x0) x1 x2 = (kcX1_setBoard F h x0 x1 x2).map (rm1 u) := by
  simp only [sX1_setBoard, kcX1_setBoard, e_X1_setBoard_17, l_I, l_J, l_N, l_R, l_wI, l_wJ, l_wR, l_wR0, l_nC, l_nM, nm_rel, nm_hS, l_onr, m_onr, cl_some, m_br, m_gd, m_nm, m_cl, cl_m, mapS, mapN, fcN_eq, fcI_eq, cwIk_eq, cwJk_eq, cwRk_eq, cnCk_eq, cnMk_eq]

def kcX1_manOf_2 (F : Nat) : Nat → Qs → Nat → Int32 → Int32 → Option (Int32 × Qs)
  | 0, _, _, _, _ => none
  | f + 1, h, x0, x1, x2 => br ((cI h x0 3) ≤ x2) (some ((- 1 : Int32) , h)) (cl (cR h x0 14) fun r_2 => gd (inB x2 (cN h r_2)) <| br ((cI h r_2 x2.toNatClampNeg) = x1) (some (x2 , h)) (fcI (x2 + (1 : Int32)) fun v_5 => kcX1_manOf_2 F f h x0 x1 v_5))
theorem e_X1_manOf_2 {u : Hp} {F : Nat}  : ∀ (f : Nat) (h : Qs) (x0 : Nat) (x1 : Int32) (x2 : Int32), sX1_manOf_2 F f (rel u h) (hS u + x0) x1 x2 = (kcX1_manOf_2 F f h x0 x1 x2).map (rm2 u) := by
  intro f
  induction f with
  | zero => intros; rfl
  | succ f ih =>
    intro h x0 x1 x2
    simp only [sX1_manOf_2, kcX1_manOf_2, ih, l_I, l_J, l_N, l_R, l_wI, l_wJ, l_wR, l_wR0, l_nC, l_nM, nm_rel, nm_hS, l_onr, m_onr, cl_some, m_br, m_gd, m_nm, m_cl, cl_m, mapS, mapN, fcN_eq, fcI_eq, cwIk_eq, cwJk_eq, cwRk_eq, cnCk_eq, cnMk_eq]

def kcX1_manOf (F : Nat) (h : Qs) (x0 : Nat) (x1 : Int32) : Option (Int32 × Qs) := kcX1_manOf_2 F F h x0 x1 (0 : Int32)
theorem e_X1_manOf {u : Hp} {F : Nat} {h : Qs} {x0 : Nat} {x1 : Int32}  : sX1_manOf F (rel u h) (hS u + x0) x1 = (kcX1_manOf F h x0 x1).map (rm2 u) := by
  simp only [sX1_manOf, kcX1_manOf, e_X1_manOf_2, l_I, l_J, l_N, l_R, l_wI, l_wJ, l_wR, l_wR0, l_nC, l_nM, nm_rel, nm_hS, l_onr, m_onr, cl_some, m_br, m_gd, m_nm, m_cl, cl_m, mapS, mapN, fcN_eq, fcI_eq, cwIk_eq, cwJk_eq, cwRk_eq, cnCk_eq, cnMk_eq]

def kcX1_becomesOthers_24 (h : Qs) (t0 : Int32) : Option (Int32 × Qs) := gd (t0 &&& 1 = t0) <| some (t0 , h)
theorem e_X1_becomesOthers_24 {u : Hp} {h : Qs} {t0 : Int32}  : sX1_becomesOthers_24 (rel u h) t0 = (kcX1_becomesOthers_24 h t0).map (rm2 u) := by
  simp only [sX1_becomesOthers_24, kcX1_becomesOthers_24, l_I, l_J, l_N, l_R, l_wI, l_wJ, l_wR, l_wR0, l_nC, l_nM, nm_rel, nm_hS, l_onr, m_onr, cl_some, m_br, m_gd, m_nm, m_cl, cl_m, mapS, mapN, fcN_eq, fcI_eq, cwIk_eq, cwJk_eq, cwRk_eq, cnCk_eq, cnMk_eq]

def kcX1_becomesOthers_23 (h : Qs) : Option (Int32 × Qs) := kcX1_becomesOthers_24 h (0 : Int32)
theorem e_X1_becomesOthers_23 {u : Hp} {h : Qs}  : sX1_becomesOthers_23 (rel u h) = (kcX1_becomesOthers_23 h).map (rm2 u) := by
  simp only [sX1_becomesOthers_23, kcX1_becomesOthers_23, e_X1_becomesOthers_24, l_I, l_J, l_N, l_R, l_wI, l_wJ, l_wR, l_wR0, l_nC, l_nM, nm_rel, nm_hS, l_onr, m_onr, cl_some, m_br, m_gd, m_nm, m_cl, cl_m, mapS, mapN, fcN_eq, fcI_eq, cwIk_eq, cwJk_eq, cwRk_eq, cnCk_eq, cnMk_eq]

def kcX1_becomesOthers (h : Qs) (x0 : Nat) (x1 : Int32) : Option (Int32 × Qs) := br (x1 < 0) (kcX1_becomesOthers_23 h) (br ((12 : Int32) ≤ x1) (kcX1_becomesOthers_23 h) (cl (cR h x0 18) fun r_3 => gd (inB x1 (cN h r_3)) <| br ((cI h r_3 x1.toNatClampNeg) ≤ 0) (kcX1_becomesOthers_23 h) (kcX1_becomesOthers_24 h (1 : Int32))))
theorem e_X1_becomesOthers {u : Hp} {h : Qs} {x0 : Nat} {x1 : Int32}  : sX1_becomesOthers (rel u h) (hS u + x0) x1 = (kcX1_becomesOthers h x0 x1).map (rm2 u) := by
  simp only [sX1_becomesOthers, kcX1_becomesOthers, e_X1_becomesOthers_23, e_X1_becomesOthers_24, l_I, l_J, l_N, l_R, l_wI, l_wJ, l_wR, l_wR0, l_nC, l_nM, nm_rel, nm_hS, l_onr, m_onr, cl_some, m_br, m_gd, m_nm, m_cl, cl_m, mapS, mapN, fcN_eq, fcI_eq, cwIk_eq, cwJk_eq, cwRk_eq, cnCk_eq, cnMk_eq]

def kcX2_init (h : Qs) (x0 : Nat) : Option (Qs) := some h
theorem e_X2_init {u : Hp} {h : Qs} {x0 : Nat}  : sX2_init (rel u h) (hS u + x0) = (kcX2_init h x0).map (rm1 u) := by
  simp only [sX2_init, kcX2_init, l_I, l_J, l_N, l_R, l_wI, l_wJ, l_wR, l_wR0, l_nC, l_nM, nm_rel, nm_hS, l_onr, m_onr, cl_some, m_br, m_gd, m_nm, m_cl, cl_m, mapS, mapN, fcN_eq, fcI_eq, cwIk_eq, cwJk_eq, cwRk_eq, cnCk_eq, cnMk_eq]

def kcX2_isLetter_17 (h : Qs) (t0 : Int32) : Option (Int32 × Qs) := gd (t0 &&& 1 = t0) <| some (t0 , h)
theorem e_X2_isLetter_17 {u : Hp} {h : Qs} {t0 : Int32}  : sX2_isLetter_17 (rel u h) t0 = (kcX2_isLetter_17 h t0).map (rm2 u) := by
  simp only [sX2_isLetter_17, kcX2_isLetter_17, l_I, l_J, l_N, l_R, l_wI, l_wJ, l_wR, l_wR0, l_nC, l_nM, nm_rel, nm_hS, l_onr, m_onr, cl_some, m_br, m_gd, m_nm, m_cl, cl_m, mapS, mapN, fcN_eq, fcI_eq, cwIk_eq, cwJk_eq, cwRk_eq, cnCk_eq, cnMk_eq]

def kcX2_isLetter_16 (h : Qs) : Option (Int32 × Qs) := kcX2_isLetter_17 h (0 : Int32)
theorem e_X2_isLetter_16 {u : Hp} {h : Qs}  : sX2_isLetter_16 (rel u h) = (kcX2_isLetter_16 h).map (rm2 u) := by
  simp only [sX2_isLetter_16, kcX2_isLetter_16, e_X2_isLetter_17, l_I, l_J, l_N, l_R, l_wI, l_wJ, l_wR, l_wR0, l_nC, l_nM, nm_rel, nm_hS, l_onr, m_onr, cl_some, m_br, m_gd, m_nm, m_cl, cl_m, mapS, mapN, fcN_eq, fcI_eq, cwIk_eq, cwJk_eq, cwRk_eq, cnCk_eq, cnMk_eq]

def kcX2_isLetter (h : Qs) (x0 : Int32) : Option (Int32 × Qs) := br (x0 < (97 : Int32)) (kcX2_isLetter_16 h) (br ((122 : Int32) < x0) (kcX2_isLetter_16 h) (kcX2_isLetter_17 h (1 : Int32)))
theorem e_X2_isLetter {u : Hp} {h : Qs} {x0 : Int32}  : sX2_isLetter (rel u h) x0 = (kcX2_isLetter h x0).map (rm2 u) := by
  simp only [sX2_isLetter, kcX2_isLetter, e_X2_isLetter_16, e_X2_isLetter_17, l_I, l_J, l_N, l_R, l_wI, l_wJ, l_wR, l_wR0, l_nC, l_nM, nm_rel, nm_hS, l_onr, m_onr, cl_some, m_br, m_gd, m_nm, m_cl, cl_m, mapS, mapN, fcN_eq, fcI_eq, cwIk_eq, cwJk_eq, cwRk_eq, cnCk_eq, cnMk_eq]

def kcX2_isDigit_17 (h : Qs) (t0 : Int32) : Option (Int32 × Qs) := gd (t0 &&& 1 = t0) <| some (t0 , h)
theorem e_X2_isDigit_17 {u : Hp} {h : Qs} {t0 : Int32}  : sX2_isDigit_17 (rel u h) t0 = (kcX2_isDigit_17 h t0).map (rm2 u) := by
  simp only [sX2_isDigit_17, kcX2_isDigit_17, l_I, l_J, l_N, l_R, l_wI, l_wJ, l_wR, l_wR0, l_nC, l_nM, nm_rel, nm_hS, l_onr, m_onr, cl_some, m_br, m_gd, m_nm, m_cl, cl_m, mapS, mapN, fcN_eq, fcI_eq, cwIk_eq, cwJk_eq, cwRk_eq, cnCk_eq, cnMk_eq]

def kcX2_isDigit_16 (h : Qs) : Option (Int32 × Qs) := kcX2_isDigit_17 h (0 : Int32)
theorem e_X2_isDigit_16 {u : Hp} {h : Qs}  : sX2_isDigit_16 (rel u h) = (kcX2_isDigit_16 h).map (rm2 u) := by
  simp only [sX2_isDigit_16, kcX2_isDigit_16, e_X2_isDigit_17, l_I, l_J, l_N, l_R, l_wI, l_wJ, l_wR, l_wR0, l_nC, l_nM, nm_rel, nm_hS, l_onr, m_onr, cl_some, m_br, m_gd, m_nm, m_cl, cl_m, mapS, mapN, fcN_eq, fcI_eq, cwIk_eq, cwJk_eq, cwRk_eq, cnCk_eq, cnMk_eq]

def kcX2_isDigit (h : Qs) (x0 : Int32) : Option (Int32 × Qs) := br (x0 < (48 : Int32)) (kcX2_isDigit_16 h) (br ((57 : Int32) < x0) (kcX2_isDigit_16 h) (kcX2_isDigit_17 h (1 : Int32)))
theorem e_X2_isDigit {u : Hp} {h : Qs} {x0 : Int32}  : sX2_isDigit (rel u h) x0 = (kcX2_isDigit h x0).map (rm2 u) := by
  simp only [sX2_isDigit, kcX2_isDigit, e_X2_isDigit_16, e_X2_isDigit_17, l_I, l_J, l_N, l_R, l_wI, l_wJ, l_wR, l_wR0, l_nC, l_nM, nm_rel, nm_hS, l_onr, m_onr, cl_some, m_br, m_gd, m_nm, m_cl, cl_m, mapS, mapN, fcN_eq, fcI_eq, cwIk_eq, cwJk_eq, cwRk_eq, cnCk_eq, cnMk_eq]

def kcX2_scanNumber_141 (F : Nat) (h : Qs) : Option (Qs) := some h
theorem e_X2_scanNumber_141 {u : Hp} {F : Nat} {h : Qs}  : sX2_scanNumber_141 F (rel u h) = (kcX2_scanNumber_141 F h).map (rm1 u) := by
  simp only [sX2_scanNumber_141, kcX2_scanNumber_141, l_I, l_J, l_N, l_R, l_wI, l_wJ, l_wR, l_wR0, l_nC, l_nM, nm_rel, nm_hS, l_onr, m_onr, cl_some, m_br, m_gd, m_nm, m_cl, cl_m, mapS, mapN, fcN_eq, fcI_eq, cwIk_eq, cwJk_eq, cwRk_eq, cnCk_eq, cnMk_eq]

def kcX2_scanNumber_121 (F : Nat) (h : Qs) (x0 : Nat) (x1 : Int32) (t0 : Int32) (t1 : Nat) : Option (Qs) := cwIk h t1 4 t0 fun h_1 => br (x1 ≤ (cI h_1 x0 2)) (kcX2_scanNumber_141 F h_1) (cwIk h_1 x0 5 (- (cI h_1 x0 5)) fun h_3 => kcX2_scanNumber_141 F h_3)
theorem e_X2_scanNumber_121 {u : Hp} {F : Nat} {h : Qs} {x0 : Nat} {x1 : Int32} {t0 : Int32} {t1 : Nat}  : sX2_scanNumber_121 F (rel u h) (hS u + x0) x1 t0 (hS u + t1) = (kcX2_scanNumber_121 F h x0 x1 t0 t1).map (rm1 u) := by
  simp only [sX2_scanNumber_121, kcX2_scanNumber_121, e_X2_scanNumber_141, l_I, l_J, l_N, l_R, l_wI, l_wJ, l_wR, l_wR0, l_nC, l_nM, nm_rel, nm_hS, l_onr, m_onr, cl_some, m_br, m_gd, m_nm, m_cl, cl_m, mapS, mapN, fcN_eq, fcI_eq, cwIk_eq, cwJk_eq, cwRk_eq, cnCk_eq, cnMk_eq]

def kcX2_scanNumber_116 (F : Nat) (h : Qs) (x0 : Nat) (x1 : Int32) (t0 : Nat) : Option (Qs) := kcX2_scanNumber_121 F h x0 x1 (5 : Int32) t0
theorem e_X2_scanNumber_116 {u : Hp} {F : Nat} {h : Qs} {x0 : Nat} {x1 : Int32} {t0 : Nat}  : sX2_scanNumber_116 F (rel u h) (hS u + x0) x1 (hS u + t0) = (kcX2_scanNumber_116 F h x0 x1 t0).map (rm1 u) := by
  simp only [sX2_scanNumber_116, kcX2_scanNumber_116, e_X2_scanNumber_121, l_I, l_J, l_N, l_R, l_wI, l_wJ, l_wR, l_wR0, l_nC, l_nM, nm_rel, nm_hS, l_onr, m_onr, cl_some, m_br, m_gd, m_nm, m_cl, cl_m, mapS, mapN, fcN_eq, fcI_eq, cwIk_eq, cwJk_eq, cwRk_eq, cnCk_eq, cnMk_eq]

def kcX2_scanNumber_97 (F : Nat) (h : Qs) (x0 : Nat) (x1 : Int32) : Option (Qs) := br ((cI h x0 3) = x1) (kcX2_scanNumber_116 F h x0 x1 x0) (br (((cI h x0 3) - x1) ≤ (2 : Int32)) (kcX2_scanNumber_121 F h x0 x1 (2 : Int32) x0) (kcX2_scanNumber_116 F h x0 x1 x0))
theorem e_X2_scanNumber_97 {u : Hp} {F : Nat} {h : Qs} {x0 : Nat} {x1 : Int32}  : sX2_scanNumber_97 F (rel u h) (hS u + x0) x1 = (kcX2_scanNumber_97 F h x0 x1).map (rm1 u) := by
  simp only [sX2_scanNumber_97, kcX2_scanNumber_97, e_X2_scanNumber_116, e_X2_scanNumber_121, l_I, l_J, l_N, l_R, l_wI, l_wJ, l_wR, l_wR0, l_nC, l_nM, nm_rel, nm_hS, l_onr, m_onr, cl_some, m_br, m_gd, m_nm, m_cl, cl_m, mapS, mapN, fcN_eq, fcI_eq, cwIk_eq, cwJk_eq, cwRk_eq, cnCk_eq, cnMk_eq]

def kcX2_scanNumber_81 (F : Nat) (k_10 : Qs → Nat → Int32 → Option (Qs)) (h : Qs) (x0 : Nat) (x1 : Int32) (t0 : Int32) (t1 : Nat) : Option (Qs) := cwIk h t1 5 t0 fun h_1 => cwIk h_1 x0 3 ((cI h_1 x0 3) + (1 : Int32)) fun h_2 => k_10 h_2 x0 x1
theorem e_X2_scanNumber_81 {u : Hp} {F : Nat} {k_10 : Hp → Nat → Int32 → Option (Hp)} {k_10_ : Qs → Nat → Int32 → Option (Qs)} {h : Qs} {x0 : Nat} {x1 : Int32} {t0 : Int32} {t1 : Nat} (hk_10 : ∀ (h : Qs) (x0 : Nat) (x1 : Int32), k_10 (rel u h) (hS u + x0) x1 = (k_10_ h x0 x1).map (rm1 u)) : sX2_scanNumber_81 F k_10 (rel u h) (hS u + x0) x1 t0 (hS u + t1) = (kcX2_scanNumber_81 F k_10_ h x0 x1 t0 t1).map (rm1 u) := by
  simp only [sX2_scanNumber_81, kcX2_scanNumber_81, hk_10, l_I, l_J, l_N, l_R, l_wI, l_wJ, l_wR, l_wR0, l_nC, l_nM, nm_rel, nm_hS, l_onr, m_onr, cl_some, m_br, m_gd, m_nm, m_cl, cl_m, mapS, mapN, fcN_eq, fcI_eq, cwIk_eq, cwJk_eq, cwRk_eq, cnCk_eq, cnMk_eq]

def kcX2_scanNumber_10 (F : Nat) : Nat → Qs → Nat → Int32 → Option (Qs)
  | 0, _, _, _ => none
  | f + 1, h, x0, x1 => cl (cR h x0 0) fun r_1 => br ((cI h r_1 1) ≤ (cI h x0 3)) (kcX2_scanNumber_97 F h x0 x1) (cl (cR h x0 0) fun r_3 => cl (kcX9_byteAt h r_3 (cI h x0 3)) fun o_4 => cl (kcX2_isDigit o_4.2 o_4.1) fun o_5 => br (o_5.1 = 0) (kcX2_scanNumber_97 F o_5.2 x0 x1) (br ((2 : Int32) ≤ ((cI o_5.2 x0 3) - x1)) (kcX2_scanNumber_81 F (kcX2_scanNumber_10 F f) o_5.2 x0 x1 (cI o_5.2 x0 5) x0) (cl (cR o_5.2 x0 0) fun r_8 => cl (kcX9_byteAt o_5.2 r_8 (cI o_5.2 x0 3)) fun o_9 => kcX2_scanNumber_81 F (kcX2_scanNumber_10 F f) o_9.2 x0 x1 ((((10 : Int32) * (cI o_5.2 x0 5)) + o_9.1) - (48 : Int32)) x0)))
theorem e_X2_scanNumber_10 {u : Hp} {F : Nat}  : ∀ (f : Nat) (h : Qs) (x0 : Nat) (x1 : Int32), sX2_scanNumber_10 F f (rel u h) (hS u + x0) x1 = (kcX2_scanNumber_10 F f h x0 x1).map (rm1 u) := by
  intro f
  induction f with
  | zero => intros; rfl
  | succ f ih =>
    intro h x0 x1
    simp only [sX2_scanNumber_10, kcX2_scanNumber_10, e_X2_scanNumber_97, e_X9_byteAt, e_X2_isDigit, (e_X2_scanNumber_81 ih), l_I, l_J, l_N, l_R, l_wI, l_wJ, l_wR, l_wR0, l_nC, l_nM, nm_rel, nm_hS, l_onr, m_onr, cl_some, m_br, m_gd, m_nm, m_cl, cl_m, mapS, mapN, fcN_eq, fcI_eq, cwIk_eq, cwJk_eq, cwRk_eq, cnCk_eq, cnMk_eq]

def kcX2_scanNumber (F : Nat) (h : Qs) (x0 : Nat) (x1 : Int32) : Option (Qs) := cwIk h x0 5 (0 : Int32) fun h_1 => cwIk h_1 x0 3 x1 fun h_2 => kcX2_scanNumber_10 F F h_2 x0 x1
theorem e_X2_scanNumber {u : Hp} {F : Nat} {h : Qs} {x0 : Nat} {x1 : Int32}  : sX2_scanNumber F (rel u h) (hS u + x0) x1 = (kcX2_scanNumber F h x0 x1).map (rm1 u) := by
  simp only [sX2_scanNumber, kcX2_scanNumber, e_X2_scanNumber_10, l_I, l_J, l_N, l_R, l_wI, l_wJ, l_wR, l_wR0, l_nC, l_nM, nm_rel, nm_hS, l_onr, m_onr, cl_some, m_br, m_gd, m_nm, m_cl, cl_m, mapS, mapN, fcN_eq, fcI_eq, cwIk_eq, cwJk_eq, cwRk_eq, cnCk_eq, cnMk_eq]

def kcX2_advance_230 (F : Nat) (h : Qs) : Option (Qs) := some h
theorem e_X2_advance_230 {u : Hp} {F : Nat} {h : Qs}  : sX2_advance_230 F (rel u h) = (kcX2_advance_230 F h).map (rm1 u) := by
  simp only [sX2_advance_230, kcX2_advance_230, l_I, l_J, l_N, l_R, l_wI, l_wJ, l_wR, l_wR0, l_nC, l_nM, nm_rel, nm_hS, l_onr, m_onr, cl_some, m_br, m_gd, m_nm, m_cl, cl_m, mapS, mapN, fcN_eq, fcI_eq, cwIk_eq, cwJk_eq, cwRk_eq, cnCk_eq, cnMk_eq]

def kcX2_advance_199 (F : Nat) (h : Qs) (t0 : Int32) (t1 : Nat) : Option (Qs) := cl (kcX2_scanNumber F h t1 t0) fun o_1 => kcX2_advance_230 F o_1
theorem e_X2_advance_199 {u : Hp} {F : Nat} {h : Qs} {t0 : Int32} {t1 : Nat}  : sX2_advance_199 F (rel u h) t0 (hS u + t1) = (kcX2_advance_199 F h t0 t1).map (rm1 u) := by
  simp only [sX2_advance_199, kcX2_advance_199, e_X2_advance_230, e_X2_scanNumber, l_I, l_J, l_N, l_R, l_wI, l_wJ, l_wR, l_wR0, l_nC, l_nM, nm_rel, nm_hS, l_onr, m_onr, cl_some, m_br, m_gd, m_nm, m_cl, cl_m, mapS, mapN, fcN_eq, fcI_eq, cwIk_eq, cwJk_eq, cwRk_eq, cnCk_eq, cnMk_eq]

def kcX2_advance_179 (F : Nat) (h : Qs) (x0 : Nat) (x1 : Int32) : Option (Qs) := br (x1 = (45 : Int32)) (kcX2_advance_199 F h ((cI h x0 2) + (1 : Int32)) x0) (kcX2_advance_199 F h (cI h x0 2) x0)
theorem e_X2_advance_179 {u : Hp} {F : Nat} {h : Qs} {x0 : Nat} {x1 : Int32}  : sX2_advance_179 F (rel u h) (hS u + x0) x1 = (kcX2_advance_179 F h x0 x1).map (rm1 u) := by
  simp only [sX2_advance_179, kcX2_advance_179, e_X2_advance_199, l_I, l_J, l_N, l_R, l_wI, l_wJ, l_wR, l_wR0, l_nC, l_nM, nm_rel, nm_hS, l_onr, m_onr, cl_some, m_br, m_gd, m_nm, m_cl, cl_m, mapS, mapN, fcN_eq, fcI_eq, cwIk_eq, cwJk_eq, cwRk_eq, cnCk_eq, cnMk_eq]

def kcX2_advance_227 (F : Nat) (h : Qs) (t0 : Int32) (t1 : Nat) : Option (Qs) := cwIk h t1 4 t0 fun h_1 => kcX2_advance_230 F h_1
theorem e_X2_advance_227 {u : Hp} {F : Nat} {h : Qs} {t0 : Int32} {t1 : Nat}  : sX2_advance_227 F (rel u h) t0 (hS u + t1) = (kcX2_advance_227 F h t0 t1).map (rm1 u) := by
  simp only [sX2_advance_227, kcX2_advance_227, e_X2_advance_230, l_I, l_J, l_N, l_R, l_wI, l_wJ, l_wR, l_wR0, l_nC, l_nM, nm_rel, nm_hS, l_onr, m_onr, cl_some, m_br, m_gd, m_nm, m_cl, cl_m, mapS, mapN, fcN_eq, fcI_eq, cwIk_eq, cwJk_eq, cwRk_eq, cnCk_eq, cnMk_eq]

def kcX2_advance_122 (F : Nat) : Nat → Qs → Nat → Option (Qs)
  | 0, _, _ => none
  | f + 1, h, x0 => cl (cR h x0 0) fun r_1 => br ((cI h r_1 1) ≤ (cI h x0 3)) (kcX2_advance_230 F h) (cl (cR h x0 0) fun r_3 => cl (kcX9_byteAt h r_3 (cI h x0 3)) fun o_4 => cl (kcX2_isLetter o_4.2 o_4.1) fun o_5 => br (o_5.1 = 0) (kcX2_advance_230 F o_5.2) (cwIk o_5.2 x0 3 ((cI o_5.2 x0 3) + (1 : Int32)) fun h_7 => kcX2_advance_122 F f h_7 x0))
theorem e_X2_advance_122 {u : Hp} {F : Nat}  : ∀ (f : Nat) (h : Qs) (x0 : Nat), sX2_advance_122 F f (rel u h) (hS u + x0) = (kcX2_advance_122 F f h x0).map (rm1 u) := by
  intro f
  induction f with
  | zero => intros; rfl
  | succ f ih =>
    intro h x0
    simp only [sX2_advance_122, kcX2_advance_122, e_X2_advance_230, e_X9_byteAt, e_X2_isLetter, ih, l_I, l_J, l_N, l_R, l_wI, l_wJ, l_wR, l_wR0, l_nC, l_nM, nm_rel, nm_hS, l_onr, m_onr, cl_some, m_br, m_gd, m_nm, m_cl, cl_m, mapS, mapN, fcN_eq, fcI_eq, cwIk_eq, cwJk_eq, cwRk_eq, cnCk_eq, cnMk_eq]

def kcX2_advance_67 (F : Nat) (h : Qs) (x0 : Nat) : Option (Qs) := cl (cR h x0 0) fun r_1 => cl (kcX9_byteAt h r_1 (cI h x0 2)) fun o_2 => cwIk o_2.2 x0 3 ((cI o_2.2 x0 2) + (1 : Int32)) fun h_3 => br (o_2.1 = (- 1 : Int32)) (cwIk h_3 x0 4 (0 : Int32) fun h_13 => cwIk h_13 x0 3 (cI h_13 x0 2) fun h_14 => kcX2_advance_230 F h_14) (cl (kcX2_isLetter h_3 o_2.1) fun o_5 => br (o_5.1 = 0) (cl (kcX2_isDigit o_5.2 o_2.1) fun o_7 => br (o_7.1 = 0) (br (o_2.1 = (45 : Int32)) (kcX2_advance_179 F o_7.2 x0 o_2.1) (br (o_2.1 = (59 : Int32)) (kcX2_advance_227 F o_7.2 (3 : Int32) x0) (br (o_2.1 = (44 : Int32)) (kcX2_advance_227 F o_7.2 (4 : Int32) x0) (kcX2_advance_227 F o_7.2 (5 : Int32) x0)))) (kcX2_advance_179 F o_7.2 x0 o_2.1)) (cwIk o_5.2 x0 4 (1 : Int32) fun h_12 => kcX2_advance_122 F F h_12 x0))
theorem e_X2_advance_67 {u : Hp} {F : Nat} {h : Qs} {x0 : Nat}  : sX2_advance_67 F (rel u h) (hS u + x0) = (kcX2_advance_67 F h x0).map (rm1 u) := by
  simp only [sX2_advance_67, kcX2_advance_67, e_X9_byteAt, e_X2_advance_230, e_X2_isLetter, e_X2_isDigit, e_X2_advance_179, e_X2_advance_227, e_X2_advance_122, l_I, l_J, l_N, l_R, l_wI, l_wJ, l_wR, l_wR0, l_nC, l_nM, nm_rel, nm_hS, l_onr, m_onr, cl_some, m_br, m_gd, m_nm, m_cl, cl_m, mapS, mapN, fcN_eq, fcI_eq, cwIk_eq, cwJk_eq, cwRk_eq, cnCk_eq, cnMk_eq]

def kcX2_advance_54 (F : Nat) (k_8 : Qs → Nat → Option (Qs)) (h : Qs) (x0 : Nat) : Option (Qs) := cwIk h x0 2 ((cI h x0 2) + (1 : Int32)) fun h_1 => k_8 h_1 x0
theorem e_X2_advance_54 {u : Hp} {F : Nat} {k_8 : Hp → Nat → Option (Hp)} {k_8_ : Qs → Nat → Option (Qs)} {h : Qs} {x0 : Nat} (hk_8 : ∀ (h : Qs) (x0 : Nat), k_8 (rel u h) (hS u + x0) = (k_8_ h x0).map (rm1 u)) : sX2_advance_54 F k_8 (rel u h) (hS u + x0) = (kcX2_advance_54 F k_8_ h x0).map (rm1 u) := by
  simp only [sX2_advance_54, kcX2_advance_54, hk_8, l_I, l_J, l_N, l_R, l_wI, l_wJ, l_wR, l_wR0, l_nC, l_nM, nm_rel, nm_hS, l_onr, m_onr, cl_some, m_br, m_gd, m_nm, m_cl, cl_m, mapS, mapN, fcN_eq, fcI_eq, cwIk_eq, cwJk_eq, cwRk_eq, cnCk_eq, cnMk_eq]

def kcX2_advance_8 (F : Nat) : Nat → Qs → Nat → Option (Qs)
  | 0, _, _ => none
  | f + 1, h, x0 => cl (cR h x0 0) fun r_1 => br ((cI h r_1 1) ≤ (cI h x0 2)) (kcX2_advance_67 F h x0) (cl (cR h x0 0) fun r_3 => cl (kcX9_byteAt h r_3 (cI h x0 2)) fun o_4 => br (o_4.1 = (32 : Int32)) (kcX2_advance_54 F (kcX2_advance_8 F f) o_4.2 x0) (cl (cR o_4.2 x0 0) fun r_6 => cl (kcX9_byteAt o_4.2 r_6 (cI o_4.2 x0 2)) fun o_7 => br (o_7.1 = (10 : Int32)) (kcX2_advance_54 F (kcX2_advance_8 F f) o_7.2 x0) (kcX2_advance_67 F o_7.2 x0)))
theorem e_X2_advance_8 {u : Hp} {F : Nat}  : ∀ (f : Nat) (h : Qs) (x0 : Nat), sX2_advance_8 F f (rel u h) (hS u + x0) = (kcX2_advance_8 F f h x0).map (rm1 u) := by
  intro f
  induction f with
  | zero => intros; rfl
  | succ f ih =>
    intro h x0
    simp only [sX2_advance_8, kcX2_advance_8, e_X2_advance_67, e_X9_byteAt, (e_X2_advance_54 ih), l_I, l_J, l_N, l_R, l_wI, l_wJ, l_wR, l_wR0, l_nC, l_nM, nm_rel, nm_hS, l_onr, m_onr, cl_some, m_br, m_gd, m_nm, m_cl, cl_m, mapS, mapN, fcN_eq, fcI_eq, cwIk_eq, cwJk_eq, cwRk_eq, cnCk_eq, cnMk_eq]

def kcX2_advance (F : Nat) (h : Qs) (x0 : Nat) : Option (Qs) := cwIk h x0 2 (cI h x0 3) fun h_1 => kcX2_advance_8 F F h_1 x0
theorem e_X2_advance {u : Hp} {F : Nat} {h : Qs} {x0 : Nat}  : sX2_advance F (rel u h) (hS u + x0) = (kcX2_advance F h x0).map (rm1 u) := by
  simp only [sX2_advance, kcX2_advance, e_X2_advance_8, l_I, l_J, l_N, l_R, l_wI, l_wJ, l_wR, l_wR0, l_nC, l_nM, nm_rel, nm_hS, l_onr, m_onr, cl_some, m_br, m_gd, m_nm, m_cl, cl_m, mapS, mapN, fcN_eq, fcI_eq, cwIk_eq, cwJk_eq, cwRk_eq, cnCk_eq, cnMk_eq]

def kcX2_isWord_24 (F : Nat) (h : Qs) : Option (Int32 × Qs) := some ((0 : Int32) , h)
theorem e_X2_isWord_24 {u : Hp} {F : Nat} {h : Qs}  : sX2_isWord_24 F (rel u h) = (kcX2_isWord_24 F h).map (rm2 u) := by
  simp only [sX2_isWord_24, kcX2_isWord_24, l_I, l_J, l_N, l_R, l_wI, l_wJ, l_wR, l_wR0, l_nC, l_nM, nm_rel, nm_hS, l_onr, m_onr, cl_some, m_br, m_gd, m_nm, m_cl, cl_m, mapS, mapN, fcN_eq, fcI_eq, cwIk_eq, cwJk_eq, cwRk_eq, cnCk_eq, cnMk_eq]

def kcX2_isWord_28 (F : Nat) : Nat → Qs → Nat → Nat → Int32 → Option (Int32 × Qs)
  | 0, _, _, _, _ => none
  | f + 1, h, x0, x1, x2 => br ((nI (lB x1).length) ≤ x2) (some ((1 : Int32) , h)) (cl (cR h x0 0) fun r_2 => cl (kcX9_byteAt h r_2 ((cI h x0 2) + x2)) fun o_3 => gd (inB x2 (lB x1).length) <| br (o_3.1 = (schr x1 x2)) (fcI (x2 + (1 : Int32)) fun v_6 => kcX2_isWord_28 F f o_3.2 x0 x1 v_6) (some ((0 : Int32) , o_3.2)))
theorem e_X2_isWord_28 {u : Hp} {F : Nat}  : ∀ (f : Nat) (h : Qs) (x0 : Nat) (x1 : Nat) (x2 : Int32), sX2_isWord_28 F f (rel u h) (hS u + x0) x1 x2 = (kcX2_isWord_28 F f h x0 x1 x2).map (rm2 u) := by
  intro f
  induction f with
  | zero => intros; rfl
  | succ f ih =>
    intro h x0 x1 x2
    simp only [sX2_isWord_28, kcX2_isWord_28, e_X9_byteAt, ih, l_I, l_J, l_N, l_R, l_wI, l_wJ, l_wR, l_wR0, l_nC, l_nM, nm_rel, nm_hS, l_onr, m_onr, cl_some, m_br, m_gd, m_nm, m_cl, cl_m, mapS, mapN, fcN_eq, fcI_eq, cwIk_eq, cwJk_eq, cwRk_eq, cnCk_eq, cnMk_eq]

def kcX2_isWord (F : Nat) (h : Qs) (x0 : Nat) (x1 : Nat) : Option (Int32 × Qs) := br ((cI h x0 4) = (1 : Int32)) (br (((cI h x0 3) - (cI h x0 2)) = (nI (lB x1).length)) (kcX2_isWord_28 F F h x0 x1 (0 : Int32)) (kcX2_isWord_24 F h)) (kcX2_isWord_24 F h)
theorem e_X2_isWord {u : Hp} {F : Nat} {h : Qs} {x0 : Nat} {x1 : Nat}  : sX2_isWord F (rel u h) (hS u + x0) x1 = (kcX2_isWord F h x0 x1).map (rm2 u) := by
  simp only [sX2_isWord, kcX2_isWord, e_X2_isWord_28, e_X2_isWord_24, l_I, l_J, l_N, l_R, l_wI, l_wJ, l_wR, l_wR0, l_nC, l_nM, nm_rel, nm_hS, l_onr, m_onr, cl_some, m_br, m_gd, m_nm, m_cl, cl_m, mapS, mapN, fcN_eq, fcI_eq, cwIk_eq, cwJk_eq, cwRk_eq, cnCk_eq, cnMk_eq]

def kcX2_isNumber_29 (h : Qs) (t0 : Int32) : Option (Int32 × Qs) := gd (t0 &&& 1 = t0) <| some (t0 , h)
theorem e_X2_isNumber_29 {u : Hp} {h : Qs} {t0 : Int32}  : sX2_isNumber_29 (rel u h) t0 = (kcX2_isNumber_29 h t0).map (rm2 u) := by
  simp only [sX2_isNumber_29, kcX2_isNumber_29, l_I, l_J, l_N, l_R, l_wI, l_wJ, l_wR, l_wR0, l_nC, l_nM, nm_rel, nm_hS, l_onr, m_onr, cl_some, m_br, m_gd, m_nm, m_cl, cl_m, mapS, mapN, fcN_eq, fcI_eq, cwIk_eq, cwJk_eq, cwRk_eq, cnCk_eq, cnMk_eq]

def kcX2_isNumber_28 (h : Qs) : Option (Int32 × Qs) := kcX2_isNumber_29 h (0 : Int32)
theorem e_X2_isNumber_28 {u : Hp} {h : Qs}  : sX2_isNumber_28 (rel u h) = (kcX2_isNumber_28 h).map (rm2 u) := by
  simp only [sX2_isNumber_28, kcX2_isNumber_28, e_X2_isNumber_29, l_I, l_J, l_N, l_R, l_wI, l_wJ, l_wR, l_wR0, l_nC, l_nM, nm_rel, nm_hS, l_onr, m_onr, cl_some, m_br, m_gd, m_nm, m_cl, cl_m, mapS, mapN, fcN_eq, fcI_eq, cwIk_eq, cwJk_eq, cwRk_eq, cnCk_eq, cnMk_eq]

def kcX2_isNumber (h : Qs) (x0 : Nat) (x1 : Int32) (x2 : Int32) : Option (Int32 × Qs) := br ((cI h x0 4) = (2 : Int32)) (br ((cI h x0 5) < x1) (kcX2_isNumber_28 h) (br (x2 < (cI h x0 5)) (kcX2_isNumber_28 h) (kcX2_isNumber_29 h (1 : Int32)))) (kcX2_isNumber_28 h)
theorem e_X2_isNumber {u : Hp} {h : Qs} {x0 : Nat} {x1 : Int32} {x2 : Int32}  : sX2_isNumber (rel u h) (hS u + x0) x1 x2 = (kcX2_isNumber h x0 x1 x2).map (rm2 u) := by
  simp only [sX2_isNumber, kcX2_isNumber, e_X2_isNumber_28, e_X2_isNumber_29, l_I, l_J, l_N, l_R, l_wI, l_wJ, l_wR, l_wR0, l_nC, l_nM, nm_rel, nm_hS, l_onr, m_onr, cl_some, m_br, m_gd, m_nm, m_cl, cl_m, mapS, mapN, fcN_eq, fcI_eq, cwIk_eq, cwJk_eq, cwRk_eq, cnCk_eq, cnMk_eq]

def kcX2_takeEnd (F : Nat) (h : Qs) (x0 : Nat) : Option (Int32 × Qs) := br ((cI h x0 4) = (3 : Int32)) (cl (kcX2_advance F h x0) fun o_2 => some ((1 : Int32) , o_2)) (some ((0 : Int32) , h))
theorem e_X2_takeEnd {u : Hp} {F : Nat} {h : Qs} {x0 : Nat}  : sX2_takeEnd F (rel u h) (hS u + x0) = (kcX2_takeEnd F h x0).map (rm2 u) := by
  simp only [sX2_takeEnd, kcX2_takeEnd, e_X2_advance, l_I, l_J, l_N, l_R, l_wI, l_wJ, l_wR, l_wR0, l_nC, l_nM, nm_rel, nm_hS, l_onr, m_onr, cl_some, m_br, m_gd, m_nm, m_cl, cl_m, mapS, mapN, fcN_eq, fcI_eq, cwIk_eq, cwJk_eq, cwRk_eq, cnCk_eq, cnMk_eq]

def kcX2_takeBoard (F : Nat) (h : Qs) (x0 : Nat) : Option (Int32 × Qs) := cl (kcX2_isWord F h x0 3) fun o_1 => br (o_1.1 = 0) (some ((0 : Int32) , o_1.2)) (cl (kcX2_advance F o_1.2 x0) fun o_3 => cl (kcX2_isNumber o_3 x0 (3 : Int32) (8 : Int32)) fun o_4 => br (o_4.1 = 0) (some ((0 : Int32) , o_4.2)) (fcI (cI o_4.2 x0 5) fun v_6 => cl (kcX2_advance F o_4.2 x0) fun o_7 => cl (kcX2_isNumber o_7 x0 (3 : Int32) (8 : Int32)) fun o_8 => br (o_8.1 = 0) (some ((0 : Int32) , o_8.2)) (cl (cR o_8.2 x0 1) fun r_10 => cl (kcX1_setBoard F o_8.2 r_10 v_6 (cI o_8.2 x0 5)) fun o_11 => cl (kcX2_advance F o_11 x0) fun o_12 => cl (kcX2_takeEnd F o_12 x0) fun o_13 => gd (o_13.1 &&& 1 = o_13.1) <| some (o_13.1 , o_13.2))))
theorem e_X2_takeBoard {u : Hp} {F : Nat} {h : Qs} {x0 : Nat}  : sX2_takeBoard F (rel u h) (hS u + x0) = (kcX2_takeBoard F h x0).map (rm2 u) := by
  simp only [sX2_takeBoard, kcX2_takeBoard, e_X2_isWord, e_X2_advance, e_X2_isNumber, e_X1_setBoard, e_X2_takeEnd, l_I, l_J, l_N, l_R, l_wI, l_wJ, l_wR, l_wR0, l_nC, l_nM, nm_rel, nm_hS, l_onr, m_onr, cl_some, m_br, m_gd, m_nm, m_cl, cl_m, mapS, mapN, fcN_eq, fcI_eq, cwIk_eq, cwJk_eq, cwRk_eq, cnCk_eq, cnMk_eq]

def kcX2_oneLetter_36 (h : Qs) (t0 : Int32) : Option (Int32 × Qs) := some (t0 , h)
theorem e_X2_oneLetter_36 {u : Hp} {h : Qs} {t0 : Int32}  : sX2_oneLetter_36 (rel u h) t0 = (kcX2_oneLetter_36 h t0).map (rm2 u) := by
  simp only [sX2_oneLetter_36, kcX2_oneLetter_36, l_I, l_J, l_N, l_R, l_wI, l_wJ, l_wR, l_wR0, l_nC, l_nM, nm_rel, nm_hS, l_onr, m_onr, cl_some, m_br, m_gd, m_nm, m_cl, cl_m, mapS, mapN, fcN_eq, fcI_eq, cwIk_eq, cwJk_eq, cwRk_eq, cnCk_eq, cnMk_eq]

def kcX2_oneLetter_35 (h : Qs) : Option (Int32 × Qs) := kcX2_oneLetter_36 h (- 1 : Int32)
theorem e_X2_oneLetter_35 {u : Hp} {h : Qs}  : sX2_oneLetter_35 (rel u h) = (kcX2_oneLetter_35 h).map (rm2 u) := by
  simp only [sX2_oneLetter_35, kcX2_oneLetter_35, e_X2_oneLetter_36, l_I, l_J, l_N, l_R, l_wI, l_wJ, l_wR, l_wR0, l_nC, l_nM, nm_rel, nm_hS, l_onr, m_onr, cl_some, m_br, m_gd, m_nm, m_cl, cl_m, mapS, mapN, fcN_eq, fcI_eq, cwIk_eq, cwJk_eq, cwRk_eq, cnCk_eq, cnMk_eq]

def kcX2_oneLetter (h : Qs) (x0 : Nat) : Option (Int32 × Qs) := br ((cI h x0 4) = (1 : Int32)) (br (((cI h x0 3) - (cI h x0 2)) = (1 : Int32)) (cl (cR h x0 0) fun r_3 => cl (kcX9_byteAt h r_3 (cI h x0 2)) fun o_4 => kcX2_oneLetter_36 o_4.2 o_4.1) (kcX2_oneLetter_35 h)) (kcX2_oneLetter_35 h)
theorem e_X2_oneLetter {u : Hp} {h : Qs} {x0 : Nat}  : sX2_oneLetter (rel u h) (hS u + x0) = (kcX2_oneLetter h x0).map (rm2 u) := by
  simp only [sX2_oneLetter, kcX2_oneLetter, e_X2_oneLetter_36, e_X9_byteAt, e_X2_oneLetter_35, l_I, l_J, l_N, l_R, l_wI, l_wJ, l_wR, l_wR0, l_nC, l_nM, nm_rel, nm_hS, l_onr, m_onr, cl_some, m_br, m_gd, m_nm, m_cl, cl_m, mapS, mapN, fcN_eq, fcI_eq, cwIk_eq, cwJk_eq, cwRk_eq, cnCk_eq, cnMk_eq]

def kcX2_stepFlag_72 (F : Nat) (h : Qs) (t0 : Int32) : Option (Int32 × Qs) := some (t0 , h)
theorem e_X2_stepFlag_72 {u : Hp} {F : Nat} {h : Qs} {t0 : Int32}  : sX2_stepFlag_72 F (rel u h) t0 = (kcX2_stepFlag_72 F h t0).map (rm2 u) := by
  simp only [sX2_stepFlag_72, kcX2_stepFlag_72, l_I, l_J, l_N, l_R, l_wI, l_wJ, l_wR, l_wR0, l_nC, l_nM, nm_rel, nm_hS, l_onr, m_onr, cl_some, m_br, m_gd, m_nm, m_cl, cl_m, mapS, mapN, fcN_eq, fcI_eq, cwIk_eq, cwJk_eq, cwRk_eq, cnCk_eq, cnMk_eq]

def kcX2_stepFlag (F : Nat) (h : Qs) (x0 : Nat) : Option (Int32 × Qs) := cl (kcX2_isWord F h x0 5) fun o_1 => br (o_1.1 = 0) (cl (kcX2_isWord F o_1.2 x0 6) fun o_3 => br (o_3.1 = 0) (cl (kcX2_isWord F o_3.2 x0 7) fun o_5 => br (o_5.1 = 0) (cl (kcX2_isWord F o_5.2 x0 8) fun o_7 => br (o_7.1 = 0) (cl (kcX2_isWord F o_7.2 x0 9) fun o_9 => br (o_9.1 = 0) (cl (kcX2_isWord F o_9.2 x0 10) fun o_11 => br (o_11.1 = 0) (kcX2_stepFlag_72 F o_11.2 (0 : Int32)) (kcX2_stepFlag_72 F o_11.2 (32 : Int32))) (some ((16 : Int32) , o_9.2))) (some ((8 : Int32) , o_7.2))) (some ((4 : Int32) , o_5.2))) (some ((2 : Int32) , o_3.2))) (some ((1 : Int32) , o_1.2))
theorem e_X2_stepFlag {u : Hp} {F : Nat} {h : Qs} {x0 : Nat}  : sX2_stepFlag F (rel u h) (hS u + x0) = (kcX2_stepFlag F h x0).map (rm2 u) := by
  simp only [sX2_stepFlag, kcX2_stepFlag, e_X2_isWord, e_X2_stepFlag_72, l_I, l_J, l_N, l_R, l_wI, l_wJ, l_wR, l_wR0, l_nC, l_nM, nm_rel, nm_hS, l_onr, m_onr, cl_some, m_br, m_gd, m_nm, m_cl, cl_m, mapS, mapN, fcN_eq, fcI_eq, cwIk_eq, cwJk_eq, cwRk_eq, cnCk_eq, cnMk_eq]

def kcX2_fits_43 (h : Qs) (t0 : Int32) : Option (Int32 × Qs) := gd (t0 &&& 1 = t0) <| some (t0 , h)
theorem e_X2_fits_43 {u : Hp} {h : Qs} {t0 : Int32}  : sX2_fits_43 (rel u h) t0 = (kcX2_fits_43 h t0).map (rm2 u) := by
  simp only [sX2_fits_43, kcX2_fits_43, l_I, l_J, l_N, l_R, l_wI, l_wJ, l_wR, l_wR0, l_nC, l_nM, nm_rel, nm_hS, l_onr, m_onr, cl_some, m_br, m_gd, m_nm, m_cl, cl_m, mapS, mapN, fcN_eq, fcI_eq, cwIk_eq, cwJk_eq, cwRk_eq, cnCk_eq, cnMk_eq]

def kcX2_fits_32 (h : Qs) (x0 : Int32) (x2 : Int32) : Option (Int32 × Qs) := br ((x0 &&& x2) = 0) (kcX2_fits_43 h (1 : Int32)) (kcX2_fits_43 h (0 : Int32))
theorem e_X2_fits_32 {u : Hp} {h : Qs} {x0 : Int32} {x2 : Int32}  : sX2_fits_32 (rel u h) x0 x2 = (kcX2_fits_32 h x0 x2).map (rm2 u) := by
  simp only [sX2_fits_32, kcX2_fits_32, e_X2_fits_43, l_I, l_J, l_N, l_R, l_wI, l_wJ, l_wR, l_wR0, l_nC, l_nM, nm_rel, nm_hS, l_onr, m_onr, cl_some, m_br, m_gd, m_nm, m_cl, cl_m, mapS, mapN, fcN_eq, fcI_eq, cwIk_eq, cwJk_eq, cwRk_eq, cnCk_eq, cnMk_eq]

def kcX2_fits_12 (h : Qs) (x0 : Int32) : Option (Int32 × Qs) := kcX2_fits_32 h x0 (3 : Int32)
theorem e_X2_fits_12 {u : Hp} {h : Qs} {x0 : Int32}  : sX2_fits_12 (rel u h) x0 = (kcX2_fits_12 h x0).map (rm2 u) := by
  simp only [sX2_fits_12, kcX2_fits_12, e_X2_fits_32, l_I, l_J, l_N, l_R, l_wI, l_wJ, l_wR, l_wR0, l_nC, l_nM, nm_rel, nm_hS, l_onr, m_onr, cl_some, m_br, m_gd, m_nm, m_cl, cl_m, mapS, mapN, fcN_eq, fcI_eq, cwIk_eq, cwJk_eq, cwRk_eq, cnCk_eq, cnMk_eq]

def kcX2_fits_29 (h : Qs) (x0 : Int32) : Option (Int32 × Qs) := kcX2_fits_32 h x0 (24 : Int32)
theorem e_X2_fits_29 {u : Hp} {h : Qs} {x0 : Int32}  : sX2_fits_29 (rel u h) x0 = (kcX2_fits_29 h x0).map (rm2 u) := by
  simp only [sX2_fits_29, kcX2_fits_29, e_X2_fits_32, l_I, l_J, l_N, l_R, l_wI, l_wJ, l_wR, l_wR0, l_nC, l_nM, nm_rel, nm_hS, l_onr, m_onr, cl_some, m_br, m_gd, m_nm, m_cl, cl_m, mapS, mapN, fcN_eq, fcI_eq, cwIk_eq, cwJk_eq, cwRk_eq, cnCk_eq, cnMk_eq]

def kcX2_fits (h : Qs) (x0 : Int32) (x1 : Int32) : Option (Int32 × Qs) := br (x1 = (1 : Int32)) (kcX2_fits_12 h x0) (br (x1 = (2 : Int32)) (kcX2_fits_12 h x0) (br (x1 = (8 : Int32)) (kcX2_fits_29 h x0) (br (x1 = (16 : Int32)) (kcX2_fits_29 h x0) (kcX2_fits_32 h x0 x1))))
theorem e_X2_fits {u : Hp} {h : Qs} {x0 : Int32} {x1 : Int32}  : sX2_fits (rel u h) x0 x1 = (kcX2_fits h x0 x1).map (rm2 u) := by
  simp only [sX2_fits, kcX2_fits, e_X2_fits_12, e_X2_fits_29, e_X2_fits_32, l_I, l_J, l_N, l_R, l_wI, l_wJ, l_wR, l_wR0, l_nC, l_nM, nm_rel, nm_hS, l_onr, m_onr, cl_some, m_br, m_gd, m_nm, m_cl, cl_m, mapS, mapN, fcN_eq, fcI_eq, cwIk_eq, cwJk_eq, cwRk_eq, cnCk_eq, cnMk_eq]

def kcX2_takeTail (F : Nat) (h : Qs) (x0 : Nat) (x1 : Nat) (x2 : Int32) (x3 : Int32) (x4 : Int32) : Option (Int32 × Qs) := cl (kcX2_isWord F h x0 x1) fun o_1 => br (o_1.1 = 0) (some (x4 , o_1.2)) (cl (kcX2_advance F o_1.2 x0) fun o_3 => cl (kcX2_isNumber o_3 x0 x2 x3) fun o_4 => br (o_4.1 = 0) (some ((- 1 : Int32) , o_4.2)) (fcI (cI o_4.2 x0 5) fun v_6 => cl (kcX2_advance F o_4.2 x0) fun o_7 => some (v_6 , o_7)))
theorem e_X2_takeTail {u : Hp} {F : Nat} {h : Qs} {x0 : Nat} {x1 : Nat} {x2 : Int32} {x3 : Int32} {x4 : Int32}  : sX2_takeTail F (rel u h) (hS u + x0) x1 x2 x3 x4 = (kcX2_takeTail F h x0 x1 x2 x3 x4).map (rm2 u) := by
  simp only [sX2_takeTail, kcX2_takeTail, e_X2_isWord, e_X2_advance, e_X2_isNumber, l_I, l_J, l_N, l_R, l_wI, l_wJ, l_wR, l_wR0, l_nC, l_nM, nm_rel, nm_hS, l_onr, m_onr, cl_some, m_br, m_gd, m_nm, m_cl, cl_m, mapS, mapN, fcN_eq, fcI_eq, cwIk_eq, cwJk_eq, cwRk_eq, cnCk_eq, cnMk_eq]

def kcX2_takeStep_103 (F : Nat) (h : Qs) : Option (Int32 × Qs) := some ((0 : Int32) , h)
theorem e_X2_takeStep_103 {u : Hp} {F : Nat} {h : Qs}  : sX2_takeStep_103 F (rel u h) = (kcX2_takeStep_103 F h).map (rm2 u) := by
  simp only [sX2_takeStep_103, kcX2_takeStep_103, l_I, l_J, l_N, l_R, l_wI, l_wJ, l_wR, l_wR0, l_nC, l_nM, nm_rel, nm_hS, l_onr, m_onr, cl_some, m_br, m_gd, m_nm, m_cl, cl_m, mapS, mapN, fcN_eq, fcI_eq, cwIk_eq, cwJk_eq, cwRk_eq, cnCk_eq, cnMk_eq]

def kcX2_takeStep_182 (F : Nat) (h : Qs) : Option (Int32 × Qs) := some ((0 : Int32) , h)
theorem e_X2_takeStep_182 {u : Hp} {F : Nat} {h : Qs}  : sX2_takeStep_182 F (rel u h) = (kcX2_takeStep_182 F h).map (rm2 u) := by
  simp only [sX2_takeStep_182, kcX2_takeStep_182, l_I, l_J, l_N, l_R, l_wI, l_wJ, l_wR, l_wR0, l_nC, l_nM, nm_rel, nm_hS, l_onr, m_onr, cl_some, m_br, m_gd, m_nm, m_cl, cl_m, mapS, mapN, fcN_eq, fcI_eq, cwIk_eq, cwJk_eq, cwRk_eq, cnCk_eq, cnMk_eq]

def kcX2_takeStep_168 (F : Nat) (h : Qs) (x0 : Nat) (x1 : Int32) (x2 : Int32) (x3 : Int32) (x5 : Int32) (t0 : Int32) : Option (Int32 × Qs) := br (x5 = (- 1 : Int32)) (kcX2_takeStep_182 F h) (br (t0 = (- 1 : Int32)) (kcX2_takeStep_182 F h) (cl (cR h x0 1) fun r_3 => cl (cR h r_3 15) fun r_4 => gd (inB ((x1 * (8 : Int32)) + x2) (cN h r_4)) <| cwIk h r_4 ((x1 * (8 : Int32)) + x2).toNatClampNeg ((x3 ||| (x5 <<< ((14 : Int32) &&& 31))) ||| (t0 <<< ((17 : Int32) &&& 31))) fun h_6 => cl (cR h_6 x0 1) fun r_7 => cl (cR h_6 r_7 16) fun r_8 => gd (inB x1 (cN h_6 r_8)) <| cwIk h_6 r_8 x1.toNatClampNeg (x2 + (1 : Int32)) fun h_10 => some ((1 : Int32) , h_10)))
theorem e_X2_takeStep_168 {u : Hp} {F : Nat} {h : Qs} {x0 : Nat} {x1 : Int32} {x2 : Int32} {x3 : Int32} {x5 : Int32} {t0 : Int32}  : sX2_takeStep_168 F (rel u h) (hS u + x0) x1 x2 x3 x5 t0 = (kcX2_takeStep_168 F h x0 x1 x2 x3 x5 t0).map (rm2 u) := by
  simp only [sX2_takeStep_168, kcX2_takeStep_168, e_X2_takeStep_182, l_I, l_J, l_N, l_R, l_wI, l_wJ, l_wR, l_wR0, l_nC, l_nM, nm_rel, nm_hS, l_onr, m_onr, cl_some, m_br, m_gd, m_nm, m_cl, cl_m, mapS, mapN, fcN_eq, fcI_eq, cwIk_eq, cwJk_eq, cwRk_eq, cnCk_eq, cnMk_eq]

def kcX2_takeStep_105 (F : Nat) (h : Qs) (x0 : Nat) (x1 : Int32) (x2 : Int32) (x3 : Int32) (x4 : Int32) : Option (Int32 × Qs) := fcI (x3 ||| (((x4 + (8 : Int32)) <<< ((6 : Int32) &&& 31)) ||| (((cI h x0 5) + (8 : Int32)) <<< ((10 : Int32) &&& 31)))) fun v_1 => cl (kcX2_advance F h x0) fun o_2 => cl (kcX2_takeTail F o_2 x0 11 (2 : Int32) (7 : Int32) (1 : Int32)) fun o_3 => br (o_3.1 = (- 1 : Int32)) (kcX2_takeStep_168 F o_3.2 x0 x1 x2 v_1 o_3.1 (- 1 : Int32)) (cl (cR o_3.2 x0 1) fun r_5 => cl (kcX2_takeTail F o_3.2 x0 12 (1 : Int32) (cI o_3.2 r_5 1) (0 : Int32)) fun o_6 => kcX2_takeStep_168 F o_6.2 x0 x1 x2 v_1 o_3.1 o_6.1)
theorem e_X2_takeStep_105 {u : Hp} {F : Nat} {h : Qs} {x0 : Nat} {x1 : Int32} {x2 : Int32} {x3 : Int32} {x4 : Int32}  : sX2_takeStep_105 F (rel u h) (hS u + x0) x1 x2 x3 x4 = (kcX2_takeStep_105 F h x0 x1 x2 x3 x4).map (rm2 u) := by
  simp only [sX2_takeStep_105, kcX2_takeStep_105, e_X2_advance, e_X2_takeTail, e_X2_takeStep_168, l_I, l_J, l_N, l_R, l_wI, l_wJ, l_wR, l_wR0, l_nC, l_nM, nm_rel, nm_hS, l_onr, m_onr, cl_some, m_br, m_gd, m_nm, m_cl, cl_m, mapS, mapN, fcN_eq, fcI_eq, cwIk_eq, cwJk_eq, cwRk_eq, cnCk_eq, cnMk_eq]

def kcX2_takeStep_57 (F : Nat) (h : Qs) (x0 : Nat) (x1 : Int32) (x2 : Int32) (x3 : Int32) : Option (Int32 × Qs) := cl (kcX2_isNumber h x0 (- 7 : Int32) (7 : Int32)) fun o_1 => br (o_1.1 = 0) (some ((0 : Int32) , o_1.2)) (fcI (cI o_1.2 x0 5) fun v_3 => cl (kcX2_advance F o_1.2 x0) fun o_4 => cl (kcX2_isNumber o_4 x0 (- 7 : Int32) (7 : Int32)) fun o_5 => br (o_5.1 = 0) (kcX2_takeStep_103 F o_5.2) (br (v_3 = 0) (br ((cI o_5.2 x0 5) = 0) (kcX2_takeStep_103 F o_5.2) (kcX2_takeStep_105 F o_5.2 x0 x1 x2 x3 v_3)) (kcX2_takeStep_105 F o_5.2 x0 x1 x2 x3 v_3)))
theorem e_X2_takeStep_57 {u : Hp} {F : Nat} {h : Qs} {x0 : Nat} {x1 : Int32} {x2 : Int32} {x3 : Int32}  : sX2_takeStep_57 F (rel u h) (hS u + x0) x1 x2 x3 = (kcX2_takeStep_57 F h x0 x1 x2 x3).map (rm2 u) := by
  simp only [sX2_takeStep_57, kcX2_takeStep_57, e_X2_isNumber, e_X2_advance, e_X2_takeStep_103, e_X2_takeStep_105, l_I, l_J, l_N, l_R, l_wI, l_wJ, l_wR, l_wR0, l_nC, l_nM, nm_rel, nm_hS, l_onr, m_onr, cl_some, m_br, m_gd, m_nm, m_cl, cl_m, mapS, mapN, fcN_eq, fcI_eq, cwIk_eq, cwJk_eq, cwRk_eq, cnCk_eq, cnMk_eq]

def kcX2_takeStep_40 (F : Nat) (h : Qs) : Option (Int32 × Qs) := some ((0 : Int32) , h)
theorem e_X2_takeStep_40 {u : Hp} {F : Nat} {h : Qs}  : sX2_takeStep_40 F (rel u h) = (kcX2_takeStep_40 F h).map (rm2 u) := by
  simp only [sX2_takeStep_40, kcX2_takeStep_40, l_I, l_J, l_N, l_R, l_wI, l_wJ, l_wR, l_wR0, l_nC, l_nM, nm_rel, nm_hS, l_onr, m_onr, cl_some, m_br, m_gd, m_nm, m_cl, cl_m, mapS, mapN, fcN_eq, fcI_eq, cwIk_eq, cwJk_eq, cwRk_eq, cnCk_eq, cnMk_eq]

def kcX2_takeStep_5 (F : Nat) : Nat → Qs → Nat → Int32 → Int32 → Int32 → Int32 → Option (Int32 × Qs)
  | 0, _, _, _, _, _, _ => none
  | f + 1, h, x0, x1, x2, x3, x4 => br ((6 : Int32) ≤ x4) (kcX2_takeStep_57 F h x0 x1 x2 x3) (br ((cI h x0 4) = (1 : Int32)) (cl (kcX2_stepFlag F h x0) fun o_3 => br (o_3.1 = 0) (kcX2_takeStep_40 F o_3.2) (cl (kcX2_fits o_3.2 x3 o_3.1) fun o_5 => br (o_5.1 = 0) (kcX2_takeStep_40 F o_5.2) (fcI (x3 ||| o_3.1) fun v_7 => cl (kcX2_advance F o_5.2 x0) fun o_8 => fcI (x4 + (1 : Int32)) fun v_9 => kcX2_takeStep_5 F f o_8 x0 x1 x2 v_7 v_9))) (kcX2_takeStep_57 F h x0 x1 x2 x3))
theorem e_X2_takeStep_5 {u : Hp} {F : Nat}  : ∀ (f : Nat) (h : Qs) (x0 : Nat) (x1 : Int32) (x2 : Int32) (x3 : Int32) (x4 : Int32), sX2_takeStep_5 F f (rel u h) (hS u + x0) x1 x2 x3 x4 = (kcX2_takeStep_5 F f h x0 x1 x2 x3 x4).map (rm2 u) := by
  intro f
  induction f with
  | zero => intros; rfl
  | succ f ih =>
    intro h x0 x1 x2 x3 x4
    simp only [sX2_takeStep_5, kcX2_takeStep_5, e_X2_takeStep_57, e_X2_stepFlag, e_X2_takeStep_40, e_X2_fits, ih, e_X2_advance, l_I, l_J, l_N, l_R, l_wI, l_wJ, l_wR, l_wR0, l_nC, l_nM, nm_rel, nm_hS, l_onr, m_onr, cl_some, m_br, m_gd, m_nm, m_cl, cl_m, mapS, mapN, fcN_eq, fcI_eq, cwIk_eq, cwJk_eq, cwRk_eq, cnCk_eq, cnMk_eq]

def kcX2_takeStep (F : Nat) (h : Qs) (x0 : Nat) (x1 : Int32) (x2 : Int32) : Option (Int32 × Qs) := kcX2_takeStep_5 F F h x0 x1 x2 (0 : Int32) (0 : Int32)
theorem e_X2_takeStep {u : Hp} {F : Nat} {h : Qs} {x0 : Nat} {x1 : Int32} {x2 : Int32}  : sX2_takeStep F (rel u h) (hS u + x0) x1 x2 = (kcX2_takeStep F h x0 x1 x2).map (rm2 u) := by
  simp only [sX2_takeStep, kcX2_takeStep, e_X2_takeStep_5, l_I, l_J, l_N, l_R, l_wI, l_wJ, l_wR, l_wR0, l_nC, l_nM, nm_rel, nm_hS, l_onr, m_onr, cl_some, m_br, m_gd, m_nm, m_cl, cl_m, mapS, mapN, fcN_eq, fcI_eq, cwIk_eq, cwJk_eq, cwRk_eq, cnCk_eq, cnMk_eq]

def kcX2_takeMan_38 (F : Nat) (h : Qs) : Option (Int32 × Qs) := some ((0 : Int32) , h)
theorem e_X2_takeMan_38 {u : Hp} {F : Nat} {h : Qs}  : sX2_takeMan_38 F (rel u h) = (kcX2_takeMan_38 F h).map (rm2 u) := by
  simp only [sX2_takeMan_38, kcX2_takeMan_38, l_I, l_J, l_N, l_R, l_wI, l_wJ, l_wR, l_wR0, l_nC, l_nM, nm_rel, nm_hS, l_onr, m_onr, cl_some, m_br, m_gd, m_nm, m_cl, cl_m, mapS, mapN, fcN_eq, fcI_eq, cwIk_eq, cwJk_eq, cwRk_eq, cnCk_eq, cnMk_eq]

def kcX2_takeMan_108 (F : Nat) (h : Qs) : Option (Int32 × Qs) := some ((1 : Int32) , h)
theorem e_X2_takeMan_108 {u : Hp} {F : Nat} {h : Qs}  : sX2_takeMan_108 F (rel u h) = (kcX2_takeMan_108 F h).map (rm2 u) := by
  simp only [sX2_takeMan_108, kcX2_takeMan_108, l_I, l_J, l_N, l_R, l_wI, l_wJ, l_wR, l_wR0, l_nC, l_nM, nm_rel, nm_hS, l_onr, m_onr, cl_some, m_br, m_gd, m_nm, m_cl, cl_m, mapS, mapN, fcN_eq, fcI_eq, cwIk_eq, cwJk_eq, cwRk_eq, cnCk_eq, cnMk_eq]

def kcX2_takeMan_77 (F : Nat) : Nat → Qs → Nat → Int32 → Int32 → Option (Int32 × Qs)
  | 0, _, _, _, _ => none
  | f + 1, h, x0, x2, x3 => br ((8 : Int32) ≤ x3) (some ((1 : Int32) , h)) (cl (kcX2_takeStep F h x0 x2 x3) fun o_2 => br (o_2.1 = 0) (some ((0 : Int32) , o_2.2)) (br ((cI o_2.2 x0 4) = (4 : Int32)) (br (x3 = (7 : Int32)) (kcX2_takeMan_108 F o_2.2) (cl (kcX2_advance F o_2.2 x0) fun o_6 => fcI (x3 + (1 : Int32)) fun v_7 => kcX2_takeMan_77 F f o_6 x0 x2 v_7)) (kcX2_takeMan_108 F o_2.2)))
theorem e_X2_takeMan_77 {u : Hp} {F : Nat}  : ∀ (f : Nat) (h : Qs) (x0 : Nat) (x2 : Int32) (x3 : Int32), sX2_takeMan_77 F f (rel u h) (hS u + x0) x2 x3 = (kcX2_takeMan_77 F f h x0 x2 x3).map (rm2 u) := by
  intro f
  induction f with
  | zero => intros; rfl
  | succ f ih =>
    intro h x0 x2 x3
    simp only [sX2_takeMan_77, kcX2_takeMan_77, e_X2_takeStep, e_X2_takeMan_108, ih, e_X2_advance, l_I, l_J, l_N, l_R, l_wI, l_wJ, l_wR, l_wR0, l_nC, l_nM, nm_rel, nm_hS, l_onr, m_onr, cl_some, m_br, m_gd, m_nm, m_cl, cl_m, mapS, mapN, fcN_eq, fcI_eq, cwIk_eq, cwJk_eq, cwRk_eq, cnCk_eq, cnMk_eq]

def kcX2_takeMan (F : Nat) (h : Qs) (x0 : Nat) : Option (Int32 × Qs) := cl (kcX2_advance F h x0) fun o_1 => cl (kcX2_oneLetter o_1 x0) fun o_2 => br (o_2.1 = (- 1 : Int32)) (kcX2_takeMan_38 F o_2.2) (cl (cR o_2.2 x0 1) fun r_4 => cl (kcX1_manOf F o_2.2 r_4 o_2.1) fun o_5 => br (o_5.1 = (- 1 : Int32)) (cl (cR o_5.2 x0 1) fun r_7 => br ((cI o_5.2 r_7 3) < (12 : Int32)) (cl (kcX2_advance F o_5.2 x0) fun o_9 => cl (cR o_9 x0 1) fun r_10 => fcI (cI o_9 r_10 3) fun v_11 => cl (cR o_9 x0 1) fun r_12 => cl (cR o_9 r_12 14) fun r_13 => gd (inB v_11 (cN o_9 r_13)) <| cwIk o_9 r_13 v_11.toNatClampNeg o_2.1 fun h_15 => cl (cR h_15 x0 1) fun r_16 => cwIk h_15 r_16 3 ((cI h_15 r_16 3) + (1 : Int32)) fun h_17 => kcX2_takeMan_77 F F h_17 x0 v_11 (0 : Int32)) (kcX2_takeMan_38 F o_5.2)) (kcX2_takeMan_38 F o_5.2))
theorem e_X2_takeMan {u : Hp} {F : Nat} {h : Qs} {x0 : Nat}  : sX2_takeMan F (rel u h) (hS u + x0) = (kcX2_takeMan F h x0).map (rm2 u) := by
  simp only [sX2_takeMan, kcX2_takeMan, e_X2_advance, e_X2_oneLetter, e_X2_takeMan_38, e_X1_manOf, e_X2_takeMan_77, l_I, l_J, l_N, l_R, l_wI, l_wJ, l_wR, l_wR0, l_nC, l_nM, nm_rel, nm_hS, l_onr, m_onr, cl_some, m_br, m_gd, m_nm, m_cl, cl_m, mapS, mapN, fcN_eq, fcI_eq, cwIk_eq, cwJk_eq, cwRk_eq, cnCk_eq, cnMk_eq]

def kcX2_toldMan_22 (F : Nat) (h : Qs) (t0 : Int32) : Option (Int32 × Qs) := some (t0 , h)
theorem e_X2_toldMan_22 {u : Hp} {F : Nat} {h : Qs} {t0 : Int32}  : sX2_toldMan_22 F (rel u h) t0 = (kcX2_toldMan_22 F h t0).map (rm2 u) := by
  simp only [sX2_toldMan_22, kcX2_toldMan_22, l_I, l_J, l_N, l_R, l_wI, l_wJ, l_wR, l_wR0, l_nC, l_nM, nm_rel, nm_hS, l_onr, m_onr, cl_some, m_br, m_gd, m_nm, m_cl, cl_m, mapS, mapN, fcN_eq, fcI_eq, cwIk_eq, cwJk_eq, cwRk_eq, cnCk_eq, cnMk_eq]

