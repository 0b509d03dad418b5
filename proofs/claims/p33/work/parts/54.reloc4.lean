def kcX15_init_107 (F : Nat) (h : Qs) (x0 : Nat) (t0 : Nat) (t1 : Nat) : Option (Qs) := cl (kcX12_init h t0) fun o_1 => kcX15_init_111 F o_1 x0 t0 t1
theorem e_X15_init_107 {u : Hp} {F : Nat} {h : Qs} {x0 : Nat} {t0 : Nat} {t1 : Nat}  : sX15_init_107 F (rel u h) (hS u + x0) (hS u + t0) (hS u + t1) = (kcX15_init_107 F h x0 t0 t1).map (rm1 u) := by
  simp only [sX15_init_107, kcX15_init_107, e_X15_init_111, e_X12_init, l_I, l_J, l_N, l_R, l_wI, l_wJ, l_wR, l_wR0, l_nC, l_nM, nm_rel, nm_hS, l_onr, m_onr, cl_some, m_br, m_gd, m_nm, m_cl, cl_m, mapS, mapN, fcN_eq, fcI_eq, cwIk_eq, cwJk_eq, cwRk_eq, cnCk_eq, cnMk_eq]

def kcX15_init_100 (F : Nat) (h : Qs) (x0 : Nat) (t0 : Nat) (t1 : Nat) : Option (Qs) := cwRk h t1 27 (some t0) fun h_1 => fcN (cS h_1) fun a_2 => cnCk h_1 12 0 8 fun h_3 => kcX15_init_107 F h_3 x0 a_2 x0
theorem e_X15_init_100 {u : Hp} {F : Nat} {h : Qs} {x0 : Nat} {t0 : Nat} {t1 : Nat}  : sX15_init_100 F (rel u h) (hS u + x0) (hS u + t0) (hS u + t1) = (kcX15_init_100 F h x0 t0 t1).map (rm1 u) := by
  simp only [sX15_init_100, kcX15_init_100, e_X15_init_107, l_I, l_J, l_N, l_R, l_wI, l_wJ, l_wR, l_wR0, l_nC, l_nM, nm_rel, nm_hS, l_onr, m_onr, cl_some, m_br, m_gd, m_nm, m_cl, cl_m, mapS, mapN, fcN_eq, fcI_eq, cwIk_eq, cwJk_eq, cwRk_eq, cnCk_eq, cnMk_eq]

def kcX15_init_92 (F : Nat) (h : Qs) (x0 : Nat) (t0 : Nat) (t1 : Nat) : Option (Qs) := cwRk h t1 26 (some t0) fun h_1 => fcN (cS h_1) fun a_2 => cnCk h_1 19 (64 : Int32).toNatClampNeg (64 : Int32).toNatClampNeg fun h_3 => kcX15_init_100 F h_3 x0 a_2 x0
theorem e_X15_init_92 {u : Hp} {F : Nat} {h : Qs} {x0 : Nat} {t0 : Nat} {t1 : Nat}  : sX15_init_92 F (rel u h) (hS u + x0) (hS u + t0) (hS u + t1) = (kcX15_init_92 F h x0 t0 t1).map (rm1 u) := by
  simp only [sX15_init_92, kcX15_init_92, e_X15_init_100, l_I, l_J, l_N, l_R, l_wI, l_wJ, l_wR, l_wR0, l_nC, l_nM, nm_rel, nm_hS, l_onr, m_onr, cl_some, m_br, m_gd, m_nm, m_cl, cl_m, mapS, mapN, fcN_eq, fcI_eq, cwIk_eq, cwJk_eq, cwRk_eq, cnCk_eq, cnMk_eq]

def kcX15_init_84 (F : Nat) (h : Qs) (x0 : Nat) (t0 : Nat) (t1 : Nat) : Option (Qs) := cwRk h t1 25 (some t0) fun h_1 => fcN (cS h_1) fun a_2 => cnCk h_1 17 (64 : Int32).toNatClampNeg (64 : Int32).toNatClampNeg fun h_3 => kcX15_init_92 F h_3 x0 a_2 x0
theorem e_X15_init_84 {u : Hp} {F : Nat} {h : Qs} {x0 : Nat} {t0 : Nat} {t1 : Nat}  : sX15_init_84 F (rel u h) (hS u + x0) (hS u + t0) (hS u + t1) = (kcX15_init_84 F h x0 t0 t1).map (rm1 u) := by
  simp only [sX15_init_84, kcX15_init_84, e_X15_init_92, l_I, l_J, l_N, l_R, l_wI, l_wJ, l_wR, l_wR0, l_nC, l_nM, nm_rel, nm_hS, l_onr, m_onr, cl_some, m_br, m_gd, m_nm, m_cl, cl_m, mapS, mapN, fcN_eq, fcI_eq, cwIk_eq, cwJk_eq, cwRk_eq, cnCk_eq, cnMk_eq]

def kcX15_init_76 (F : Nat) (h : Qs) (x0 : Nat) (t0 : Nat) (t1 : Nat) : Option (Qs) := cwRk h t1 22 (some t0) fun h_1 => fcN (cS h_1) fun a_2 => cnCk h_1 17 (64 : Int32).toNatClampNeg (64 : Int32).toNatClampNeg fun h_3 => kcX15_init_84 F h_3 x0 a_2 x0
theorem e_X15_init_76 {u : Hp} {F : Nat} {h : Qs} {x0 : Nat} {t0 : Nat} {t1 : Nat}  : sX15_init_76 F (rel u h) (hS u + x0) (hS u + t0) (hS u + t1) = (kcX15_init_76 F h x0 t0 t1).map (rm1 u) := by
  simp only [sX15_init_76, kcX15_init_76, e_X15_init_84, l_I, l_J, l_N, l_R, l_wI, l_wJ, l_wR, l_wR0, l_nC, l_nM, nm_rel, nm_hS, l_onr, m_onr, cl_some, m_br, m_gd, m_nm, m_cl, cl_m, mapS, mapN, fcN_eq, fcI_eq, cwIk_eq, cwJk_eq, cwRk_eq, cnCk_eq, cnMk_eq]

def kcX15_init_69 (F : Nat) (h : Qs) (x0 : Nat) (t0 : Nat) (t1 : Nat) : Option (Qs) := cwRk h t1 21 (some t0) fun h_1 => fcN (cS h_1) fun a_2 => cnCk h_1 17 (2 : Int32).toNatClampNeg (2 : Int32).toNatClampNeg fun h_3 => kcX15_init_76 F h_3 x0 a_2 x0
theorem e_X15_init_69 {u : Hp} {F : Nat} {h : Qs} {x0 : Nat} {t0 : Nat} {t1 : Nat}  : sX15_init_69 F (rel u h) (hS u + x0) (hS u + t0) (hS u + t1) = (kcX15_init_69 F h x0 t0 t1).map (rm1 u) := by
  simp only [sX15_init_69, kcX15_init_69, e_X15_init_76, l_I, l_J, l_N, l_R, l_wI, l_wJ, l_wR, l_wR0, l_nC, l_nM, nm_rel, nm_hS, l_onr, m_onr, cl_some, m_br, m_gd, m_nm, m_cl, cl_m, mapS, mapN, fcN_eq, fcI_eq, cwIk_eq, cwJk_eq, cwRk_eq, cnCk_eq, cnMk_eq]

def kcX15_init_65 (F : Nat) (h : Qs) (x0 : Nat) (t0 : Nat) (t1 : Nat) : Option (Qs) := cl (kcX12_init h t0) fun o_1 => kcX15_init_69 F o_1 x0 t0 t1
theorem e_X15_init_65 {u : Hp} {F : Nat} {h : Qs} {x0 : Nat} {t0 : Nat} {t1 : Nat}  : sX15_init_65 F (rel u h) (hS u + x0) (hS u + t0) (hS u + t1) = (kcX15_init_65 F h x0 t0 t1).map (rm1 u) := by
  simp only [sX15_init_65, kcX15_init_65, e_X15_init_69, e_X12_init, l_I, l_J, l_N, l_R, l_wI, l_wJ, l_wR, l_wR0, l_nC, l_nM, nm_rel, nm_hS, l_onr, m_onr, cl_some, m_br, m_gd, m_nm, m_cl, cl_m, mapS, mapN, fcN_eq, fcI_eq, cwIk_eq, cwJk_eq, cwRk_eq, cnCk_eq, cnMk_eq]

def kcX15_init_58 (F : Nat) (h : Qs) (x0 : Nat) (t0 : Nat) (t1 : Nat) : Option (Qs) := cwRk h t1 15 (some t0) fun h_1 => fcN (cS h_1) fun a_2 => cnCk h_1 12 0 8 fun h_3 => kcX15_init_65 F h_3 x0 a_2 x0
theorem e_X15_init_58 {u : Hp} {F : Nat} {h : Qs} {x0 : Nat} {t0 : Nat} {t1 : Nat}  : sX15_init_58 F (rel u h) (hS u + x0) (hS u + t0) (hS u + t1) = (kcX15_init_58 F h x0 t0 t1).map (rm1 u) := by
  simp only [sX15_init_58, kcX15_init_58, e_X15_init_65, l_I, l_J, l_N, l_R, l_wI, l_wJ, l_wR, l_wR0, l_nC, l_nM, nm_rel, nm_hS, l_onr, m_onr, cl_some, m_br, m_gd, m_nm, m_cl, cl_m, mapS, mapN, fcN_eq, fcI_eq, cwIk_eq, cwJk_eq, cwRk_eq, cnCk_eq, cnMk_eq]

def kcX15_init_50 (F : Nat) (h : Qs) (x0 : Nat) (t0 : Nat) (t1 : Nat) : Option (Qs) := cwRk h t1 14 (some t0) fun h_1 => fcN (cS h_1) fun a_2 => cnCk h_1 17 (60 : Int32).toNatClampNeg (60 : Int32).toNatClampNeg fun h_3 => kcX15_init_58 F h_3 x0 a_2 x0
theorem e_X15_init_50 {u : Hp} {F : Nat} {h : Qs} {x0 : Nat} {t0 : Nat} {t1 : Nat}  : sX15_init_50 F (rel u h) (hS u + x0) (hS u + t0) (hS u + t1) = (kcX15_init_50 F h x0 t0 t1).map (rm1 u) := by
  simp only [sX15_init_50, kcX15_init_50, e_X15_init_58, l_I, l_J, l_N, l_R, l_wI, l_wJ, l_wR, l_wR0, l_nC, l_nM, nm_rel, nm_hS, l_onr, m_onr, cl_some, m_br, m_gd, m_nm, m_cl, cl_m, mapS, mapN, fcN_eq, fcI_eq, cwIk_eq, cwJk_eq, cwRk_eq, cnCk_eq, cnMk_eq]

def kcX15_init_41 (F : Nat) (h : Qs) (x0 : Nat) (t0 : Nat) (t1 : Nat) : Option (Qs) := cwRk h t1 5 (some t0) fun h_1 => fcN (cS h_1) fun a_2 => cnCk h_1 21 (60 : Int32).toNatClampNeg (60 : Int32).toNatClampNeg fun h_3 => kcX15_init_50 F h_3 x0 a_2 x0
theorem e_X15_init_41 {u : Hp} {F : Nat} {h : Qs} {x0 : Nat} {t0 : Nat} {t1 : Nat}  : sX15_init_41 F (rel u h) (hS u + x0) (hS u + t0) (hS u + t1) = (kcX15_init_41 F h x0 t0 t1).map (rm1 u) := by
  simp only [sX15_init_41, kcX15_init_41, e_X15_init_50, l_I, l_J, l_N, l_R, l_wI, l_wJ, l_wR, l_wR0, l_nC, l_nM, nm_rel, nm_hS, l_onr, m_onr, cl_some, m_br, m_gd, m_nm, m_cl, cl_m, mapS, mapN, fcN_eq, fcI_eq, cwIk_eq, cwJk_eq, cwRk_eq, cnCk_eq, cnMk_eq]

def kcX15_init_37 (F : Nat) (h : Qs) (x0 : Nat) (t0 : Nat) (t1 : Nat) : Option (Qs) := cl (kcX14_init h t0) fun o_1 => kcX15_init_41 F o_1 x0 t0 t1
theorem e_X15_init_37 {u : Hp} {F : Nat} {h : Qs} {x0 : Nat} {t0 : Nat} {t1 : Nat}  : sX15_init_37 F (rel u h) (hS u + x0) (hS u + t0) (hS u + t1) = (kcX15_init_37 F h x0 t0 t1).map (rm1 u) := by
  simp only [sX15_init_37, kcX15_init_37, e_X15_init_41, e_X14_init, l_I, l_J, l_N, l_R, l_wI, l_wJ, l_wR, l_wR0, l_nC, l_nM, nm_rel, nm_hS, l_onr, m_onr, cl_some, m_br, m_gd, m_nm, m_cl, cl_m, mapS, mapN, fcN_eq, fcI_eq, cwIk_eq, cwJk_eq, cwRk_eq, cnCk_eq, cnMk_eq]

def kcX15_init_30 (F : Nat) (h : Qs) (x0 : Nat) (t0 : Nat) (t1 : Nat) : Option (Qs) := cwRk h t1 4 (some t0) fun h_1 => fcN (cS h_1) fun a_2 => cnCk h_1 14 0 24 fun h_3 => kcX15_init_37 F h_3 x0 a_2 x0
theorem e_X15_init_30 {u : Hp} {F : Nat} {h : Qs} {x0 : Nat} {t0 : Nat} {t1 : Nat}  : sX15_init_30 F (rel u h) (hS u + x0) (hS u + t0) (hS u + t1) = (kcX15_init_30 F h x0 t0 t1).map (rm1 u) := by
  simp only [sX15_init_30, kcX15_init_30, e_X15_init_37, l_I, l_J, l_N, l_R, l_wI, l_wJ, l_wR, l_wR0, l_nC, l_nM, nm_rel, nm_hS, l_onr, m_onr, cl_some, m_br, m_gd, m_nm, m_cl, cl_m, mapS, mapN, fcN_eq, fcI_eq, cwIk_eq, cwJk_eq, cwRk_eq, cnCk_eq, cnMk_eq]

def kcX15_init_26 (F : Nat) (h : Qs) (x0 : Nat) (t0 : Nat) (t1 : Nat) : Option (Qs) := cl (kcX14_init h t0) fun o_1 => kcX15_init_30 F o_1 x0 t0 t1
theorem e_X15_init_26 {u : Hp} {F : Nat} {h : Qs} {x0 : Nat} {t0 : Nat} {t1 : Nat}  : sX15_init_26 F (rel u h) (hS u + x0) (hS u + t0) (hS u + t1) = (kcX15_init_26 F h x0 t0 t1).map (rm1 u) := by
  simp only [sX15_init_26, kcX15_init_26, e_X15_init_30, e_X14_init, l_I, l_J, l_N, l_R, l_wI, l_wJ, l_wR, l_wR0, l_nC, l_nM, nm_rel, nm_hS, l_onr, m_onr, cl_some, m_br, m_gd, m_nm, m_cl, cl_m, mapS, mapN, fcN_eq, fcI_eq, cwIk_eq, cwJk_eq, cwRk_eq, cnCk_eq, cnMk_eq]

def kcX15_init_19 (F : Nat) (h : Qs) (x0 : Nat) (t0 : Nat) (t1 : Nat) : Option (Qs) := cwRk h t1 2 (some t0) fun h_1 => fcN (cS h_1) fun a_2 => cnCk h_1 14 0 24 fun h_3 => kcX15_init_26 F h_3 x0 a_2 x0
theorem e_X15_init_19 {u : Hp} {F : Nat} {h : Qs} {x0 : Nat} {t0 : Nat} {t1 : Nat}  : sX15_init_19 F (rel u h) (hS u + x0) (hS u + t0) (hS u + t1) = (kcX15_init_19 F h x0 t0 t1).map (rm1 u) := by
  simp only [sX15_init_19, kcX15_init_19, e_X15_init_26, l_I, l_J, l_N, l_R, l_wI, l_wJ, l_wR, l_wR0, l_nC, l_nM, nm_rel, nm_hS, l_onr, m_onr, cl_some, m_br, m_gd, m_nm, m_cl, cl_m, mapS, mapN, fcN_eq, fcI_eq, cwIk_eq, cwJk_eq, cwRk_eq, cnCk_eq, cnMk_eq]

def kcX15_init_10 (F : Nat) (h : Qs) (x0 : Nat) (t0 : Nat) (t1 : Nat) : Option (Qs) := cwRk h t1 0 (some t0) fun h_1 => fcN (cS h_1) fun a_2 => cnCk h_1 16 (256 : Int32).toNatClampNeg (256 : Int32).toNatClampNeg fun h_3 => kcX15_init_19 F h_3 x0 a_2 x0
theorem e_X15_init_10 {u : Hp} {F : Nat} {h : Qs} {x0 : Nat} {t0 : Nat} {t1 : Nat}  : sX15_init_10 F (rel u h) (hS u + x0) (hS u + t0) (hS u + t1) = (kcX15_init_10 F h x0 t0 t1).map (rm1 u) := by
  simp only [sX15_init_10, kcX15_init_10, e_X15_init_19, l_I, l_J, l_N, l_R, l_wI, l_wJ, l_wR, l_wR0, l_nC, l_nM, nm_rel, nm_hS, l_onr, m_onr, cl_some, m_br, m_gd, m_nm, m_cl, cl_m, mapS, mapN, fcN_eq, fcI_eq, cwIk_eq, cwJk_eq, cwRk_eq, cnCk_eq, cnMk_eq]

def kcX15_init (F : Nat) (h : Qs) (x0 : Nat) : Option (Qs) := fcN (cS h) fun a_1 => cnCk h 16 (1220 : Int32).toNatClampNeg (1220 : Int32).toNatClampNeg fun h_2 => kcX15_init_10 F h_2 x0 a_1 x0
theorem e_X15_init {u : Hp} {F : Nat} {h : Qs} {x0 : Nat}  : sX15_init F (rel u h) (hS u + x0) = (kcX15_init F h x0).map (rm1 u) := by
  simp only [sX15_init, kcX15_init, e_X15_init_10, l_I, l_J, l_N, l_R, l_wI, l_wJ, l_wR, l_wR0, l_nC, l_nM, nm_rel, nm_hS, l_onr, m_onr, cl_some, m_br, m_gd, m_nm, m_cl, cl_m, mapS, mapN, fcN_eq, fcI_eq, cwIk_eq, cwJk_eq, cwRk_eq, cnCk_eq, cnMk_eq]

def kcX7_init (h : Qs) (x0 : Nat) (x1 : Nat) : Option (Qs) := cwRk h x0 0 (some x1) fun h_1 => some h_1
theorem e_X7_init {u : Hp} {h : Qs} {x0 : Nat} {x1 : Nat}  : sX7_init (rel u h) (hS u + x0) (hS u + x1) = (kcX7_init h x0 x1).map (rm1 u) := by
  simp only [sX7_init, kcX7_init, l_I, l_J, l_N, l_R, l_wI, l_wJ, l_wR, l_wR0, l_nC, l_nM, nm_rel, nm_hS, l_onr, m_onr, cl_some, m_br, m_gd, m_nm, m_cl, cl_m, mapS, mapN, fcN_eq, fcI_eq, cwIk_eq, cwJk_eq, cwRk_eq, cnCk_eq, cnMk_eq]

def kcX5_init_21 (F : Nat) (h : Qs) (x0 : Nat) (x1 : Nat) (x2 : Nat) (t0 : Nat) (t1 : Nat) : Option (Qs) := cwRk h t1 3 (some t0) fun h_1 => cwRk h_1 x0 0 (some x1) fun h_2 => cwRk h_2 x0 1 (some x2) fun h_3 => some h_3
theorem e_X5_init_21 {u : Hp} {F : Nat} {h : Qs} {x0 : Nat} {x1 : Nat} {x2 : Nat} {t0 : Nat} {t1 : Nat}  : sX5_init_21 F (rel u h) (hS u + x0) (hS u + x1) (hS u + x2) (hS u + t0) (hS u + t1) = (kcX5_init_21 F h x0 x1 x2 t0 t1).map (rm1 u) := by
  simp only [sX5_init_21, kcX5_init_21, l_I, l_J, l_N, l_R, l_wI, l_wJ, l_wR, l_wR0, l_nC, l_nM, nm_rel, nm_hS, l_onr, m_onr, cl_some, m_br, m_gd, m_nm, m_cl, cl_m, mapS, mapN, fcN_eq, fcI_eq, cwIk_eq, cwJk_eq, cwRk_eq, cnCk_eq, cnMk_eq]

def kcX5_init_17 (F : Nat) (h : Qs) (x0 : Nat) (x1 : Nat) (x2 : Nat) (t0 : Nat) (t1 : Nat) : Option (Qs) := cl (kcX3_init F h t0) fun o_1 => kcX5_init_21 F o_1 x0 x1 x2 t0 t1
theorem e_X5_init_17 {u : Hp} {F : Nat} {h : Qs} {x0 : Nat} {x1 : Nat} {x2 : Nat} {t0 : Nat} {t1 : Nat}  : sX5_init_17 F (rel u h) (hS u + x0) (hS u + x1) (hS u + x2) (hS u + t0) (hS u + t1) = (kcX5_init_17 F h x0 x1 x2 t0 t1).map (rm1 u) := by
  simp only [sX5_init_17, kcX5_init_17, e_X5_init_21, e_X3_init, l_I, l_J, l_N, l_R, l_wI, l_wJ, l_wR, l_wR0, l_nC, l_nM, nm_rel, nm_hS, l_onr, m_onr, cl_some, m_br, m_gd, m_nm, m_cl, cl_m, mapS, mapN, fcN_eq, fcI_eq, cwIk_eq, cwJk_eq, cwRk_eq, cnCk_eq, cnMk_eq]

def kcX5_init_10 (F : Nat) (h : Qs) (x0 : Nat) (x1 : Nat) (x2 : Nat) (t0 : Nat) (t1 : Nat) : Option (Qs) := cwRk h t1 2 (some t0) fun h_1 => fcN (cS h_1) fun a_2 => cnCk h_1 3 0 11 fun h_3 => kcX5_init_17 F h_3 x0 x1 x2 a_2 x0
theorem e_X5_init_10 {u : Hp} {F : Nat} {h : Qs} {x0 : Nat} {x1 : Nat} {x2 : Nat} {t0 : Nat} {t1 : Nat}  : sX5_init_10 F (rel u h) (hS u + x0) (hS u + x1) (hS u + x2) (hS u + t0) (hS u + t1) = (kcX5_init_10 F h x0 x1 x2 t0 t1).map (rm1 u) := by
  simp only [sX5_init_10, kcX5_init_10, e_X5_init_17, l_I, l_J, l_N, l_R, l_wI, l_wJ, l_wR, l_wR0, l_nC, l_nM, nm_rel, nm_hS, l_onr, m_onr, cl_some, m_br, m_gd, m_nm, m_cl, cl_m, mapS, mapN, fcN_eq, fcI_eq, cwIk_eq, cwJk_eq, cwRk_eq, cnCk_eq, cnMk_eq]

def kcX5_init (F : Nat) (h : Qs) (x0 : Nat) (x1 : Nat) (x2 : Nat) : Option (Qs) := fcN (cS h) fun a_1 => cnCk h 17 (4096 : Int32).toNatClampNeg (4096 : Int32).toNatClampNeg fun h_2 => kcX5_init_10 F h_2 x0 x1 x2 a_1 x0
theorem e_X5_init {u : Hp} {F : Nat} {h : Qs} {x0 : Nat} {x1 : Nat} {x2 : Nat}  : sX5_init F (rel u h) (hS u + x0) (hS u + x1) (hS u + x2) = (kcX5_init F h x0 x1 x2).map (rm1 u) := by
  simp only [sX5_init, kcX5_init, e_X5_init_10, l_I, l_J, l_N, l_R, l_wI, l_wJ, l_wR, l_wR0, l_nC, l_nM, nm_rel, nm_hS, l_onr, m_onr, cl_some, m_br, m_gd, m_nm, m_cl, cl_m, mapS, mapN, fcN_eq, fcI_eq, cwIk_eq, cwJk_eq, cwRk_eq, cnCk_eq, cnMk_eq]

def kcX8_init_25 (F : Nat) (h : Qs) (x0 : Nat) (x1 : Nat) (x2 : Nat) (t0 : Nat) (t1 : Nat) : Option (Qs) := cwRk h t1 3 (some t0) fun h_1 => cwRk h_1 x0 0 (some x1) fun h_2 => cwRk h_2 x0 1 (some x2) fun h_3 => some h_3
theorem e_X8_init_25 {u : Hp} {F : Nat} {h : Qs} {x0 : Nat} {x1 : Nat} {x2 : Nat} {t0 : Nat} {t1 : Nat}  : sX8_init_25 F (rel u h) (hS u + x0) (hS u + x1) (hS u + x2) (hS u + t0) (hS u + t1) = (kcX8_init_25 F h x0 x1 x2 t0 t1).map (rm1 u) := by
  simp only [sX8_init_25, kcX8_init_25, l_I, l_J, l_N, l_R, l_wI, l_wJ, l_wR, l_wR0, l_nC, l_nM, nm_rel, nm_hS, l_onr, m_onr, cl_some, m_br, m_gd, m_nm, m_cl, cl_m, mapS, mapN, fcN_eq, fcI_eq, cwIk_eq, cwJk_eq, cwRk_eq, cnCk_eq, cnMk_eq]

def kcX8_init_19 (F : Nat) (h : Qs) (x0 : Nat) (x1 : Nat) (x2 : Nat) (t0 : Nat) (t1 : Nat) : Option (Qs) := cl (kcX9_init h t0 (16 : Int32)) fun o_1 => kcX8_init_25 F o_1 x0 x1 x2 t0 t1
theorem e_X8_init_19 {u : Hp} {F : Nat} {h : Qs} {x0 : Nat} {x1 : Nat} {x2 : Nat} {t0 : Nat} {t1 : Nat}  : sX8_init_19 F (rel u h) (hS u + x0) (hS u + x1) (hS u + x2) (hS u + t0) (hS u + t1) = (kcX8_init_19 F h x0 x1 x2 t0 t1).map (rm1 u) := by
  simp only [sX8_init_19, kcX8_init_19, e_X8_init_25, e_X9_init, l_I, l_J, l_N, l_R, l_wI, l_wJ, l_wR, l_wR0, l_nC, l_nM, nm_rel, nm_hS, l_onr, m_onr, cl_some, m_br, m_gd, m_nm, m_cl, cl_m, mapS, mapN, fcN_eq, fcI_eq, cwIk_eq, cwJk_eq, cwRk_eq, cnCk_eq, cnMk_eq]

def kcX8_init_12 (F : Nat) (h : Qs) (x0 : Nat) (x1 : Nat) (x2 : Nat) (t0 : Nat) (t1 : Nat) : Option (Qs) := cwRk h t1 2 (some t0) fun h_1 => fcN (cS h_1) fun a_2 => cnCk h_1 9 0 2 fun h_3 => kcX8_init_19 F h_3 x0 x1 x2 a_2 x0
theorem e_X8_init_12 {u : Hp} {F : Nat} {h : Qs} {x0 : Nat} {x1 : Nat} {x2 : Nat} {t0 : Nat} {t1 : Nat}  : sX8_init_12 F (rel u h) (hS u + x0) (hS u + x1) (hS u + x2) (hS u + t0) (hS u + t1) = (kcX8_init_12 F h x0 x1 x2 t0 t1).map (rm1 u) := by
  simp only [sX8_init_12, kcX8_init_12, e_X8_init_19, l_I, l_J, l_N, l_R, l_wI, l_wJ, l_wR, l_wR0, l_nC, l_nM, nm_rel, nm_hS, l_onr, m_onr, cl_some, m_br, m_gd, m_nm, m_cl, cl_m, mapS, mapN, fcN_eq, fcI_eq, cwIk_eq, cwJk_eq, cwRk_eq, cnCk_eq, cnMk_eq]

def kcX8_init_8 (F : Nat) (h : Qs) (x0 : Nat) (x1 : Nat) (x2 : Nat) (t0 : Nat) (t1 : Nat) : Option (Qs) := cl (kcX3_init F h t0) fun o_1 => kcX8_init_12 F o_1 x0 x1 x2 t0 t1
theorem e_X8_init_8 {u : Hp} {F : Nat} {h : Qs} {x0 : Nat} {x1 : Nat} {x2 : Nat} {t0 : Nat} {t1 : Nat}  : sX8_init_8 F (rel u h) (hS u + x0) (hS u + x1) (hS u + x2) (hS u + t0) (hS u + t1) = (kcX8_init_8 F h x0 x1 x2 t0 t1).map (rm1 u) := by
  simp only [sX8_init_8, kcX8_init_8, e_X8_init_12, e_X3_init, l_I, l_J, l_N, l_R, l_wI, l_wJ, l_wR, l_wR0, l_nC, l_nM, nm_rel, nm_hS, l_onr, m_onr, cl_some, m_br, m_gd, m_nm, m_cl, cl_m, mapS, mapN, fcN_eq, fcI_eq, cwIk_eq, cwJk_eq, cwRk_eq, cnCk_eq, cnMk_eq]

def kcX8_init (F : Nat) (h : Qs) (x0 : Nat) (x1 : Nat) (x2 : Nat) : Option (Qs) := fcN (cS h) fun a_1 => cnCk h 3 0 11 fun h_2 => kcX8_init_8 F h_2 x0 x1 x2 a_1 x0
theorem e_X8_init {u : Hp} {F : Nat} {h : Qs} {x0 : Nat} {x1 : Nat} {x2 : Nat}  : sX8_init F (rel u h) (hS u + x0) (hS u + x1) (hS u + x2) = (kcX8_init F h x0 x1 x2).map (rm1 u) := by
  simp only [sX8_init, kcX8_init, e_X8_init_8, l_I, l_J, l_N, l_R, l_wI, l_wJ, l_wR, l_wR0, l_nC, l_nM, nm_rel, nm_hS, l_onr, m_onr, cl_some, m_br, m_gd, m_nm, m_cl, cl_m, mapS, mapN, fcN_eq, fcI_eq, cwIk_eq, cwJk_eq, cwRk_eq, cnCk_eq, cnMk_eq]

def kcX6_init_32 (F : Nat) (h : Qs) (x0 : Nat) (x1 : Nat) (x2 : Nat) (x3 : Nat) (t0 : Nat) (t1 : Nat) : Option (Qs) := cwRk h t1 5 (some t0) fun h_1 => cwRk h_1 x0 0 (some x1) fun h_2 => cwRk h_2 x0 1 (some x2) fun h_3 => cwRk h_3 x0 2 (some x3) fun h_4 => some h_4
theorem e_X6_init_32 {u : Hp} {F : Nat} {h : Qs} {x0 : Nat} {x1 : Nat} {x2 : Nat} {x3 : Nat} {t0 : Nat} {t1 : Nat}  : sX6_init_32 F (rel u h) (hS u + x0) (hS u + x1) (hS u + x2) (hS u + x3) (hS u + t0) (hS u + t1) = (kcX6_init_32 F h x0 x1 x2 x3 t0 t1).map (rm1 u) := by
  simp only [sX6_init_32, kcX6_init_32, l_I, l_J, l_N, l_R, l_wI, l_wJ, l_wR, l_wR0, l_nC, l_nM, nm_rel, nm_hS, l_onr, m_onr, cl_some, m_br, m_gd, m_nm, m_cl, cl_m, mapS, mapN, fcN_eq, fcI_eq, cwIk_eq, cwJk_eq, cwRk_eq, cnCk_eq, cnMk_eq]

def kcX6_init_23 (F : Nat) (h : Qs) (x0 : Nat) (x1 : Nat) (x2 : Nat) (x3 : Nat) (t0 : Nat) (t1 : Nat) : Option (Qs) := cwRk h t1 4 (some t0) fun h_1 => fcN (cS h_1) fun a_2 => cnCk h_1 17 (3000 : Int32).toNatClampNeg (3000 : Int32).toNatClampNeg fun h_3 => kcX6_init_32 F h_3 x0 x1 x2 x3 a_2 x0
theorem e_X6_init_23 {u : Hp} {F : Nat} {h : Qs} {x0 : Nat} {x1 : Nat} {x2 : Nat} {x3 : Nat} {t0 : Nat} {t1 : Nat}  : sX6_init_23 F (rel u h) (hS u + x0) (hS u + x1) (hS u + x2) (hS u + x3) (hS u + t0) (hS u + t1) = (kcX6_init_23 F h x0 x1 x2 x3 t0 t1).map (rm1 u) := by
  simp only [sX6_init_23, kcX6_init_23, e_X6_init_32, l_I, l_J, l_N, l_R, l_wI, l_wJ, l_wR, l_wR0, l_nC, l_nM, nm_rel, nm_hS, l_onr, m_onr, cl_some, m_br, m_gd, m_nm, m_cl, cl_m, mapS, mapN, fcN_eq, fcI_eq, cwIk_eq, cwJk_eq, cwRk_eq, cnCk_eq, cnMk_eq]

def kcX6_init_19 (F : Nat) (h : Qs) (x0 : Nat) (x1 : Nat) (x2 : Nat) (x3 : Nat) (t0 : Nat) (t1 : Nat) : Option (Qs) := cl (kcX3_init F h t0) fun o_1 => kcX6_init_23 F o_1 x0 x1 x2 x3 t0 t1
theorem e_X6_init_19 {u : Hp} {F : Nat} {h : Qs} {x0 : Nat} {x1 : Nat} {x2 : Nat} {x3 : Nat} {t0 : Nat} {t1 : Nat}  : sX6_init_19 F (rel u h) (hS u + x0) (hS u + x1) (hS u + x2) (hS u + x3) (hS u + t0) (hS u + t1) = (kcX6_init_19 F h x0 x1 x2 x3 t0 t1).map (rm1 u) := by
  simp only [sX6_init_19, kcX6_init_19, e_X6_init_23, e_X3_init, l_I, l_J, l_N, l_R, l_wI, l_wJ, l_wR, l_wR0, l_nC, l_nM, nm_rel, nm_hS, l_onr, m_onr, cl_some, m_br, m_gd, m_nm, m_cl, cl_m, mapS, mapN, fcN_eq, fcI_eq, cwIk_eq, cwJk_eq, cwRk_eq, cnCk_eq, cnMk_eq]

def kcX6_init_12 (F : Nat) (h : Qs) (x0 : Nat) (x1 : Nat) (x2 : Nat) (x3 : Nat) (t0 : Nat) (t1 : Nat) : Option (Qs) := cwRk h t1 3 (some t0) fun h_1 => fcN (cS h_1) fun a_2 => cnCk h_1 3 0 11 fun h_3 => kcX6_init_19 F h_3 x0 x1 x2 x3 a_2 x0
theorem e_X6_init_12 {u : Hp} {F : Nat} {h : Qs} {x0 : Nat} {x1 : Nat} {x2 : Nat} {x3 : Nat} {t0 : Nat} {t1 : Nat}  : sX6_init_12 F (rel u h) (hS u + x0) (hS u + x1) (hS u + x2) (hS u + x3) (hS u + t0) (hS u + t1) = (kcX6_init_12 F h x0 x1 x2 x3 t0 t1).map (rm1 u) := by
  simp only [sX6_init_12, kcX6_init_12, e_X6_init_19, l_I, l_J, l_N, l_R, l_wI, l_wJ, l_wR, l_wR0, l_nC, l_nM, nm_rel, nm_hS, l_onr, m_onr, cl_some, m_br, m_gd, m_nm, m_cl, cl_m, mapS, mapN, fcN_eq, fcI_eq, cwIk_eq, cwJk_eq, cwRk_eq, cnCk_eq, cnMk_eq]

def kcX6_init_8 (F : Nat) (h : Qs) (x0 : Nat) (x1 : Nat) (x2 : Nat) (x3 : Nat) (t0 : Nat) (t1 : Nat) : Option (Qs) := cl (kcX3_init F h t0) fun o_1 => kcX6_init_12 F o_1 x0 x1 x2 x3 t0 t1
theorem e_X6_init_8 {u : Hp} {F : Nat} {h : Qs} {x0 : Nat} {x1 : Nat} {x2 : Nat} {x3 : Nat} {t0 : Nat} {t1 : Nat}  : sX6_init_8 F (rel u h) (hS u + x0) (hS u + x1) (hS u + x2) (hS u + x3) (hS u + t0) (hS u + t1) = (kcX6_init_8 F h x0 x1 x2 x3 t0 t1).map (rm1 u) := by
  simp only [sX6_init_8, kcX6_init_8, e_X6_init_12, e_X3_init, l_I, l_J, l_N, l_R, l_wI, l_wJ, l_wR, l_wR0, l_nC, l_nM, nm_rel, nm_hS, l_onr, m_onr, cl_some, m_br, m_gd, m_nm, m_cl, cl_m, mapS, mapN, fcN_eq, fcI_eq, cwIk_eq, cwJk_eq, cwRk_eq, cnCk_eq, cnMk_eq]

def kcX6_init (F : Nat) (h : Qs) (x0 : Nat) (x1 : Nat) (x2 : Nat) (x3 : Nat) : Option (Qs) := fcN (cS h) fun a_1 => cnCk h 3 0 11 fun h_2 => kcX6_init_8 F h_2 x0 x1 x2 x3 a_1 x0
theorem e_X6_init {u : Hp} {F : Nat} {h : Qs} {x0 : Nat} {x1 : Nat} {x2 : Nat} {x3 : Nat}  : sX6_init F (rel u h) (hS u + x0) (hS u + x1) (hS u + x2) (hS u + x3) = (kcX6_init F h x0 x1 x2 x3).map (rm1 u) := by
  simp only [sX6_init, kcX6_init, e_X6_init_8, l_I, l_J, l_N, l_R, l_wI, l_wJ, l_wR, l_wR0, l_nC, l_nM, nm_rel, nm_hS, l_onr, m_onr, cl_some, m_br, m_gd, m_nm, m_cl, cl_m, mapS, mapN, fcN_eq, fcI_eq, cwIk_eq, cwJk_eq, cwRk_eq, cnCk_eq, cnMk_eq]

def kcX0_init_66 (F : Nat) (h : Qs) (x0 : Nat) (x1 : Nat) (x2 : Nat) (x3 : Nat) (t0 : Nat) (t1 : Nat) : Option (Qs) := cwRk h t1 13 (some t0) fun h_1 => cwRk h_1 x0 0 (some x1) fun h_2 => cwRk h_2 x0 1 (some x2) fun h_3 => cwRk h_3 x0 2 (some x3) fun h_4 => some h_4
theorem e_X0_init_66 {u : Hp} {F : Nat} {h : Qs} {x0 : Nat} {x1 : Nat} {x2 : Nat} {x3 : Nat} {t0 : Nat} {t1 : Nat}  : sX0_init_66 F (rel u h) (hS u + x0) (hS u + x1) (hS u + x2) (hS u + x3) (hS u + t0) (hS u + t1) = (kcX0_init_66 F h x0 x1 x2 x3 t0 t1).map (rm1 u) := by
  simp only [sX0_init_66, kcX0_init_66, l_I, l_J, l_N, l_R, l_wI, l_wJ, l_wR, l_wR0, l_nC, l_nM, nm_rel, nm_hS, l_onr, m_onr, cl_some, m_br, m_gd, m_nm, m_cl, cl_m, mapS, mapN, fcN_eq, fcI_eq, cwIk_eq, cwJk_eq, cwRk_eq, cnCk_eq, cnMk_eq]

def kcX0_init_59 (F : Nat) (h : Qs) (x0 : Nat) (x1 : Nat) (x2 : Nat) (x3 : Nat) (t0 : Nat) (t1 : Nat) : Option (Qs) := cwRk h t1 12 (some t0) fun h_1 => fcN (cS h_1) fun a_2 => cnCk h_1 17 (0 : Int32).toNatClampNeg (0 : Int32).toNatClampNeg fun h_3 => kcX0_init_66 F h_3 x0 x1 x2 x3 a_2 x0
theorem e_X0_init_59 {u : Hp} {F : Nat} {h : Qs} {x0 : Nat} {x1 : Nat} {x2 : Nat} {x3 : Nat} {t0 : Nat} {t1 : Nat}  : sX0_init_59 F (rel u h) (hS u + x0) (hS u + x1) (hS u + x2) (hS u + x3) (hS u + t0) (hS u + t1) = (kcX0_init_59 F h x0 x1 x2 x3 t0 t1).map (rm1 u) := by
  simp only [sX0_init_59, kcX0_init_59, e_X0_init_66, l_I, l_J, l_N, l_R, l_wI, l_wJ, l_wR, l_wR0, l_nC, l_nM, nm_rel, nm_hS, l_onr, m_onr, cl_some, m_br, m_gd, m_nm, m_cl, cl_m, mapS, mapN, fcN_eq, fcI_eq, cwIk_eq, cwJk_eq, cwRk_eq, cnCk_eq, cnMk_eq]

def kcX0_init_52 (F : Nat) (h : Qs) (x0 : Nat) (x1 : Nat) (x2 : Nat) (x3 : Nat) (t0 : Nat) (t1 : Nat) : Option (Qs) := cwRk h t1 11 (some t0) fun h_1 => fcN (cS h_1) fun a_2 => cnCk h_1 17 (0 : Int32).toNatClampNeg (0 : Int32).toNatClampNeg fun h_3 => kcX0_init_59 F h_3 x0 x1 x2 x3 a_2 x0
theorem e_X0_init_52 {u : Hp} {F : Nat} {h : Qs} {x0 : Nat} {x1 : Nat} {x2 : Nat} {x3 : Nat} {t0 : Nat} {t1 : Nat}  : sX0_init_52 F (rel u h) (hS u + x0) (hS u + x1) (hS u + x2) (hS u + x3) (hS u + t0) (hS u + t1) = (kcX0_init_52 F h x0 x1 x2 x3 t0 t1).map (rm1 u) := by
  simp only [sX0_init_52, kcX0_init_52, e_X0_init_59, l_I, l_J, l_N, l_R, l_wI, l_wJ, l_wR, l_wR0, l_nC, l_nM, nm_rel, nm_hS, l_onr, m_onr, cl_some, m_br, m_gd, m_nm, m_cl, cl_m, mapS, mapN, fcN_eq, fcI_eq, cwIk_eq, cwJk_eq, cwRk_eq, cnCk_eq, cnMk_eq]

def kcX0_init_45 (F : Nat) (h : Qs) (x0 : Nat) (x1 : Nat) (x2 : Nat) (x3 : Nat) (t0 : Nat) (t1 : Nat) : Option (Qs) := cwRk h t1 7 (some t0) fun h_1 => fcN (cS h_1) fun a_2 => cnCk h_1 17 (0 : Int32).toNatClampNeg (0 : Int32).toNatClampNeg fun h_3 => kcX0_init_52 F h_3 x0 x1 x2 x3 a_2 x0
theorem e_X0_init_45 {u : Hp} {F : Nat} {h : Qs} {x0 : Nat} {x1 : Nat} {x2 : Nat} {x3 : Nat} {t0 : Nat} {t1 : Nat}  : sX0_init_45 F (rel u h) (hS u + x0) (hS u + x1) (hS u + x2) (hS u + x3) (hS u + t0) (hS u + t1) = (kcX0_init_45 F h x0 x1 x2 x3 t0 t1).map (rm1 u) := by
  simp only [sX0_init_45, kcX0_init_45, e_X0_init_52, l_I, l_J, l_N, l_R, l_wI, l_wJ, l_wR, l_wR0, l_nC, l_nM, nm_rel, nm_hS, l_onr, m_onr, cl_some, m_br, m_gd, m_nm, m_cl, cl_m, mapS, mapN, fcN_eq, fcI_eq, cwIk_eq, cwJk_eq, cwRk_eq, cnCk_eq, cnMk_eq]

def kcX0_init_38 (F : Nat) (h : Qs) (x0 : Nat) (x1 : Nat) (x2 : Nat) (x3 : Nat) (t0 : Nat) (t1 : Nat) : Option (Qs) := cwRk h t1 6 (some t0) fun h_1 => fcN (cS h_1) fun a_2 => cnCk h_1 17 (5 : Int32).toNatClampNeg (5 : Int32).toNatClampNeg fun h_3 => kcX0_init_45 F h_3 x0 x1 x2 x3 a_2 x0
theorem e_X0_init_38 {u : Hp} {F : Nat} {h : Qs} {x0 : Nat} {x1 : Nat} {x2 : Nat} {x3 : Nat} {t0 : Nat} {t1 : Nat}  : sX0_init_38 F (rel u h) (hS u + x0) (hS u + x1) (hS u + x2) (hS u + x3) (hS u + t0) (hS u + t1) = (kcX0_init_38 F h x0 x1 x2 x3 t0 t1).map (rm1 u) := by
  simp only [sX0_init_38, kcX0_init_38, e_X0_init_45, l_I, l_J, l_N, l_R, l_wI, l_wJ, l_wR, l_wR0, l_nC, l_nM, nm_rel, nm_hS, l_onr, m_onr, cl_some, m_br, m_gd, m_nm, m_cl, cl_m, mapS, mapN, fcN_eq, fcI_eq, cwIk_eq, cwJk_eq, cwRk_eq, cnCk_eq, cnMk_eq]

def kcX0_init_30 (F : Nat) (h : Qs) (x0 : Nat) (x1 : Nat) (x2 : Nat) (x3 : Nat) (t0 : Nat) (t1 : Nat) : Option (Qs) := cwRk h t1 5 (some t0) fun h_1 => fcN (cS h_1) fun a_2 => cnCk h_1 17 (6 : Int32).toNatClampNeg (6 : Int32).toNatClampNeg fun h_3 => kcX0_init_38 F h_3 x0 x1 x2 x3 a_2 x0
theorem e_X0_init_30 {u : Hp} {F : Nat} {h : Qs} {x0 : Nat} {x1 : Nat} {x2 : Nat} {x3 : Nat} {t0 : Nat} {t1 : Nat}  : sX0_init_30 F (rel u h) (hS u + x0) (hS u + x1) (hS u + x2) (hS u + x3) (hS u + t0) (hS u + t1) = (kcX0_init_30 F h x0 x1 x2 x3 t0 t1).map (rm1 u) := by
  simp only [sX0_init_30, kcX0_init_30, e_X0_init_38, l_I, l_J, l_N, l_R, l_wI, l_wJ, l_wR, l_wR0, l_nC, l_nM, nm_rel, nm_hS, l_onr, m_onr, cl_some, m_br, m_gd, m_nm, m_cl, cl_m, mapS, mapN, fcN_eq, fcI_eq, cwIk_eq, cwJk_eq, cwRk_eq, cnCk_eq, cnMk_eq]

def kcX0_init_21 (F : Nat) (h : Qs) (x0 : Nat) (x1 : Nat) (x2 : Nat) (x3 : Nat) (t0 : Nat) (t1 : Nat) : Option (Qs) := cwRk h t1 4 (some t0) fun h_1 => fcN (cS h_1) fun a_2 => cnCk h_1 17 (1025 : Int32).toNatClampNeg (1025 : Int32).toNatClampNeg fun h_3 => kcX0_init_30 F h_3 x0 x1 x2 x3 a_2 x0
theorem e_X0_init_21 {u : Hp} {F : Nat} {h : Qs} {x0 : Nat} {x1 : Nat} {x2 : Nat} {x3 : Nat} {t0 : Nat} {t1 : Nat}  : sX0_init_21 F (rel u h) (hS u + x0) (hS u + x1) (hS u + x2) (hS u + x3) (hS u + t0) (hS u + t1) = (kcX0_init_21 F h x0 x1 x2 x3 t0 t1).map (rm1 u) := by
  simp only [sX0_init_21, kcX0_init_21, e_X0_init_30, l_I, l_J, l_N, l_R, l_wI, l_wJ, l_wR, l_wR0, l_nC, l_nM, nm_rel, nm_hS, l_onr, m_onr, cl_some, m_br, m_gd, m_nm, m_cl, cl_m, mapS, mapN, fcN_eq, fcI_eq, cwIk_eq, cwJk_eq, cwRk_eq, cnCk_eq, cnMk_eq]

def kcX0_init_12 (F : Nat) (h : Qs) (x0 : Nat) (x1 : Nat) (x2 : Nat) (x3 : Nat) (t0 : Nat) (t1 : Nat) : Option (Qs) := cwRk h t1 3 (some t0) fun h_1 => fcN (cS h_1) fun a_2 => cnCk h_1 17 (1024 : Int32).toNatClampNeg (1024 : Int32).toNatClampNeg fun h_3 => kcX0_init_21 F h_3 x0 x1 x2 x3 a_2 x0
theorem e_X0_init_12 {u : Hp} {F : Nat} {h : Qs} {x0 : Nat} {x1 : Nat} {x2 : Nat} {x3 : Nat} {t0 : Nat} {t1 : Nat}  : sX0_init_12 F (rel u h) (hS u + x0) (hS u + x1) (hS u + x2) (hS u + x3) (hS u + t0) (hS u + t1) = (kcX0_init_12 F h x0 x1 x2 x3 t0 t1).map (rm1 u) := by
  simp only [sX0_init_12, kcX0_init_12, e_X0_init_21, l_I, l_J, l_N, l_R, l_wI, l_wJ, l_wR, l_wR0, l_nC, l_nM, nm_rel, nm_hS, l_onr, m_onr, cl_some, m_br, m_gd, m_nm, m_cl, cl_m, mapS, mapN, fcN_eq, fcI_eq, cwIk_eq, cwJk_eq, cwRk_eq, cnCk_eq, cnMk_eq]

def kcX0_init_8 (F : Nat) (h : Qs) (x0 : Nat) (x1 : Nat) (x2 : Nat) (x3 : Nat) (t0 : Nat) (t1 : Nat) : Option (Qs) := cl (kcX3_init F h t0) fun o_1 => kcX0_init_12 F o_1 x0 x1 x2 x3 t0 t1
theorem e_X0_init_8 {u : Hp} {F : Nat} {h : Qs} {x0 : Nat} {x1 : Nat} {x2 : Nat} {x3 : Nat} {t0 : Nat} {t1 : Nat}  : sX0_init_8 F (rel u h) (hS u + x0) (hS u + x1) (hS u + x2) (hS u + x3) (hS u + t0) (hS u + t1) = (kcX0_init_8 F h x0 x1 x2 x3 t0 t1).map (rm1 u) := by
  simp only [sX0_init_8, kcX0_init_8, e_X0_init_12, e_X3_init, l_I, l_J, l_N, l_R, l_wI, l_wJ, l_wR, l_wR0, l_nC, l_nM, nm_rel, nm_hS, l_onr, m_onr, cl_some, m_br, m_gd, m_nm, m_cl, cl_m, mapS, mapN, fcN_eq, fcI_eq, cwIk_eq, cwJk_eq, cwRk_eq, cnCk_eq, cnMk_eq]

def kcX0_init (F : Nat) (h : Qs) (x0 : Nat) (x1 : Nat) (x2 : Nat) (x3 : Nat) : Option (Qs) := fcN (cS h) fun a_1 => cnCk h 3 0 11 fun h_2 => kcX0_init_8 F h_2 x0 x1 x2 x3 a_1 x0
theorem e_X0_init {u : Hp} {F : Nat} {h : Qs} {x0 : Nat} {x1 : Nat} {x2 : Nat} {x3 : Nat}  : sX0_init F (rel u h) (hS u + x0) (hS u + x1) (hS u + x2) (hS u + x3) = (kcX0_init F h x0 x1 x2 x3).map (rm1 u) := by
  simp only [sX0_init, kcX0_init, e_X0_init_8, l_I, l_J, l_N, l_R, l_wI, l_wJ, l_wR, l_wR0, l_nC, l_nM, nm_rel, nm_hS, l_onr, m_onr, cl_some, m_br, m_gd, m_nm, m_cl, cl_m, mapS, mapN, fcN_eq, fcI_eq, cwIk_eq, cwJk_eq, cwRk_eq, cnCk_eq, cnMk_eq]

def kcX4_init_108 (F : Nat) (k_90 : Qs → Nat → Int32 → Option (Qs)) (h : Qs) (x0 : Nat) (x2 : Int32) (t0 : Nat) (t1 : Int32) (t2 : Nat) : Option (Qs) := gd (inB t1 (cN h t2)) <| cwRk h t2 t1.toNatClampNeg (some t0) fun h_2 => fcI (x2 + (1 : Int32)) fun v_3 => k_90 h_2 x0 v_3
theorem e_X4_init_108 {u : Hp} {F : Nat} {k_90 : Hp → Nat → Int32 → Option (Hp)} {k_90_ : Qs → Nat → Int32 → Option (Qs)} {h : Qs} {x0 : Nat} {x2 : Int32} {t0 : Nat} {t1 : Int32} {t2 : Nat} (hk_90 : ∀ (h : Qs) (x0 : Nat) (x2 : Int32), k_90 (rel u h) (hS u + x0) x2 = (k_90_ h x0 x2).map (rm1 u)) : sX4_init_108 F k_90 (rel u h) (hS u + x0) x2 (hS u + t0) t1 (hS u + t2) = (kcX4_init_108 F k_90_ h x0 x2 t0 t1 t2).map (rm1 u) := by
  simp only [sX4_init_108, kcX4_init_108, hk_90, l_I, l_J, l_N, l_R, l_wI, l_wJ, l_wR, l_wR0, l_nC, l_nM, nm_rel, nm_hS, l_onr, m_onr, cl_some, m_br, m_gd, m_nm, m_cl, cl_m, mapS, mapN, fcN_eq, fcI_eq, cwIk_eq, cwJk_eq, cwRk_eq, cnCk_eq, cnMk_eq]

def kcX4_init_104 (F : Nat) (k_90 : Qs → Nat → Int32 → Option (Qs)) (h : Qs) (x0 : Nat) (x2 : Int32) (t0 : Nat) (t1 : Int32) (t2 : Nat) : Option (Qs) := cl (kcX3_init F h t0) fun o_1 => kcX4_init_108 F k_90 o_1 x0 x2 t0 t1 t2
theorem e_X4_init_104 {u : Hp} {F : Nat} {k_90 : Hp → Nat → Int32 → Option (Hp)} {k_90_ : Qs → Nat → Int32 → Option (Qs)} {h : Qs} {x0 : Nat} {x2 : Int32} {t0 : Nat} {t1 : Int32} {t2 : Nat} (hk_90 : ∀ (h : Qs) (x0 : Nat) (x2 : Int32), k_90 (rel u h) (hS u + x0) x2 = (k_90_ h x0 x2).map (rm1 u)) : sX4_init_104 F k_90 (rel u h) (hS u + x0) x2 (hS u + t0) t1 (hS u + t2) = (kcX4_init_104 F k_90_ h x0 x2 t0 t1 t2).map (rm1 u) := by
  simp only [sX4_init_104, kcX4_init_104, (e_X4_init_108 hk_90), e_X3_init, hk_90, l_I, l_J, l_N, l_R, l_wI, l_wJ, l_wR, l_wR0, l_nC, l_nM, nm_rel, nm_hS, l_onr, m_onr, cl_some, m_br, m_gd, m_nm, m_cl, cl_m, mapS, mapN, fcN_eq, fcI_eq, cwIk_eq, cwJk_eq, cwRk_eq, cnCk_eq, cnMk_eq]

def kcX4_init_90 (F : Nat) : Nat → Qs → Nat → Int32 → Option (Qs)
  | 0, _, _, _ => none
  | f + 1, h, x0, x2 => br ((8 : Int32) < x2) (some h) (cl (cR h x0 1) fun r_2 => fcN (cS h) fun a_3 => cnCk h 3 0 11 fun h_4 => kcX4_init_104 F (kcX4_init_90 F f) h_4 x0 x2 a_3 x2 r_2)
theorem e_X4_init_90 {u : Hp} {F : Nat}  : ∀ (f : Nat) (h : Qs) (x0 : Nat) (x2 : Int32), sX4_init_90 F f (rel u h) (hS u + x0) x2 = (kcX4_init_90 F f h x0 x2).map (rm1 u) := by
  intro f
  induction f with
  | zero => intros; rfl
  | succ f ih =>
    intro h x0 x2
    simp only [sX4_init_90, kcX4_init_90, (e_X4_init_104 ih), l_I, l_J, l_N, l_R, l_wI, l_wJ, l_wR, l_wR0, l_nC, l_nM, nm_rel, nm_hS, l_onr, m_onr, cl_some, m_br, m_gd, m_nm, m_cl, cl_m, mapS, mapN, fcN_eq, fcI_eq, cwIk_eq, cwJk_eq, cwRk_eq, cnCk_eq, cnMk_eq]

def kcX4_init_75 (F : Nat) (h : Qs) (x0 : Nat) (x1 : Nat) (t0 : Nat) (t1 : Nat) : Option (Qs) := cwRk h t1 13 (some t0) fun h_1 => cwIk h_1 x0 16 (- 1 : Int32) fun h_2 => cwRk h_2 x0 0 (some x1) fun h_3 => kcX4_init_90 F F h_3 x0 (0 : Int32)
theorem e_X4_init_75 {u : Hp} {F : Nat} {h : Qs} {x0 : Nat} {x1 : Nat} {t0 : Nat} {t1 : Nat}  : sX4_init_75 F (rel u h) (hS u + x0) (hS u + x1) (hS u + t0) (hS u + t1) = (kcX4_init_75 F h x0 x1 t0 t1).map (rm1 u) := by
  simp only [sX4_init_75, kcX4_init_75, e_X4_init_90, l_I, l_J, l_N, l_R, l_wI, l_wJ, l_wR, l_wR0, l_nC, l_nM, nm_rel, nm_hS, l_onr, m_onr, cl_some, m_br, m_gd, m_nm, m_cl, cl_m, mapS, mapN, fcN_eq, fcI_eq, cwIk_eq, cwJk_eq, cwRk_eq, cnCk_eq, cnMk_eq]

def kcX4_init_66 (F : Nat) (h : Qs) (x0 : Nat) (x1 : Nat) (t0 : Nat) (t1 : Nat) : Option (Qs) := cwRk h t1 12 (some t0) fun h_1 => fcN (cS h_1) fun a_2 => cnCk h_1 17 (4096 : Int32).toNatClampNeg (4096 : Int32).toNatClampNeg fun h_3 => kcX4_init_75 F h_3 x0 x1 a_2 x0
theorem e_X4_init_66 {u : Hp} {F : Nat} {h : Qs} {x0 : Nat} {x1 : Nat} {t0 : Nat} {t1 : Nat}  : sX4_init_66 F (rel u h) (hS u + x0) (hS u + x1) (hS u + t0) (hS u + t1) = (kcX4_init_66 F h x0 x1 t0 t1).map (rm1 u) := by
  simp only [sX4_init_66, kcX4_init_66, e_X4_init_75, l_I, l_J, l_N, l_R, l_wI, l_wJ, l_wR, l_wR0, l_nC, l_nM, nm_rel, nm_hS, l_onr, m_onr, cl_some, m_br, m_gd, m_nm, m_cl, cl_m, mapS, mapN, fcN_eq, fcI_eq, cwIk_eq, cwJk_eq, cwRk_eq, cnCk_eq, cnMk_eq]

def kcX4_init_57 (F : Nat) (h : Qs) (x0 : Nat) (x1 : Nat) (t0 : Nat) (t1 : Nat) : Option (Qs) := cwRk h t1 11 (some t0) fun h_1 => fcN (cS h_1) fun a_2 => cnCk h_1 17 (4096 : Int32).toNatClampNeg (4096 : Int32).toNatClampNeg fun h_3 => kcX4_init_66 F h_3 x0 x1 a_2 x0
theorem e_X4_init_57 {u : Hp} {F : Nat} {h : Qs} {x0 : Nat} {x1 : Nat} {t0 : Nat} {t1 : Nat}  : sX4_init_57 F (rel u h) (hS u + x0) (hS u + x1) (hS u + t0) (hS u + t1) = (kcX4_init_57 F h x0 x1 t0 t1).map (rm1 u) := by
  simp only [sX4_init_57, kcX4_init_57, e_X4_init_66, l_I, l_J, l_N, l_R, l_wI, l_wJ, l_wR, l_wR0, l_nC, l_nM, nm_rel, nm_hS, l_onr, m_onr, cl_some, m_br, m_gd, m_nm, m_cl, cl_m, mapS, mapN, fcN_eq, fcI_eq, cwIk_eq, cwJk_eq, cwRk_eq, cnCk_eq, cnMk_eq]

def kcX4_init_48 (F : Nat) (h : Qs) (x0 : Nat) (x1 : Nat) (t0 : Nat) (t1 : Nat) : Option (Qs) := cwRk h t1 10 (some t0) fun h_1 => fcN (cS h_1) fun a_2 => cnCk h_1 17 (4096 : Int32).toNatClampNeg (4096 : Int32).toNatClampNeg fun h_3 => kcX4_init_57 F h_3 x0 x1 a_2 x0
theorem e_X4_init_48 {u : Hp} {F : Nat} {h : Qs} {x0 : Nat} {x1 : Nat} {t0 : Nat} {t1 : Nat}  : sX4_init_48 F (rel u h) (hS u + x0) (hS u + x1) (hS u + t0) (hS u + t1) = (kcX4_init_48 F h x0 x1 t0 t1).map (rm1 u) := by
  simp only [sX4_init_48, kcX4_init_48, e_X4_init_57, l_I, l_J, l_N, l_R, l_wI, l_wJ, l_wR, l_wR0, l_nC, l_nM, nm_rel, nm_hS, l_onr, m_onr, cl_some, m_br, m_gd, m_nm, m_cl, cl_m, mapS, mapN, fcN_eq, fcI_eq, cwIk_eq, cwJk_eq, cwRk_eq, cnCk_eq, cnMk_eq]

def kcX4_init_39 (F : Nat) (h : Qs) (x0 : Nat) (x1 : Nat) (t0 : Nat) (t1 : Nat) : Option (Qs) := cwRk h t1 4 (some t0) fun h_1 => fcN (cS h_1) fun a_2 => cnCk h_1 17 (4096 : Int32).toNatClampNeg (4096 : Int32).toNatClampNeg fun h_3 => kcX4_init_48 F h_3 x0 x1 a_2 x0
theorem e_X4_init_39 {u : Hp} {F : Nat} {h : Qs} {x0 : Nat} {x1 : Nat} {t0 : Nat} {t1 : Nat}  : sX4_init_39 F (rel u h) (hS u + x0) (hS u + x1) (hS u + t0) (hS u + t1) = (kcX4_init_39 F h x0 x1 t0 t1).map (rm1 u) := by
  simp only [sX4_init_39, kcX4_init_39, e_X4_init_48, l_I, l_J, l_N, l_R, l_wI, l_wJ, l_wR, l_wR0, l_nC, l_nM, nm_rel, nm_hS, l_onr, m_onr, cl_some, m_br, m_gd, m_nm, m_cl, cl_m, mapS, mapN, fcN_eq, fcI_eq, cwIk_eq, cwJk_eq, cwRk_eq, cnCk_eq, cnMk_eq]

def kcX4_init_31 (F : Nat) (h : Qs) (x0 : Nat) (x1 : Nat) (t0 : Nat) (t1 : Nat) : Option (Qs) := cwRk h t1 3 (some t0) fun h_1 => fcN (cS h_1) fun a_2 => cnCk h_1 17 (8 : Int32).toNatClampNeg (8 : Int32).toNatClampNeg fun h_3 => kcX4_init_39 F h_3 x0 x1 a_2 x0
theorem e_X4_init_31 {u : Hp} {F : Nat} {h : Qs} {x0 : Nat} {x1 : Nat} {t0 : Nat} {t1 : Nat}  : sX4_init_31 F (rel u h) (hS u + x0) (hS u + x1) (hS u + t0) (hS u + t1) = (kcX4_init_31 F h x0 x1 t0 t1).map (rm1 u) := by
  simp only [sX4_init_31, kcX4_init_31, e_X4_init_39, l_I, l_J, l_N, l_R, l_wI, l_wJ, l_wR, l_wR0, l_nC, l_nM, nm_rel, nm_hS, l_onr, m_onr, cl_some, m_br, m_gd, m_nm, m_cl, cl_m, mapS, mapN, fcN_eq, fcI_eq, cwIk_eq, cwJk_eq, cwRk_eq, cnCk_eq, cnMk_eq]

def kcX4_init_23 (F : Nat) (h : Qs) (x0 : Nat) (x1 : Nat) (t0 : Nat) (t1 : Nat) : Option (Qs) := cwRk h t1 2 (some t0) fun h_1 => fcN (cS h_1) fun a_2 => cnCk h_1 17 (9 : Int32).toNatClampNeg (9 : Int32).toNatClampNeg fun h_3 => kcX4_init_31 F h_3 x0 x1 a_2 x0
theorem e_X4_init_23 {u : Hp} {F : Nat} {h : Qs} {x0 : Nat} {x1 : Nat} {t0 : Nat} {t1 : Nat}  : sX4_init_23 F (rel u h) (hS u + x0) (hS u + x1) (hS u + t0) (hS u + t1) = (kcX4_init_23 F h x0 x1 t0 t1).map (rm1 u) := by
  simp only [sX4_init_23, kcX4_init_23, e_X4_init_31, l_I, l_J, l_N, l_R, l_wI, l_wJ, l_wR, l_wR0, l_nC, l_nM, nm_rel, nm_hS, l_onr, m_onr, cl_some, m_br, m_gd, m_nm, m_cl, cl_m, mapS, mapN, fcN_eq, fcI_eq, cwIk_eq, cwJk_eq, cwRk_eq, cnCk_eq, cnMk_eq]

def kcX4_init_10 (F : Nat) (h : Qs) (x0 : Nat) (x1 : Nat) (t0 : Nat) (t1 : Nat) : Option (Qs) := cwRk h t1 1 (some t0) fun h_1 => fcN (cS h_1) fun a_2 => cnMk h_1 (8 : Int32).toNatClampNeg (4096 : Int32).toNatClampNeg fun h_3 => kcX4_init_23 F h_3 x0 x1 a_2 x0
theorem e_X4_init_10 {u : Hp} {F : Nat} {h : Qs} {x0 : Nat} {x1 : Nat} {t0 : Nat} {t1 : Nat}  : sX4_init_10 F (rel u h) (hS u + x0) (hS u + x1) (hS u + t0) (hS u + t1) = (kcX4_init_10 F h x0 x1 t0 t1).map (rm1 u) := by
  simp only [sX4_init_10, kcX4_init_10, e_X4_init_23, l_I, l_J, l_N, l_R, l_wI, l_wJ, l_wR, l_wR0, l_nC, l_nM, nm_rel, nm_hS, l_onr, m_onr, cl_some, m_br, m_gd, m_nm, m_cl, cl_m, mapS, mapN, fcN_eq, fcI_eq, cwIk_eq, cwJk_eq, cwRk_eq, cnCk_eq, cnMk_eq]

def kcX4_init (F : Nat) (h : Qs) (x0 : Nat) (x1 : Nat) : Option (Qs) := fcN (cS h) fun a_1 => cnCk h 20 (9 : Int32).toNatClampNeg (9 : Int32).toNatClampNeg fun h_2 => kcX4_init_10 F h_2 x0 x1 a_1 x0
theorem e_X4_init {u : Hp} {F : Nat} {h : Qs} {x0 : Nat} {x1 : Nat}  : sX4_init F (rel u h) (hS u + x0) (hS u + x1) = (kcX4_init F h x0 x1).map (rm1 u) := by
  simp only [sX4_init, kcX4_init, e_X4_init_10, l_I, l_J, l_N, l_R, l_wI, l_wJ, l_wR, l_wR0, l_nC, l_nM, nm_rel, nm_hS, l_onr, m_onr, cl_some, m_br, m_gd, m_nm, m_cl, cl_m, mapS, mapN, fcN_eq, fcI_eq, cwIk_eq, cwJk_eq, cwRk_eq, cnCk_eq, cnMk_eq]

def kdX11_init_305 (F : Nat) (h : Qs) (x0 : Nat) : Option (Qs) := cl (cR h x0 4) fun r_1 => cl (cR h x0 0) fun r_2 => cl (cR h x0 2) fun r_3 => cl (kcX2_read F h r_1 r_2 r_3) fun o_4 => some o_4.2
theorem f_X11_init_305 {u : Hp} {F : Nat} {h : Qs} {x0 : Nat}  : tX11_init_305 F (rel u h) (hS u + x0) = (kdX11_init_305 F h x0).map (rm1 u) := by
  simp only [tX11_init_305, kdX11_init_305, e_X2_read, l_I, l_J, l_N, l_R, l_wI, l_wJ, l_wR, l_wR0, l_nC, l_nM, nm_rel, nm_hS, l_onr, m_onr, cl_some, m_br, m_gd, m_nm, m_cl, cl_m, mapS, mapN, fcN_eq, fcI_eq, cwIk_eq, cwJk_eq, cwRk_eq, cnCk_eq, cnMk_eq]

def kdX11_init_296 (F : Nat) (h : Qs) (x0 : Nat) : Option (Qs) := cl (cR h x0 0) fun r_1 => cl (kcX9_appendAll F h r_1 2) fun o_2 => kdX11_init_305 F o_2 x0
theorem f_X11_init_296 {u : Hp} {F : Nat} {h : Qs} {x0 : Nat}  : tX11_init_296 F (rel u h) (hS u + x0) = (kdX11_init_296 F h x0).map (rm1 u) := by
  simp only [tX11_init_296, kdX11_init_296, f_X11_init_305, e_X9_appendAll, l_I, l_J, l_N, l_R, l_wI, l_wJ, l_wR, l_wR0, l_nC, l_nM, nm_rel, nm_hS, l_onr, m_onr, cl_some, m_br, m_gd, m_nm, m_cl, cl_m, mapS, mapN, fcN_eq, fcI_eq, cwIk_eq, cwJk_eq, cwRk_eq, cnCk_eq, cnMk_eq]

def kdX11_init_287 (F : Nat) (h : Qs) (x0 : Nat) : Option (Qs) := cl (cR h x0 0) fun r_1 => cl (kcX9_appendAll F h r_1 1) fun o_2 => kdX11_init_296 F o_2 x0
theorem f_X11_init_287 {u : Hp} {F : Nat} {h : Qs} {x0 : Nat}  : tX11_init_287 F (rel u h) (hS u + x0) = (kdX11_init_287 F h x0).map (rm1 u) := by
  simp only [tX11_init_287, kdX11_init_287, f_X11_init_296, e_X9_appendAll, l_I, l_J, l_N, l_R, l_wI, l_wJ, l_wR, l_wR0, l_nC, l_nM, nm_rel, nm_hS, l_onr, m_onr, cl_some, m_br, m_gd, m_nm, m_cl, cl_m, mapS, mapN, fcN_eq, fcI_eq, cwIk_eq, cwJk_eq, cwRk_eq, cnCk_eq, cnMk_eq]

def kdX11_init_278 (F : Nat) (h : Qs) (x0 : Nat) : Option (Qs) := cl (cR h x0 0) fun r_1 => cl (kcX9_appendAll F h r_1 0) fun o_2 => kdX11_init_287 F o_2 x0
theorem f_X11_init_278 {u : Hp} {F : Nat} {h : Qs} {x0 : Nat}  : tX11_init_278 F (rel u h) (hS u + x0) = (kdX11_init_278 F h x0).map (rm1 u) := by
  simp only [tX11_init_278, kdX11_init_278, f_X11_init_287, e_X9_appendAll, l_I, l_J, l_N, l_R, l_wI, l_wJ, l_wR, l_wR0, l_nC, l_nM, nm_rel, nm_hS, l_onr, m_onr, cl_some, m_br, m_gd, m_nm, m_cl, cl_m, mapS, mapN, fcN_eq, fcI_eq, cwIk_eq, cwJk_eq, cwRk_eq, cnCk_eq, cnMk_eq]

def kdX11_init_263 (F : Nat) (k_245 : Qs → Nat → Int32 → Option (Qs)) (h : Qs) (x0 : Nat) (x1 : Int32) (t0 : Nat) (t1 : Int32) (t2 : Nat) : Option (Qs) := gd (inB t1 (cN h t2)) <| cwRk h t2 t1.toNatClampNeg (some t0) fun h_2 => fcI (x1 + (1 : Int32)) fun v_3 => k_245 h_2 x0 v_3
theorem f_X11_init_263 {u : Hp} {F : Nat} {k_245 : Hp → Nat → Int32 → Option (Hp)} {k_245_ : Qs → Nat → Int32 → Option (Qs)} {h : Qs} {x0 : Nat} {x1 : Int32} {t0 : Nat} {t1 : Int32} {t2 : Nat} (hk_245 : ∀ (h : Qs) (x0 : Nat) (x1 : Int32), k_245 (rel u h) (hS u + x0) x1 = (k_245_ h x0 x1).map (rm1 u)) : tX11_init_263 F k_245 (rel u h) (hS u + x0) x1 (hS u + t0) t1 (hS u + t2) = (kdX11_init_263 F k_245_ h x0 x1 t0 t1 t2).map (rm1 u) := by
  simp only [tX11_init_263, kdX11_init_263, hk_245, l_I, l_J, l_N, l_R, l_wI, l_wJ, l_wR, l_wR0, l_nC, l_nM, nm_rel, nm_hS, l_onr, m_onr, cl_some, m_br, m_gd, m_nm, m_cl, cl_m, mapS, mapN, fcN_eq, fcI_eq, cwIk_eq, cwJk_eq, cwRk_eq, cnCk_eq, cnMk_eq]

def kdX11_init_259 (F : Nat) (k_245 : Qs → Nat → Int32 → Option (Qs)) (h : Qs) (x0 : Nat) (x1 : Int32) (t0 : Nat) (t1 : Int32) (t2 : Nat) : Option (Qs) := cl (kcX3_init F h t0) fun o_1 => kdX11_init_263 F k_245 o_1 x0 x1 t0 t1 t2
theorem f_X11_init_259 {u : Hp} {F : Nat} {k_245 : Hp → Nat → Int32 → Option (Hp)} {k_245_ : Qs → Nat → Int32 → Option (Qs)} {h : Qs} {x0 : Nat} {x1 : Int32} {t0 : Nat} {t1 : Int32} {t2 : Nat} (hk_245 : ∀ (h : Qs) (x0 : Nat) (x1 : Int32), k_245 (rel u h) (hS u + x0) x1 = (k_245_ h x0 x1).map (rm1 u)) : tX11_init_259 F k_245 (rel u h) (hS u + x0) x1 (hS u + t0) t1 (hS u + t2) = (kdX11_init_259 F k_245_ h x0 x1 t0 t1 t2).map (rm1 u) := by
  simp only [tX11_init_259, kdX11_init_259, (f_X11_init_263 hk_245), e_X3_init, hk_245, l_I, l_J, l_N, l_R, l_wI, l_wJ, l_wR, l_wR0, l_nC, l_nM, nm_rel, nm_hS, l_onr, m_onr, cl_some, m_br, m_gd, m_nm, m_cl, cl_m, mapS, mapN, fcN_eq, fcI_eq, cwIk_eq, cwJk_eq, cwRk_eq, cnCk_eq, cnMk_eq]

def kdX11_init_245 (F : Nat) : Nat → Qs → Nat → Int32 → Option (Qs)
  | 0, _, _, _ => none
  | f + 1, h, x0, x1 => br ((60 : Int32) ≤ x1) (cl (cR h x0 17) fun r_2 => cl (kcJ7_fill_53178 F h r_2 (- 1 : Int32)) fun o_3 => kdX11_init_278 F o_3 x0) (cl (cR h x0 13) fun r_4 => fcN (cS h) fun a_5 => cnCk h 3 0 11 fun h_6 => kdX11_init_259 F (kdX11_init_245 F f) h_6 x0 x1 a_5 x1 r_4)
theorem f_X11_init_245 {u : Hp} {F : Nat}  : ∀ (f : Nat) (h : Qs) (x0 : Nat) (x1 : Int32), tX11_init_245 F f (rel u h) (hS u + x0) x1 = (kdX11_init_245 F f h x0 x1).map (rm1 u) := by
  intro f
  induction f with
  | zero => intros; rfl
  | succ f ih =>
    intro h x0 x1
    simp only [tX11_init_245, kdX11_init_245, f_X11_init_278, e_J7_fill_53178, (f_X11_init_259 ih), l_I, l_J, l_N, l_R, l_wI, l_wJ, l_wR, l_wR0, l_nC, l_nM, nm_rel, nm_hS, l_onr, m_onr, cl_some, m_br, m_gd, m_nm, m_cl, cl_m, mapS, mapN, fcN_eq, fcI_eq, cwIk_eq, cwJk_eq, cwRk_eq, cnCk_eq, cnMk_eq]

def kdX11_init_240 (F : Nat) (h : Qs) (x0 : Nat) (t0 : Nat) (t1 : Nat) : Option (Qs) := cwRk h t1 17 (some t0) fun h_1 => kdX11_init_245 F F h_1 x0 (0 : Int32)
theorem f_X11_init_240 {u : Hp} {F : Nat} {h : Qs} {x0 : Nat} {t0 : Nat} {t1 : Nat}  : tX11_init_240 F (rel u h) (hS u + x0) (hS u + t0) (hS u + t1) = (kdX11_init_240 F h x0 t0 t1).map (rm1 u) := by
  simp only [tX11_init_240, kdX11_init_240, f_X11_init_245, l_I, l_J, l_N, l_R, l_wI, l_wJ, l_wR, l_wR0, l_nC, l_nM, nm_rel, nm_hS, l_onr, m_onr, cl_some, m_br, m_gd, m_nm, m_cl, cl_m, mapS, mapN, fcN_eq, fcI_eq, cwIk_eq, cwJk_eq, cwRk_eq, cnCk_eq, cnMk_eq]

def kdX11_init_232 (F : Nat) (h : Qs) (x0 : Nat) (t0 : Nat) (t1 : Nat) : Option (Qs) := cwRk h t1 16 (some t0) fun h_1 => fcN (cS h_1) fun a_2 => cnCk h_1 17 (8 : Int32).toNatClampNeg (8 : Int32).toNatClampNeg fun h_3 => kdX11_init_240 F h_3 x0 a_2 x0
theorem f_X11_init_232 {u : Hp} {F : Nat} {h : Qs} {x0 : Nat} {t0 : Nat} {t1 : Nat}  : tX11_init_232 F (rel u h) (hS u + x0) (hS u + t0) (hS u + t1) = (kdX11_init_232 F h x0 t0 t1).map (rm1 u) := by
  simp only [tX11_init_232, kdX11_init_232, f_X11_init_240, l_I, l_J, l_N, l_R, l_wI, l_wJ, l_wR, l_wR0, l_nC, l_nM, nm_rel, nm_hS, l_onr, m_onr, cl_some, m_br, m_gd, m_nm, m_cl, cl_m, mapS, mapN, fcN_eq, fcI_eq, cwIk_eq, cwJk_eq, cwRk_eq, cnCk_eq, cnMk_eq]

def kdX11_init_223 (F : Nat) (h : Qs) (x0 : Nat) (t0 : Nat) (t1 : Nat) : Option (Qs) := cwRk h t1 15 (some t0) fun h_1 => fcN (cS h_1) fun a_2 => cnCk h_1 17 (2408 : Int32).toNatClampNeg (2408 : Int32).toNatClampNeg fun h_3 => kdX11_init_232 F h_3 x0 a_2 x0
theorem f_X11_init_223 {u : Hp} {F : Nat} {h : Qs} {x0 : Nat} {t0 : Nat} {t1 : Nat}  : tX11_init_223 F (rel u h) (hS u + x0) (hS u + t0) (hS u + t1) = (kdX11_init_223 F h x0 t0 t1).map (rm1 u) := by
  simp only [tX11_init_223, kdX11_init_223, f_X11_init_232, l_I, l_J, l_N, l_R, l_wI, l_wJ, l_wR, l_wR0, l_nC, l_nM, nm_rel, nm_hS, l_onr, m_onr, cl_some, m_br, m_gd, m_nm, m_cl, cl_m, mapS, mapN, fcN_eq, fcI_eq, cwIk_eq, cwJk_eq, cwRk_eq, cnCk_eq, cnMk_eq]

def kdX11_init_213 (F : Nat) (h : Qs) (x0 : Nat) (t0 : Nat) (t1 : Nat) : Option (Qs) := cwRk h t1 14 (some t0) fun h_1 => fcN (cS h_1) fun a_2 => cnCk h_1 20 (2408 : Int32).toNatClampNeg (2408 : Int32).toNatClampNeg fun h_3 => kdX11_init_223 F h_3 x0 a_2 x0
theorem f_X11_init_213 {u : Hp} {F : Nat} {h : Qs} {x0 : Nat} {t0 : Nat} {t1 : Nat}  : tX11_init_213 F (rel u h) (hS u + x0) (hS u + t0) (hS u + t1) = (kdX11_init_213 F h x0 t0 t1).map (rm1 u) := by
  simp only [tX11_init_213, kdX11_init_213, f_X11_init_223, l_I, l_J, l_N, l_R, l_wI, l_wJ, l_wR, l_wR0, l_nC, l_nM, nm_rel, nm_hS, l_onr, m_onr, cl_some, m_br, m_gd, m_nm, m_cl, cl_m, mapS, mapN, fcN_eq, fcI_eq, cwIk_eq, cwJk_eq, cwRk_eq, cnCk_eq, cnMk_eq]

def kdX11_init_205 (F : Nat) (h : Qs) (x0 : Nat) (t0 : Nat) (t1 : Nat) : Option (Qs) := cwRk h t1 13 (some t0) fun h_1 => fcN (cS h_1) fun a_2 => cnCk h_1 19 (60 : Int32).toNatClampNeg (60 : Int32).toNatClampNeg fun h_3 => kdX11_init_213 F h_3 x0 a_2 x0
theorem f_X11_init_205 {u : Hp} {F : Nat} {h : Qs} {x0 : Nat} {t0 : Nat} {t1 : Nat}  : tX11_init_205 F (rel u h) (hS u + x0) (hS u + t0) (hS u + t1) = (kdX11_init_205 F h x0 t0 t1).map (rm1 u) := by
  simp only [tX11_init_205, kdX11_init_205, f_X11_init_213, l_I, l_J, l_N, l_R, l_wI, l_wJ, l_wR, l_wR0, l_nC, l_nM, nm_rel, nm_hS, l_onr, m_onr, cl_some, m_br, m_gd, m_nm, m_cl, cl_m, mapS, mapN, fcN_eq, fcI_eq, cwIk_eq, cwJk_eq, cwRk_eq, cnCk_eq, cnMk_eq]

def kdX11_init_196 (F : Nat) (h : Qs) (x0 : Nat) (t0 : Nat) (t1 : Nat) : Option (Qs) := cwRk h t1 12 (some t0) fun h_1 => fcN (cS h_1) fun a_2 => cnCk h_1 20 (60 : Int32).toNatClampNeg (60 : Int32).toNatClampNeg fun h_3 => kdX11_init_205 F h_3 x0 a_2 x0
theorem f_X11_init_196 {u : Hp} {F : Nat} {h : Qs} {x0 : Nat} {t0 : Nat} {t1 : Nat}  : tX11_init_196 F (rel u h) (hS u + x0) (hS u + t0) (hS u + t1) = (kdX11_init_196 F h x0 t0 t1).map (rm1 u) := by
  simp only [tX11_init_196, kdX11_init_196, f_X11_init_205, l_I, l_J, l_N, l_R, l_wI, l_wJ, l_wR, l_wR0, l_nC, l_nM, nm_rel, nm_hS, l_onr, m_onr, cl_some, m_br, m_gd, m_nm, m_cl, cl_m, mapS, mapN, fcN_eq, fcI_eq, cwIk_eq, cwJk_eq, cwRk_eq, cnCk_eq, cnMk_eq]

def kdX11_init_187 (F : Nat) (h : Qs) (x0 : Nat) (t0 : Nat) (t1 : Nat) : Option (Qs) := cwRk h t1 11 (some t0) fun h_1 => fcN (cS h_1) fun a_2 => cnCk h_1 17 (4096 : Int32).toNatClampNeg (4096 : Int32).toNatClampNeg fun h_3 => kdX11_init_196 F h_3 x0 a_2 x0
theorem f_X11_init_187 {u : Hp} {F : Nat} {h : Qs} {x0 : Nat} {t0 : Nat} {t1 : Nat}  : tX11_init_187 F (rel u h) (hS u + x0) (hS u + t0) (hS u + t1) = (kdX11_init_187 F h x0 t0 t1).map (rm1 u) := by
  simp only [tX11_init_187, kdX11_init_187, f_X11_init_196, l_I, l_J, l_N, l_R, l_wI, l_wJ, l_wR, l_wR0, l_nC, l_nM, nm_rel, nm_hS, l_onr, m_onr, cl_some, m_br, m_gd, m_nm, m_cl, cl_m, mapS, mapN, fcN_eq, fcI_eq, cwIk_eq, cwJk_eq, cwRk_eq, cnCk_eq, cnMk_eq]

def kdX11_init_179 (F : Nat) (h : Qs) (x0 : Nat) (t0 : Nat) (t1 : Nat) : Option (Qs) := cl (cR h x0 6) fun r_1 => cl (kcX4_init F h t0 r_1) fun o_2 => kdX11_init_187 F o_2 x0 t0 t1
theorem f_X11_init_179 {u : Hp} {F : Nat} {h : Qs} {x0 : Nat} {t0 : Nat} {t1 : Nat}  : tX11_init_179 F (rel u h) (hS u + x0) (hS u + t0) (hS u + t1) = (kdX11_init_179 F h x0 t0 t1).map (rm1 u) := by
  simp only [tX11_init_179, kdX11_init_179, f_X11_init_187, e_X4_init, l_I, l_J, l_N, l_R, l_wI, l_wJ, l_wR, l_wR0, l_nC, l_nM, nm_rel, nm_hS, l_onr, m_onr, cl_some, m_br, m_gd, m_nm, m_cl, cl_m, mapS, mapN, fcN_eq, fcI_eq, cwIk_eq, cwJk_eq, cwRk_eq, cnCk_eq, cnMk_eq]

def kdX11_init_172 (F : Nat) (h : Qs) (x0 : Nat) (t0 : Nat) (t1 : Nat) : Option (Qs) := cwRk h t1 10 (some t0) fun h_1 => fcN (cS h_1) fun a_2 => cnCk h_1 4 0 17 fun h_3 => kdX11_init_179 F h_3 x0 a_2 x0
theorem f_X11_init_172 {u : Hp} {F : Nat} {h : Qs} {x0 : Nat} {t0 : Nat} {t1 : Nat}  : tX11_init_172 F (rel u h) (hS u + x0) (hS u + t0) (hS u + t1) = (kdX11_init_172 F h x0 t0 t1).map (rm1 u) := by
  simp only [tX11_init_172, kdX11_init_172, f_X11_init_179, l_I, l_J, l_N, l_R, l_wI, l_wJ, l_wR, l_wR0, l_nC, l_nM, nm_rel, nm_hS, l_onr, m_onr, cl_some, m_br, m_gd, m_nm, m_cl, cl_m, mapS, mapN, fcN_eq, fcI_eq, cwIk_eq, cwJk_eq, cwRk_eq, cnCk_eq, cnMk_eq]

def kdX11_init_156 (F : Nat) (h : Qs) (x0 : Nat) (t0 : Nat) (t1 : Nat) : Option (Qs) := cl (cR h x0 2) fun r_1 => cl (cR h x0 5) fun r_2 => cl (cR h x0 6) fun r_3 => cl (kcX0_init F h t0 r_1 r_2 r_3) fun o_4 => kdX11_init_172 F o_4 x0 t0 t1
theorem f_X11_init_156 {u : Hp} {F : Nat} {h : Qs} {x0 : Nat} {t0 : Nat} {t1 : Nat}  : tX11_init_156 F (rel u h) (hS u + x0) (hS u + t0) (hS u + t1) = (kdX11_init_156 F h x0 t0 t1).map (rm1 u) := by
  simp only [tX11_init_156, kdX11_init_156, f_X11_init_172, e_X0_init, l_I, l_J, l_N, l_R, l_wI, l_wJ, l_wR, l_wR0, l_nC, l_nM, nm_rel, nm_hS, l_onr, m_onr, cl_some, m_br, m_gd, m_nm, m_cl, cl_m, mapS, mapN, fcN_eq, fcI_eq, cwIk_eq, cwJk_eq, cwRk_eq, cnCk_eq, cnMk_eq]

def kdX11_init_149 (F : Nat) (h : Qs) (x0 : Nat) (t0 : Nat) (t1 : Nat) : Option (Qs) := cwRk h t1 9 (some t0) fun h_1 => fcN (cS h_1) fun a_2 => cnCk h_1 0 0 19 fun h_3 => kdX11_init_156 F h_3 x0 a_2 x0
theorem f_X11_init_149 {u : Hp} {F : Nat} {h : Qs} {x0 : Nat} {t0 : Nat} {t1 : Nat}  : tX11_init_149 F (rel u h) (hS u + x0) (hS u + t0) (hS u + t1) = (kdX11_init_149 F h x0 t0 t1).map (rm1 u) := by
  simp only [tX11_init_149, kdX11_init_149, f_X11_init_156, l_I, l_J, l_N, l_R, l_wI, l_wJ, l_wR, l_wR0, l_nC, l_nM, nm_rel, nm_hS, l_onr, m_onr, cl_some, m_br, m_gd, m_nm, m_cl, cl_m, mapS, mapN, fcN_eq, fcI_eq, cwIk_eq, cwJk_eq, cwRk_eq, cnCk_eq, cnMk_eq]

def kdX11_init_133 (F : Nat) (h : Qs) (x0 : Nat) (t0 : Nat) (t1 : Nat) : Option (Qs) := cl (cR h x0 2) fun r_1 => cl (cR h x0 5) fun r_2 => cl (cR h x0 6) fun r_3 => cl (kcX6_init F h t0 r_1 r_2 r_3) fun o_4 => kdX11_init_149 F o_4 x0 t0 t1
theorem f_X11_init_133 {u : Hp} {F : Nat} {h : Qs} {x0 : Nat} {t0 : Nat} {t1 : Nat}  : tX11_init_133 F (rel u h) (hS u + x0) (hS u + t0) (hS u + t1) = (kdX11_init_133 F h x0 t0 t1).map (rm1 u) := by
  simp only [tX11_init_133, kdX11_init_133, f_X11_init_149, e_X6_init, l_I, l_J, l_N, l_R, l_wI, l_wJ, l_wR, l_wR0, l_nC, l_nM, nm_rel, nm_hS, l_onr, m_onr, cl_some, m_br, m_gd, m_nm, m_cl, cl_m, mapS, mapN, fcN_eq, fcI_eq, cwIk_eq, cwJk_eq, cwRk_eq, cnCk_eq, cnMk_eq]

def kdX11_init_126 (F : Nat) (h : Qs) (x0 : Nat) (t0 : Nat) (t1 : Nat) : Option (Qs) := cwRk h t1 8 (some t0) fun h_1 => fcN (cS h_1) fun a_2 => cnCk h_1 6 0 8 fun h_3 => kdX11_init_133 F h_3 x0 a_2 x0
theorem f_X11_init_126 {u : Hp} {F : Nat} {h : Qs} {x0 : Nat} {t0 : Nat} {t1 : Nat}  : tX11_init_126 F (rel u h) (hS u + x0) (hS u + t0) (hS u + t1) = (kdX11_init_126 F h x0 t0 t1).map (rm1 u) := by
  simp only [tX11_init_126, kdX11_init_126, f_X11_init_133, l_I, l_J, l_N, l_R, l_wI, l_wJ, l_wR, l_wR0, l_nC, l_nM, nm_rel, nm_hS, l_onr, m_onr, cl_some, m_br, m_gd, m_nm, m_cl, cl_m, mapS, mapN, fcN_eq, fcI_eq, cwIk_eq, cwJk_eq, cwRk_eq, cnCk_eq, cnMk_eq]

def kdX11_init_114 (F : Nat) (h : Qs) (x0 : Nat) (t0 : Nat) (t1 : Nat) : Option (Qs) := cl (cR h x0 2) fun r_1 => cl (cR h x0 6) fun r_2 => cl (kcX8_init F h t0 r_1 r_2) fun o_3 => kdX11_init_126 F o_3 x0 t0 t1
theorem f_X11_init_114 {u : Hp} {F : Nat} {h : Qs} {x0 : Nat} {t0 : Nat} {t1 : Nat}  : tX11_init_114 F (rel u h) (hS u + x0) (hS u + t0) (hS u + t1) = (kdX11_init_114 F h x0 t0 t1).map (rm1 u) := by
  simp only [tX11_init_114, kdX11_init_114, f_X11_init_126, e_X8_init, l_I, l_J, l_N, l_R, l_wI, l_wJ, l_wR, l_wR0, l_nC, l_nM, nm_rel, nm_hS, l_onr, m_onr, cl_some, m_br, m_gd, m_nm, m_cl, cl_m, mapS, mapN, fcN_eq, fcI_eq, cwIk_eq, cwJk_eq, cwRk_eq, cnCk_eq, cnMk_eq]

def kdX11_init_107 (F : Nat) (h : Qs) (x0 : Nat) (t0 : Nat) (t1 : Nat) : Option (Qs) := cwRk h t1 7 (some t0) fun h_1 => fcN (cS h_1) fun a_2 => cnCk h_1 8 0 4 fun h_3 => kdX11_init_114 F h_3 x0 a_2 x0
theorem f_X11_init_107 {u : Hp} {F : Nat} {h : Qs} {x0 : Nat} {t0 : Nat} {t1 : Nat}  : tX11_init_107 F (rel u h) (hS u + x0) (hS u + t0) (hS u + t1) = (kdX11_init_107 F h x0 t0 t1).map (rm1 u) := by
  simp only [tX11_init_107, kdX11_init_107, f_X11_init_114, l_I, l_J, l_N, l_R, l_wI, l_wJ, l_wR, l_wR0, l_nC, l_nM, nm_rel, nm_hS, l_onr, m_onr, cl_some, m_br, m_gd, m_nm, m_cl, cl_m, mapS, mapN, fcN_eq, fcI_eq, cwIk_eq, cwJk_eq, cwRk_eq, cnCk_eq, cnMk_eq]

def kdX11_init_99 (F : Nat) (h : Qs) (x0 : Nat) (t0 : Nat) (t1 : Nat) : Option (Qs) := cl (cR h x0 2) fun r_1 => cl (kcX7_init h t0 r_1) fun o_2 => kdX11_init_107 F o_2 x0 t0 t1
theorem f_X11_init_99 {u : Hp} {F : Nat} {h : Qs} {x0 : Nat} {t0 : Nat} {t1 : Nat}  : tX11_init_99 F (rel u h) (hS u + x0) (hS u + t0) (hS u + t1) = (kdX11_init_99 F h x0 t0 t1).map (rm1 u) := by
  simp only [tX11_init_99, kdX11_init_99, f_X11_init_107, e_X7_init, l_I, l_J, l_N, l_R, l_wI, l_wJ, l_wR, l_wR0, l_nC, l_nM, nm_rel, nm_hS, l_onr, m_onr, cl_some, m_br, m_gd, m_nm, m_cl, cl_m, mapS, mapN, fcN_eq, fcI_eq, cwIk_eq, cwJk_eq, cwRk_eq, cnCk_eq, cnMk_eq]

def kdX11_init_92 (F : Nat) (h : Qs) (x0 : Nat) (t0 : Nat) (t1 : Nat) : Option (Qs) := cwRk h t1 6 (some t0) fun h_1 => fcN (cS h_1) fun a_2 => cnCk h_1 7 0 3 fun h_3 => kdX11_init_99 F h_3 x0 a_2 x0
theorem f_X11_init_92 {u : Hp} {F : Nat} {h : Qs} {x0 : Nat} {t0 : Nat} {t1 : Nat}  : tX11_init_92 F (rel u h) (hS u + x0) (hS u + t0) (hS u + t1) = (kdX11_init_92 F h x0 t0 t1).map (rm1 u) := by
  simp only [tX11_init_92, kdX11_init_92, f_X11_init_99, l_I, l_J, l_N, l_R, l_wI, l_wJ, l_wR, l_wR0, l_nC, l_nM, nm_rel, nm_hS, l_onr, m_onr, cl_some, m_br, m_gd, m_nm, m_cl, cl_m, mapS, mapN, fcN_eq, fcI_eq, cwIk_eq, cwJk_eq, cwRk_eq, cnCk_eq, cnMk_eq]

def kdX11_init_80 (F : Nat) (h : Qs) (x0 : Nat) (t0 : Nat) (t1 : Nat) : Option (Qs) := cl (cR h x0 2) fun r_1 => cl (cR h x0 5) fun r_2 => cl (kcX5_init F h t0 r_1 r_2) fun o_3 => kdX11_init_92 F o_3 x0 t0 t1
theorem f_X11_init_80 {u : Hp} {F : Nat} {h : Qs} {x0 : Nat} {t0 : Nat} {t1 : Nat}  : tX11_init_80 F (rel u h) (hS u + x0) (hS u + t0) (hS u + t1) = (kdX11_init_80 F h x0 t0 t1).map (rm1 u) := by
  simp only [tX11_init_80, kdX11_init_80, f_X11_init_92, e_X5_init, l_I, l_J, l_N, l_R, l_wI, l_wJ, l_wR, l_wR0, l_nC, l_nM, nm_rel, nm_hS, l_onr, m_onr, cl_some, m_br, m_gd, m_nm, m_cl, cl_m, mapS, mapN, fcN_eq, fcI_eq, cwIk_eq, cwJk_eq, cwRk_eq, cnCk_eq, cnMk_eq]

def kdX11_init_73 (F : Nat) (h : Qs) (x0 : Nat) (t0 : Nat) (t1 : Nat) : Option (Qs) := cwRk h t1 5 (some t0) fun h_1 => fcN (cS h_1) fun a_2 => cnCk h_1 5 0 10 fun h_3 => kdX11_init_80 F h_3 x0 a_2 x0
theorem f_X11_init_73 {u : Hp} {F : Nat} {h : Qs} {x0 : Nat} {t0 : Nat} {t1 : Nat}  : tX11_init_73 F (rel u h) (hS u + x0) (hS u + t0) (hS u + t1) = (kdX11_init_73 F h x0 t0 t1).map (rm1 u) := by
  simp only [tX11_init_73, kdX11_init_73, f_X11_init_80, l_I, l_J, l_N, l_R, l_wI, l_wJ, l_wR, l_wR0, l_nC, l_nM, nm_rel, nm_hS, l_onr, m_onr, cl_some, m_br, m_gd, m_nm, m_cl, cl_m, mapS, mapN, fcN_eq, fcI_eq, cwIk_eq, cwJk_eq, cwRk_eq, cnCk_eq, cnMk_eq]

def kdX11_init_69 (F : Nat) (h : Qs) (x0 : Nat) (t0 : Nat) (t1 : Nat) : Option (Qs) := cl (kcX10_init h t0) fun o_1 => kdX11_init_73 F o_1 x0 t0 t1
theorem f_X11_init_69 {u : Hp} {F : Nat} {h : Qs} {x0 : Nat} {t0 : Nat} {t1 : Nat}  : tX11_init_69 F (rel u h) (hS u + x0) (hS u + t0) (hS u + t1) = (kdX11_init_69 F h x0 t0 t1).map (rm1 u) := by
  simp only [tX11_init_69, kdX11_init_69, f_X11_init_73, e_X10_init, l_I, l_J, l_N, l_R, l_wI, l_wJ, l_wR, l_wR0, l_nC, l_nM, nm_rel, nm_hS, l_onr, m_onr, cl_some, m_br, m_gd, m_nm, m_cl, cl_m, mapS, mapN, fcN_eq, fcI_eq, cwIk_eq, cwJk_eq, cwRk_eq, cnCk_eq, cnMk_eq]

def kdX11_init_62 (F : Nat) (h : Qs) (x0 : Nat) (t0 : Nat) (t1 : Nat) : Option (Qs) := cwRk h t1 4 (some t0) fun h_1 => fcN (cS h_1) fun a_2 => cnCk h_1 10 0 9 fun h_3 => kdX11_init_69 F h_3 x0 a_2 x0
theorem f_X11_init_62 {u : Hp} {F : Nat} {h : Qs} {x0 : Nat} {t0 : Nat} {t1 : Nat}  : tX11_init_62 F (rel u h) (hS u + x0) (hS u + t0) (hS u + t1) = (kdX11_init_62 F h x0 t0 t1).map (rm1 u) := by
  simp only [tX11_init_62, kdX11_init_62, f_X11_init_69, l_I, l_J, l_N, l_R, l_wI, l_wJ, l_wR, l_wR0, l_nC, l_nM, nm_rel, nm_hS, l_onr, m_onr, cl_some, m_br, m_gd, m_nm, m_cl, cl_m, mapS, mapN, fcN_eq, fcI_eq, cwIk_eq, cwJk_eq, cwRk_eq, cnCk_eq, cnMk_eq]

def kdX11_init_58 (F : Nat) (h : Qs) (x0 : Nat) (t0 : Nat) (t1 : Nat) : Option (Qs) := cl (kcX2_init h t0) fun o_1 => kdX11_init_62 F o_1 x0 t0 t1
theorem f_X11_init_58 {u : Hp} {F : Nat} {h : Qs} {x0 : Nat} {t0 : Nat} {t1 : Nat}  : tX11_init_58 F (rel u h) (hS u + x0) (hS u + t0) (hS u + t1) = (kdX11_init_58 F h x0 t0 t1).map (rm1 u) := by
  simp only [tX11_init_58, kdX11_init_58, f_X11_init_62, e_X2_init, l_I, l_J, l_N, l_R, l_wI, l_wJ, l_wR, l_wR0, l_nC, l_nM, nm_rel, nm_hS, l_onr, m_onr, cl_some, m_br, m_gd, m_nm, m_cl, cl_m, mapS, mapN, fcN_eq, fcI_eq, cwIk_eq, cwJk_eq, cwRk_eq, cnCk_eq, cnMk_eq]

def kdX11_init_51 (F : Nat) (h : Qs) (x0 : Nat) (t0 : Nat) (t1 : Nat) : Option (Qs) := cwRk h t1 3 (some t0) fun h_1 => fcN (cS h_1) fun a_2 => cnCk h_1 2 0 7 fun h_3 => kdX11_init_58 F h_3 x0 a_2 x0
theorem f_X11_init_51 {u : Hp} {F : Nat} {h : Qs} {x0 : Nat} {t0 : Nat} {t1 : Nat}  : tX11_init_51 F (rel u h) (hS u + x0) (hS u + t0) (hS u + t1) = (kdX11_init_51 F h x0 t0 t1).map (rm1 u) := by
  simp only [tX11_init_51, kdX11_init_51, f_X11_init_58, l_I, l_J, l_N, l_R, l_wI, l_wJ, l_wR, l_wR0, l_nC, l_nM, nm_rel, nm_hS, l_onr, m_onr, cl_some, m_br, m_gd, m_nm, m_cl, cl_m, mapS, mapN, fcN_eq, fcI_eq, cwIk_eq, cwJk_eq, cwRk_eq, cnCk_eq, cnMk_eq]

def kdX11_init_47 (F : Nat) (h : Qs) (x0 : Nat) (t0 : Nat) (t1 : Nat) : Option (Qs) := cl (kcX1_init h t0) fun o_1 => kdX11_init_51 F o_1 x0 t0 t1
theorem f_X11_init_47 {u : Hp} {F : Nat} {h : Qs} {x0 : Nat} {t0 : Nat} {t1 : Nat}  : tX11_init_47 F (rel u h) (hS u + x0) (hS u + t0) (hS u + t1) = (kdX11_init_47 F h x0 t0 t1).map (rm1 u) := by
  simp only [tX11_init_47, kdX11_init_47, f_X11_init_51, e_X1_init, l_I, l_J, l_N, l_R, l_wI, l_wJ, l_wR, l_wR0, l_nC, l_nM, nm_rel, nm_hS, l_onr, m_onr, cl_some, m_br, m_gd, m_nm, m_cl, cl_m, mapS, mapN, fcN_eq, fcI_eq, cwIk_eq, cwJk_eq, cwRk_eq, cnCk_eq, cnMk_eq]

def kdX11_init_40 (F : Nat) (h : Qs) (x0 : Nat) (t0 : Nat) (t1 : Nat) : Option (Qs) := cwRk h t1 2 (some t0) fun h_1 => fcN (cS h_1) fun a_2 => cnCk h_1 1 0 21 fun h_3 => kdX11_init_47 F h_3 x0 a_2 x0
theorem f_X11_init_40 {u : Hp} {F : Nat} {h : Qs} {x0 : Nat} {t0 : Nat} {t1 : Nat}  : tX11_init_40 F (rel u h) (hS u + x0) (hS u + t0) (hS u + t1) = (kdX11_init_40 F h x0 t0 t1).map (rm1 u) := by
  simp only [tX11_init_40, kdX11_init_40, f_X11_init_47, l_I, l_J, l_N, l_R, l_wI, l_wJ, l_wR, l_wR0, l_nC, l_nM, nm_rel, nm_hS, l_onr, m_onr, cl_some, m_br, m_gd, m_nm, m_cl, cl_m, mapS, mapN, fcN_eq, fcI_eq, cwIk_eq, cwJk_eq, cwRk_eq, cnCk_eq, cnMk_eq]

