def kcX15_init_129 (F : Nat) (h : Qs) (x0 : Nat) (t0 : Nat) (t1 : Nat) : Option (Qs) := cl (kcX13_init h t0) fun o_1 => kcX15_init_133 F o_1 x0 t0 t1
theorem e_X15_init_129 {u : Hp} {F : Nat} {h : Qs} {x0 : Nat} {t0 : Nat} {t1 : Nat}  : sX15_init_129 F (rel u h) (hS u + x0) (hS u + t0) (hS u + t1) = (kcX15_init_129 F h x0 t0 t1).map (rm1 u) := by
  simp only [sX15_init_129, kcX15_init_129, e_X15_init_133, e_X13_init, l_I, l_J, l_N, l_R, l_wI, l_wJ, l_wR, l_wR0, l_nC, l_nM, nm_rel, nm_hS, l_onr, m_onr, cl_some, m_br, m_gd, m_nm, m_cl, cl_m, mapS, mapN, fcN_eq, fcI_eq, cwIk_eq, cwJk_eq, cwRk_eq, cnCk_eq, cnMk_eq]

def kcX15_init_122 (F : Nat) (h : Qs) (x0 : Nat) (t0 : Nat) (t1 : Nat) : Option (Qs) := cwRk h t1 30 (some t0) fun h_1 => fcN (cS h_1) fun a_2 => cnCk h_1 13 0 8 fun h_3 => kcX15_init_129 F h_3 x0 a_2 x0
theorem e_X15_init_122 {u : Hp} {F : Nat} {h : Qs} {x0 : Nat} {t0 : Nat} {t1 : Nat}  : sX15_init_122 F (rel u h) (hS u + x0) (hS u + t0) (hS u + t1) = (kcX15_init_122 F h x0 t0 t1).map (rm1 u) := by
  simp only [sX15_init_122, kcX15_init_122, e_X15_init_129, l_I, l_J, l_N, l_R, l_wI, l_wJ, l_wR, l_wR0, l_nC, l_nM, nm_rel, nm_hS, l_onr, m_onr, cl_some, m_br, m_gd, m_nm, m_cl, cl_m, mapS, mapN, fcN_eq, fcI_eq, cwIk_eq, cwJk_eq, cwRk_eq, cnCk_eq, cnMk_eq]

def kcX15_init_118 (F : Nat) (h : Qs) (x0 : Nat) (t0 : Nat) (t1 : Nat) : Option (Qs) := cl (kcX13_init h t0) fun o_1 => kcX15_init_122 F o_1 x0 t0 t1
theorem e_X15_init_118 {u : Hp} {F : Nat} {h : Qs} {x0 : Nat} {t0 : Nat} {t1 : Nat}  : sX15_init_118 F (rel u h) (hS u + x0) (hS u + t0) (hS u + t1) = (kcX15_init_118 F h x0 t0 t1).map (rm1 u) := by
  simp only [sX15_init_118, kcX15_init_118, e_X15_init_122, e_X13_init, l_I, l_J, l_N, l_R, l_wI, l_wJ, l_wR, l_wR0, l_nC, l_nM, nm_rel, nm_hS, l_onr, m_onr, cl_some, m_br, m_gd, m_nm, m_cl, cl_m, mapS, mapN, fcN_eq, fcI_eq, cwIk_eq, cwJk_eq, cwRk_eq, cnCk_eq, cnMk_eq]

def kcX15_init_111 (F : Nat) (h : Qs) (x0 : Nat) (t0 : Nat) (t1 : Nat) : Option (Qs) := cwRk h t1 28 (some t0) fun h_1 => fcN (cS h_1) fun a_2 => cnCk h_1 13 0 8 fun h_3 => kcX15_init_118 F h_3 x0 a_2 x0
theorem e_X15_init_111 {u : Hp} {F : Nat} {h : Qs} {x0 : Nat} {t0 : Nat} {t1 : Nat}  : sX15_init_111 F (rel u h) (hS u + x0) (hS u + t0) (hS u + t1) = (kcX15_init_111 F h x0 t0 t1).map (rm1 u) := by
  simp only [sX15_init_111, kcX15_init_111, e_X15_init_118, l_I, l_J, l_N, l_R, l_wI, l_wJ, l_wR, l_wR0, l_nC, l_nM, nm_rel, nm_hS, l_onr, m_onr, cl_some, m_br, m_gd, m_nm, m_cl, cl_m, mapS, mapN, fcN_eq, fcI_eq, cwIk_eq, cwJk_eq, cwRk_eq, cnCk_eq, cnMk_eq]

def kcX15_init_107 (F : Nat) (h : Qs) (x0 : Nat) (t0 : Nat) (t1 : Nat) : Option (Qs) := cl (kcX12_init h t0) fun o_1 => kcX15_init_111 F o_1 x0 t0 t1
theorem e_X15_init_107 {u : Hp} {F : Nat} {h : Qs} {x0 : Nat} {t0 : Nat} {t1 : Nat}  : sX15_init_107 F (rel u h) (hS u + x0) (hS u + t0) (hS u + t1) = (kcX15_init_107 F h x0 t0 t1).map (rm1 u) := by
  simp only [sX15_init_107, kcX15_init_107, e_X15_init_111, e_X12_init, l_I, l_J, l_N, l_R, l_wI, l_wJ, l_wR, l_wR0, l_nC, l_nM, nm_rel, nm_hS, l_onr, m_onr, cl_some, m_br, m_gd, m_nm, m_cl, cl_m, mapS, mapN, fcN_eq, fcI_eq, cwIk_eq, cwJk_eq, cwRk_eq, cnCk_eq, cnMk_eq]

def kcX15_init_100 (F : Nat) (h : Qs) (x0 : Nat) (t0 : Nat) (t1 : Nat) : Option (Qs) := cwRk h t1 27 (some t0) fun h_1 => fcN (cS h_1) fun a_2 => cnCk h_1 12 0 8 fun h_3 => kcX15_init_107 F h_3 x0 a_2 x0
theorem e_X15_init_100 {u : Hp} {F : Nat} {h : Qs} {x0 : Nat} {t0 : Nat} {t1 : Nat}  : sX15_init_100 F (rel u h) (hS u + x0) (hS u + t0) (hS u + t1) = (kcX15_init_100 F h x0 t0 t1).map (rm1 u) := by
  simp only [sX15_init_100, kcX15_init_100, e_X15_init_107, l_I, l_J, l_N, l_R, l_wI, l_wJ, l_wR, l_wR0, l_nC, l_nM, nm_rel, nm_hS, l_onr, m_onr, cl_some, m_br, m_gd, m_nm, m_cl, cl_m, mapS, mapN, fcN_eq, fcI_eq, cwIk_eq, cwJk_eq, cwRk_eq, cnCk_eq, cnMk_eq]

def kcX15_init_92 (F : Nat) (h : Qs) (x0 : Nat) (t0 : Nat) (t1 : Nat) : Option (Qs) := cwRk h t1 26 (some t0) fun h_1 => fcN (cS h_1) fun a_2 => cnCk h_1 19 (64 : Int32).toNatClampNeg (64 : Int32).toNatClampNeg fun h_3 => kcX15_init_100 F h_3 x0 a_2 x0
theorem e_X15_init_92 {u : Hp} {F : Nat} {h : Qs} {x0 : Nat} {t0 : Nat} {t1 : Nat}  : sX15_init_92 F (rel u h) (hS u + x0) (hS u + t0) (hS u + t1) = (kcX15_init_92 F h x0 t0 t1).map (rm1 u) := by
  simp only [sX15_init_92, kcX15_init_92, e_X15_init_100, l_I, l_J, l_N, l_R, l_wI, l_wJ, l_wR, l_wR0, l_nC, l_nM, nm_rel, nm_hS, l_onr, m_onr, cl_some, m_br, m_gd, m_nm, m_cl, cl_m, mapS, mapN, fcN_eq, fcI_eq, cwIk_eq, cwJk_eq, cwRk_eq, cnCk_eq, cnMk_eq]

def kcX15_init_84 (F : Nat) (h : Qs) (x0 : Nat) (t0 : Nat) (t1 : Nat) : Option (Qs) := cwRk h t1 25 (some t0) fun h_1 => fcN (cS h_1) fun a_2 => cnCk h_1 17 (64 : Int32).toNatClampNeg (64 : Int32).toNatClampNeg fun h_3 => kcX15_init_92 F h_3 x0 a_2 x0
theorem e_X15_init_84 {u : Hp} {F : Nat} {h : Qs} {x0 : Nat} {t0 : Nat} {t1 : Nat}  : sX15_init_84 F (rel u h) (hS u + x0) (hS u + t0) (hS u + t1) = (kcX15_init_84 F h x0 t0 t1).map (rm1 u) := by
  simp only [sX15_init_84, kcX15_init_84, e_X15_init_92, l_I, l_J, l_N, l_R, l_wI, l_wJ, l_wR, l_wR0, l_nC, l_nM, nm_rel, nm_hS, l_onr, m_onr, cl_some, m_br, m_gd, m_nm, m_cl, cl_m, mapS, mapN, fcN_eq, fcI_eq, cwIk_eq, cwJk_eq, cwRk_eq, cnCk_eq, cnMk_eq]

def kcX15_init_76 (F : Nat) (h : Qs) (x0 : Nat) (t0 : Nat) (t1 : Nat) : Option (Qs) := cwRk h t1 22 (some t0) fun h_1 => fcN (cS h_1) fun a_2 => cnCk h_1 17 (64 : Int32).toNatClampNeg (64 : Int32).toNatClampNeg fun h_3 => kcX15_init_84 F h_3 x0 a_2 x0
theorem e_X15_init_76 {u : Hp} {F : Nat} {h : Qs} {x0 : Nat} {t0 : Nat} {t1 : Nat}  : sX15_init_76 F (rel u h) (hS u + x0) (hS u + t0) (hS u + t1) = (kcX15_init_76 F h x0 t0 t1).map (rm1 u) := by
  simp only [sX15_init_76, kcX15_init_76, e_X15_init_84, l_I, l_J, l_N, l_R, l_wI, l_wJ, l_wR, l_wR0, l_nC, l_nM, nm_rel, nm_hS, l_onr, m_onr, cl_some, m_br, m_gd, m_nm, m_cl, cl_m, mapS, mapN, fcN_eq, fcI_eq, cwIk_eq, cwJk_eq, cwRk_eq, cnCk_eq, cnMk_eq]

def kcX15_init_69 (F : Nat) (h : Qs) (x0 : Nat) (t0 : Nat) (t1 : Nat) : Option (Qs) := cwRk h t1 21 (some t0) fun h_1 => fcN (cS h_1) fun a_2 => cnCk h_1 17 (2 : Int32).toNatClampNeg (2 : Int32).toNatClampNeg fun h_3 => kcX15_init_76 F h_3 x0 a_2 x0
theorem e_X15_init_69 {u : Hp} {F : Nat} {h : Qs} {x0 : Nat} {t0 : Nat} {t1 : Nat}  : sX15_init_69 F (rel u h) (hS u + x0) (hS u + t0) (hS u + t1) = (kcX15_init_69 F h x0 t0 t1).map (rm1 u) := by
  simp only [sX15_init_69, kcX15_init_69, e_X15_init_76, l_I, l_J, l_N, l_R, l_wI, l_wJ, l_wR, l_wR0, l_nC, l_nM, nm_rel, nm_hS, l_onr, m_onr, cl_some, m_br, m_gd, m_nm, m_cl, cl_m, mapS, mapN, fcN_eq, fcI_eq, cwIk_eq, cwJk_eq, cwRk_eq, cnCk_eq, cnMk_eq]

def kcX15_init_65 (F : Nat) (h : Qs) (x0 : Nat) (t0 : Nat) (t1 : Nat) : Option (Qs) := cl (kcX12_init h t0) fun o_1 => kcX15_init_69 F o_1 x0 t0 t1
theorem e_X15_init_65 {u : Hp} {F : Nat} {h : Qs} {x0 : Nat} {t0 : Nat} {t1 : Nat}  : sX15_init_65 F (rel u h) (hS u + x0) (hS u + t0) (hS u + t1) = (kcX15_init_65 F h x0 t0 t1).map (rm1 u) := by
  simp only [sX15_init_65, kcX15_init_65, e_X15_init_69, e_X12_init, l_I, l_J, l_N, l_R, l_wI, l_wJ, l_wR, l_wR0, l_nC, l_nM, nm_rel, nm_hS, l_onr, m_onr, cl_some, m_br, m_gd, m_nm, m_cl, cl_m, mapS, mapN, fcN_eq, fcI_eq, cwIk_eq, cwJk_eq, cwRk_eq, cnCk_eq, cnMk_eq]

def kcX15_init_58 (F : Nat) (h : Qs) (x0 : Nat) (t0 : Nat) (t1 : Nat) : Option (Qs) := cwRk h t1 15 (some t0) fun h_1 => fcN (cS h_1) fun a_2 => cnCk h_1 12 0 8 fun h_3 => kcX15_init_65 F h_3 x0 a_2 x0
theorem e_X15_init_58 {u : Hp} {F : Nat} {h : Qs} {x0 : Nat} {t0 : Nat} {t1 : Nat}  : sX15_init_58 F (rel u h) (hS u + x0) (hS u + t0) (hS u + t1) = (kcX15_init_58 F h x0 t0 t1).map (rm1 u) := by
  simp only [sX15_init_58, kcX15_init_58, e_X15_init_65, l_I, l_J, l_N, l_R, l_wI, l_wJ, l_wR, l_wR0, l_nC, l_nM, nm_rel, nm_hS, l_onr, m_onr, cl_some, m_br, m_gd, m_nm, m_cl, cl_m, mapS, mapN, fcN_eq, fcI_eq, cwIk_eq, cwJk_eq, cwRk_eq, cnCk_eq, cnMk_eq]

def kcX15_init_50 (F : Nat) (h : Qs) (x0 : Nat) (t0 : Nat) (t1 : Nat) : Option (Qs) := cwRk h t1 14 (some t0) fun h_1 => fcN (cS h_1) fun a_2 => cnCk h_1 17 (60 : Int32).toNatClampNeg (60 : Int32).toNatClampNeg fun h_3 => kcX15_init_58 F h_3 x0 a_2 x0
theorem e_X15_init_50 {u : Hp} {F : Nat} {h : Qs} {x0 : Nat} {t0 : Nat} {t1 : Nat}  : sX15_init_50 F (rel u h) (hS u + x0) (hS u + t0) (hS u + t1) = (kcX15_init_50 F h x0 t0 t1).map (rm1 u) := by
  simp only [sX15_init_50, kcX15_init_50, e_X15_init_58, l_I, l_J, l_N, l_R, l_wI, l_wJ, l_wR, l_wR0, l_nC, l_nM, nm_rel, nm_hS, l_onr, m_onr, cl_some, m_br, m_gd, m_nm, m_cl, cl_m, mapS, mapN, fcN_eq, fcI_eq, cwIk_eq, cwJk_eq, cwRk_eq, cnCk_eq, cnMk_eq]

def kcX15_init_41 (F : Nat) (h : Qs) (x0 : Nat) (t0 : Nat) (t1 : Nat) : Option (Qs) := cwRk h t1 5 (some t0) fun h_1 => fcN (cS h_1) fun a_2 => cnCk h_1 21 (60 : Int32).toNatClampNeg (60 : Int32).toNatClampNeg fun h_3 => kcX15_init_50 F h_3 x0 a_2 x0
theorem e_X15_init_41 {u : Hp} {F : Nat} {h : Qs} {x0 : Nat} {t0 : Nat} {t1 : Nat}  : sX15_init_41 F (rel u h) (hS u + x0) (hS u + t0) (hS u + t1) = (kcX15_init_41 F h x0 t0 t1).map (rm1 u) := by
  simp only [sX15_init_41, kcX15_init_41, e_X15_init_50, l_I, l_J, l_N, l_R, l_wI, l_wJ, l_wR, l_wR0, l_nC, l_nM, nm_rel, nm_hS, l_onr, m_onr, cl_some, m_br, m_gd, m_nm, m_cl, cl_m, mapS, mapN, fcN_eq, fcI_eq, cwIk_eq, cwJk_eq, cwRk_eq, cnCk_eq, cnMk_eq]

def kcX15_init_37 (F : Nat) (h : Qs) (x0 : Nat) (t0 : Nat) (t1 : Nat) : Option (Qs) := cl (kcX14_init h t0) fun o_1 => kcX15_init_41 F o_1 x0 t0 t1
theorem e_X15_init_37 {u : Hp} {F : Nat} {h : Qs} {x0 : Nat} {t0 : Nat} {t1 : Nat}  : sX15_init_37 F (rel u h) (hS u + x0) (hS u + t0) (hS u + t1) = (kcX15_init_37 F h x0 t0 t1).map (rm1 u) := by
  simp only [sX15_init_37, kcX15_init_37, e_X15_init_41, e_X14_init, l_I, l_J, l_N, l_R, l_wI, l_wJ, l_wR, l_wR0, l_nC, l_nM, nm_rel, nm_hS, l_onr, m_onr, cl_some, m_br, m_gd, m_nm, m_cl, cl_m, mapS, mapN, fcN_eq, fcI_eq, cwIk_eq, cwJk_eq, cwRk_eq, cnCk_eq, cnMk_eq]

def kcX15_init_30 (F : Nat) (h : Qs) (x0 : Nat) (t0 : Nat) (t1 : Nat) : Option (Qs) := cwRk h t1 4 (some t0) fun h_1 => fcN (cS h_1) fun a_2 => cnCk h_1 14 0 24 fun h_3 => kcX15_init_37 F h_3 x0 a_2 x0
theorem e_X15_init_30 {u : Hp} {F : Nat} {h : Qs} {x0 : Nat} {t0 : Nat} {t1 : Nat}  : sX15_init_30 F (rel u h) (hS u + x0) (hS u + t0) (hS u + t1) = (kcX15_init_30 F h x0 t0 t1).map (rm1 u) := by
  simp only [sX15_init_30, kcX15_init_30, e_X15_init_37, l_I, l_J, l_N, l_R, l_wI, l_wJ, l_wR, l_wR0, l_nC, l_nM, nm_rel, nm_hS, l_onr, m_onr, cl_some, m_br, m_gd, m_nm, m_cl, cl_m, mapS, mapN, fcN_eq, fcI_eq, cwIk_eq, cwJk_eq, cwRk_eq, cnCk_eq, cnMk_eq]

def kcX15_init_26 (F : Nat) (h : Qs) (x0 : Nat) (t0 : Nat) (t1 : Nat) : Option (Qs) := cl (kcX14_init h t0) fun o_1 => kcX15_init_30 F o_1 x0 t0 t1
theorem e_X15_init_26 {u : Hp} {F : Nat} {h : Qs} {x0 : Nat} {t0 : Nat} {t1 : Nat}  : sX15_init_26 F (rel u h) (hS u + x0) (hS u + t0) (hS u + t1) = (kcX15_init_26 F h x0 t0 t1).map (rm1 u) := by
  simp only [sX15_init_26, kcX15_init_26, e_X15_init_30, e_X14_init, l_I, l_J, l_N, l_R, l_wI, l_wJ, l_wR, l_wR0, l_nC, l_nM, nm_rel, nm_hS, l_onr, m_onr, cl_some, m_br, m_gd, m_nm, m_cl, cl_m, mapS, mapN, fcN_eq, fcI_eq, cwIk_eq, cwJk_eq, cwRk_eq, cnCk_eq, cnMk_eq]

def kcX15_init_19 (F : Nat) (h : Qs) (x0 : Nat) (t0 : Nat) (t1 : Nat) : Option (Qs) := cwRk h t1 2 (some t0) fun h_1 => fcN (cS h_1) fun a_2 => cnCk h_1 14 0 24 fun h_3 => kcX15_init_26 F h_3 x0 a_2 x0
theorem e_X15_init_19 {u : Hp} {F : Nat} {h : Qs} {x0 : Nat} {t0 : Nat} {t1 : Nat}  : sX15_init_19 F (rel u h) (hS u + x0) (hS u + t0) (hS u + t1) = (kcX15_init_19 F h x0 t0 t1).map (rm1 u) := by
  simp only [sX15_init_19, kcX15_init_19, e_X15_init_26, l_I, l_J, l_N, l_R, l_wI, l_wJ, l_wR, l_wR0, l_nC, l_nM, nm_rel, nm_hS, l_onr, m_onr, cl_some, m_br, m_gd, m_nm, m_cl, cl_m, mapS, mapN, fcN_eq, fcI_eq, cwIk_eq, cwJk_eq, cwRk_eq, cnCk_eq, cnMk_eq]

def kcX15_init_10 (F : Nat) (h : Qs) (x0 : Nat) (t0 : Nat) (t1 : Nat) : Option (Qs) := cwRk h t1 0 (some t0) fun h_1 => fcN (cS h_1) fun a_2 => cnCk h_1 16 (256 : Int32).toNatClampNeg (256 : Int32).toNatClampNeg fun h_3 => kcX15_init_19 F h_3 x0 a_2 x0
theorem e_X15_init_10 {u : Hp} {F : Nat} {h : Qs} {x0 : Nat} {t0 : Nat} {t1 : Nat}  : sX15_init_10 F (rel u h) (hS u + x0) (hS u + t0) (hS u + t1) = (kcX15_init_10 F h x0 t0 t1).map (rm1 u) := by
  simp only [sX15_init_10, kcX15_init_10, e_X15_init_19, l_I, l_J, l_N, l_R, l_wI, l_wJ, l_wR, l_wR0, l_nC, l_nM, nm_rel, nm_hS, l_onr, m_onr, cl_some, m_br, m_gd, m_nm, m_cl, cl_m, mapS, mapN, fcN_eq, fcI_eq, cwIk_eq, cwJk_eq, cwRk_eq, cnCk_eq, cnMk_eq]

def kcX15_init (F : Nat) (h : Qs) (x0 : Nat) : Option (Qs) := fcN (cS h) fun a_1 => cnCk h 16 (1220 : Int32).toNatClampNeg (1220 : Int32).toNatClampNeg fun h_2 => kcX15_init_10 F h_2 x0 a_1 x0
theorem e_X15_init {u : Hp} {F : Nat} {h : Qs} {x0 : Nat}  : sX15_init F (rel u h) (hS u + x0) = (kcX15_init F h x0).map (rm1 u) := by
  simp only [sX15_init, kcX15_init, e_X15_init_10, l_I, l_J, l_N, l_R, l_wI, l_wJ, l_wR, l_wR0, l_nC, l_nM, nm_rel, nm_hS, l_onr, m_onr, cl_some, m_br, m_gd, m_nm, m_cl, cl_m, mapS, mapN, fcN_eq, fcI_eq, cwIk_eq, cwJk_eq, cwRk_eq, cnCk_eq, cnMk_eq]

def kcX15_rules_56 (F : Nat) : Nat → Qs → Nat → Int32 → Option (Int32 × Qs)
  | 0, _, _, _ => none
  | f + 1, h, x0, x2 => br ((8 : Int32) ≤ x2) (cwIk h x0 50 (0 : Int32) fun h_2 => cwIk h_2 x0 44 (0 : Int32) fun h_3 => cwIk h_3 x0 65 (0 : Int32) fun h_4 => cl (cR h_4 x0 4) fun r_5 => some (cI h_4 r_5 2 , h_4)) (cl (cR h x0 39) fun r_6 => gd (inB x2 (cN h r_6)) <| cwIk h r_6 x2.toNatClampNeg (- 1 : Int32) fun h_8 => fcI (x2 + (1 : Int32)) fun v_9 => kcX15_rules_56 F f h_8 x0 v_9)
theorem e_X15_rules_56 {u : Hp} {F : Nat}  : ∀ (f : Nat) (h : Qs) (x0 : Nat) (x2 : Int32), sX15_rules_56 F f (rel u h) (hS u + x0) x2 = (kcX15_rules_56 F f h x0 x2).map (rm2 u) := by
  intro f
  induction f with
  | zero => intros; rfl
  | succ f ih =>
    intro h x0 x2
    simp only [sX15_rules_56, kcX15_rules_56, ih, l_I, l_J, l_N, l_R, l_wI, l_wJ, l_wR, l_wR0, l_nC, l_nM, nm_rel, nm_hS, l_onr, m_onr, cl_some, m_br, m_gd, m_nm, m_cl, cl_m, mapS, mapN, fcN_eq, fcI_eq, cwIk_eq, cwJk_eq, cwRk_eq, cnCk_eq, cnMk_eq]

def kcX15_rules_35 (F : Nat) : Nat → Qs → Nat → Int32 → Option (Int32 × Qs)
  | 0, _, _, _ => none
  | f + 1, h, x0, x2 => br ((60 : Int32) ≤ x2) (kcX15_rules_56 F F h x0 (0 : Int32)) (cl (cR h x0 15) fun r_2 => gd (inB x2 (cN h r_2)) <| cwIk h r_2 x2.toNatClampNeg (0 : Int32) fun h_4 => fcI (x2 + (1 : Int32)) fun v_5 => kcX15_rules_35 F f h_4 x0 v_5)
theorem e_X15_rules_35 {u : Hp} {F : Nat}  : ∀ (f : Nat) (h : Qs) (x0 : Nat) (x2 : Int32), sX15_rules_35 F f (rel u h) (hS u + x0) x2 = (kcX15_rules_35 F f h x0 x2).map (rm2 u) := by
  intro f
  induction f with
  | zero => intros; rfl
  | succ f ih =>
    intro h x0 x2
    simp only [sX15_rules_35, kcX15_rules_35, e_X15_rules_56, ih, l_I, l_J, l_N, l_R, l_wI, l_wJ, l_wR, l_wR0, l_nC, l_nM, nm_rel, nm_hS, l_onr, m_onr, cl_some, m_br, m_gd, m_nm, m_cl, cl_m, mapS, mapN, fcN_eq, fcI_eq, cwIk_eq, cwJk_eq, cwRk_eq, cnCk_eq, cnMk_eq]

def kcX15_rules (F : Nat) (h : Qs) (x0 : Nat) : Option (Int32 × Qs) := fcI (cI h x0 1) fun v_1 => cwIk h x0 1 (0 : Int32) fun h_2 => cl (cR h_2 x0 0) fun r_3 => cl (kcX15_isRules F h_2 x0 r_3 v_1) fun o_4 => br (o_4.1 = 0) (some ((- 1 : Int32) - (cI o_4.2 x0 7) , o_4.2)) (cl (kcX15_take o_4.2 x0) fun o_6 => kcX15_rules_35 F F o_6 x0 (0 : Int32))
theorem e_X15_rules {u : Hp} {F : Nat} {h : Qs} {x0 : Nat}  : sX15_rules F (rel u h) (hS u + x0) = (kcX15_rules F h x0).map (rm2 u) := by
  simp only [sX15_rules, kcX15_rules, e_X15_isRules, e_X15_rules_35, e_X15_take, l_I, l_J, l_N, l_R, l_wI, l_wJ, l_wR, l_wR0, l_nC, l_nM, nm_rel, nm_hS, l_onr, m_onr, cl_some, m_br, m_gd, m_nm, m_cl, cl_m, mapS, mapN, fcN_eq, fcI_eq, cwIk_eq, cwJk_eq, cwRk_eq, cnCk_eq, cnMk_eq]

def kcX15_freePlace_2 (F : Nat) : Nat → Qs → Nat → Int32 → Option (Int32 × Qs)
  | 0, _, _, _ => none
  | f + 1, h, x0, x1 => br ((60 : Int32) ≤ x1) (some ((- 1 : Int32) , h)) (cl (cR h x0 15) fun r_2 => gd (inB x1 (cN h r_2)) <| br ((cI h r_2 x1.toNatClampNeg) = 0) (some (x1 , h)) (fcI (x1 + (1 : Int32)) fun v_5 => kcX15_freePlace_2 F f h x0 v_5))
theorem e_X15_freePlace_2 {u : Hp} {F : Nat}  : ∀ (f : Nat) (h : Qs) (x0 : Nat) (x1 : Int32), sX15_freePlace_2 F f (rel u h) (hS u + x0) x1 = (kcX15_freePlace_2 F f h x0 x1).map (rm2 u) := by
  intro f
  induction f with
  | zero => intros; rfl
  | succ f ih =>
    intro h x0 x1
    simp only [sX15_freePlace_2, kcX15_freePlace_2, ih, l_I, l_J, l_N, l_R, l_wI, l_wJ, l_wR, l_wR0, l_nC, l_nM, nm_rel, nm_hS, l_onr, m_onr, cl_some, m_br, m_gd, m_nm, m_cl, cl_m, mapS, mapN, fcN_eq, fcI_eq, cwIk_eq, cwJk_eq, cwRk_eq, cnCk_eq, cnMk_eq]

def kcX15_freePlace (F : Nat) (h : Qs) (x0 : Nat) : Option (Int32 × Qs) := kcX15_freePlace_2 F F h x0 (0 : Int32)
theorem e_X15_freePlace {u : Hp} {F : Nat} {h : Qs} {x0 : Nat}  : sX15_freePlace F (rel u h) (hS u + x0) = (kcX15_freePlace F h x0).map (rm2 u) := by
  simp only [sX15_freePlace, kcX15_freePlace, e_X15_freePlace_2, l_I, l_J, l_N, l_R, l_wI, l_wJ, l_wR, l_wR0, l_nC, l_nM, nm_rel, nm_hS, l_onr, m_onr, cl_some, m_br, m_gd, m_nm, m_cl, cl_m, mapS, mapN, fcN_eq, fcI_eq, cwIk_eq, cwJk_eq, cwRk_eq, cnCk_eq, cnMk_eq]

def kcX15_look_24 (h : Qs) (t0 : Int32) : Option (Int32 × Qs) := some (t0 , h)
theorem e_X15_look_24 {u : Hp} {h : Qs} {t0 : Int32}  : sX15_look_24 (rel u h) t0 = (kcX15_look_24 h t0).map (rm2 u) := by
  simp only [sX15_look_24, kcX15_look_24, l_I, l_J, l_N, l_R, l_wI, l_wJ, l_wR, l_wR0, l_nC, l_nM, nm_rel, nm_hS, l_onr, m_onr, cl_some, m_br, m_gd, m_nm, m_cl, cl_m, mapS, mapN, fcN_eq, fcI_eq, cwIk_eq, cwJk_eq, cwRk_eq, cnCk_eq, cnMk_eq]

def kcX15_look (h : Qs) (x0 : Nat) : Option (Int32 × Qs) := br ((cI h x0 18) ≤ (cI h x0 19)) (kcX15_look_24 h (- 1 : Int32)) (cl (cR h x0 17) fun r_2 => gd (inB (cI h x0 19) (cN h r_2)) <| kcX15_look_24 h (cI h r_2 (cI h x0 19).toNatClampNeg))
theorem e_X15_look {u : Hp} {h : Qs} {x0 : Nat}  : sX15_look (rel u h) (hS u + x0) = (kcX15_look h x0).map (rm2 u) := by
  simp only [sX15_look, kcX15_look, e_X15_look_24, l_I, l_J, l_N, l_R, l_wI, l_wJ, l_wR, l_wR0, l_nC, l_nM, nm_rel, nm_hS, l_onr, m_onr, cl_some, m_br, m_gd, m_nm, m_cl, cl_m, mapS, mapN, fcN_eq, fcI_eq, cwIk_eq, cwJk_eq, cwRk_eq, cnCk_eq, cnMk_eq]

def kcX15_valueOf (h : Qs) (x0 : Int32) (x1 : Int32) : Option (Int32 × Qs) := some (((1 : Int32) + ((2 : Int32) * x0)) + x1 , h)
theorem e_X15_valueOf {u : Hp} {h : Qs} {x0 : Int32} {x1 : Int32}  : sX15_valueOf (rel u h) x0 x1 = (kcX15_valueOf h x0 x1).map (rm2 u) := by
  simp only [sX15_valueOf, kcX15_valueOf, l_I, l_J, l_N, l_R, l_wI, l_wJ, l_wR, l_wR0, l_nC, l_nM, nm_rel, nm_hS, l_onr, m_onr, cl_some, m_br, m_gd, m_nm, m_cl, cl_m, mapS, mapN, fcN_eq, fcI_eq, cwIk_eq, cwJk_eq, cwRk_eq, cnCk_eq, cnMk_eq]

def kcX15_manLetter_2 (F : Nat) : Nat → Qs → Nat → Int32 → Int32 → Option (Int32 × Qs)
  | 0, _, _, _, _ => none
  | f + 1, h, x0, x1, x2 => cl (cR h x0 4) fun r_1 => br ((cI h r_1 2) ≤ x2) (some ((0 : Int32) , h)) (cl (cR h x0 4) fun r_3 => cl (cR h r_3 3) fun r_4 => gd (inB x2 (cN h r_4)) <| br (x1 = (cI h r_4 x2.toNatClampNeg)) (cl (kcX15_valueOf h x2 (1 : Int32)) fun o_13 => some (o_13.1 , o_13.2)) (cl (cR h x0 4) fun r_7 => cl (cR h r_7 3) fun r_8 => gd (inB x2 (cN h r_8)) <| br (x1 = ((cI h r_8 x2.toNatClampNeg) - (32 : Int32))) (cl (kcX15_valueOf h x2 (0 : Int32)) fun o_12 => some (o_12.1 , o_12.2)) (fcI (x2 + (1 : Int32)) fun v_11 => kcX15_manLetter_2 F f h x0 x1 v_11)))
theorem e_X15_manLetter_2 {u : Hp} {F : Nat}  : ∀ (f : Nat) (h : Qs) (x0 : Nat) (x1 : Int32) (x2 : Int32), sX15_manLetter_2 F f (rel u h) (hS u + x0) x1 x2 = (kcX15_manLetter_2 F f h x0 x1 x2).map (rm2 u) := by
  intro f
  induction f with
  | zero => intros; rfl
  | succ f ih =>
    intro h x0 x1 x2
    simp only [sX15_manLetter_2, kcX15_manLetter_2, e_X15_valueOf, ih, l_I, l_J, l_N, l_R, l_wI, l_wJ, l_wR, l_wR0, l_nC, l_nM, nm_rel, nm_hS, l_onr, m_onr, cl_some, m_br, m_gd, m_nm, m_cl, cl_m, mapS, mapN, fcN_eq, fcI_eq, cwIk_eq, cwJk_eq, cwRk_eq, cnCk_eq, cnMk_eq]

def kcX15_manLetter (F : Nat) (h : Qs) (x0 : Nat) (x1 : Int32) : Option (Int32 × Qs) := kcX15_manLetter_2 F F h x0 x1 (0 : Int32)
theorem e_X15_manLetter {u : Hp} {F : Nat} {h : Qs} {x0 : Nat} {x1 : Int32}  : sX15_manLetter F (rel u h) (hS u + x0) x1 = (kcX15_manLetter F h x0 x1).map (rm2 u) := by
  simp only [sX15_manLetter, kcX15_manLetter, e_X15_manLetter_2, l_I, l_J, l_N, l_R, l_wI, l_wJ, l_wR, l_wR0, l_nC, l_nM, nm_rel, nm_hS, l_onr, m_onr, cl_some, m_br, m_gd, m_nm, m_cl, cl_m, mapS, mapN, fcN_eq, fcI_eq, cwIk_eq, cwJk_eq, cwRk_eq, cnCk_eq, cnMk_eq]

def kcX15_reads (h : Qs) (x0 : Nat) (x1 : Int32) : Option (Int32 × Qs) := cl (kcX15_look h x0) fun o_1 => br (o_1.1 = x1) (cwIk o_1.2 x0 19 ((cI o_1.2 x0 19) + (1 : Int32)) fun h_3 => some ((1 : Int32) , h_3)) (some ((0 : Int32) , o_1.2))
theorem e_X15_reads {u : Hp} {h : Qs} {x0 : Nat} {x1 : Int32}  : sX15_reads (rel u h) (hS u + x0) x1 = (kcX15_reads h x0 x1).map (rm2 u) := by
  simp only [sX15_reads, kcX15_reads, e_X15_look, l_I, l_J, l_N, l_R, l_wI, l_wJ, l_wR, l_wR0, l_nC, l_nM, nm_rel, nm_hS, l_onr, m_onr, cl_some, m_br, m_gd, m_nm, m_cl, cl_m, mapS, mapN, fcN_eq, fcI_eq, cwIk_eq, cwJk_eq, cwRk_eq, cnCk_eq, cnMk_eq]

def kcX15_readMen_130 (F : Nat) (k_7 : Qs → Nat → Nat → Int32 → Option (Int32 × Qs)) (h : Qs) (x0 : Nat) (x1 : Nat) (x2 : Int32) : Option (Int32 × Qs) := fcI (x2 + (- 1 : Int32)) fun v_1 => k_7 h x0 x1 v_1
theorem e_X15_readMen_130 {u : Hp} {F : Nat} {k_7 : Hp → Nat → Nat → Int32 → Option (Int32 × Hp)} {k_7_ : Qs → Nat → Nat → Int32 → Option (Int32 × Qs)} {h : Qs} {x0 : Nat} {x1 : Nat} {x2 : Int32} (hk_7 : ∀ (h : Qs) (x0 : Nat) (x1 : Nat) (x2 : Int32), k_7 (rel u h) (hS u + x0) (hS u + x1) x2 = (k_7_ h x0 x1 x2).map (rm2 u)) : sX15_readMen_130 F k_7 (rel u h) (hS u + x0) (hS u + x1) x2 = (kcX15_readMen_130 F k_7_ h x0 x1 x2).map (rm2 u) := by
  simp only [sX15_readMen_130, kcX15_readMen_130, hk_7, l_I, l_J, l_N, l_R, l_wI, l_wJ, l_wR, l_wR0, l_nC, l_nM, nm_rel, nm_hS, l_onr, m_onr, cl_some, m_br, m_gd, m_nm, m_cl, cl_m, mapS, mapN, fcN_eq, fcI_eq, cwIk_eq, cwJk_eq, cwRk_eq, cnCk_eq, cnMk_eq]

def kcX15_readMen_100 (F : Nat) (h : Qs) : Option (Int32 × Qs) := some ((0 : Int32) , h)
theorem e_X15_readMen_100 {u : Hp} {F : Nat} {h : Qs}  : sX15_readMen_100 F (rel u h) = (kcX15_readMen_100 F h).map (rm2 u) := by
  simp only [sX15_readMen_100, kcX15_readMen_100, l_I, l_J, l_N, l_R, l_wI, l_wJ, l_wR, l_wR0, l_nC, l_nM, nm_rel, nm_hS, l_onr, m_onr, cl_some, m_br, m_gd, m_nm, m_cl, cl_m, mapS, mapN, fcN_eq, fcI_eq, cwIk_eq, cwJk_eq, cwRk_eq, cnCk_eq, cnMk_eq]

def kcX15_readMen_102 (F : Nat) (k_7 : Qs → Nat → Nat → Int32 → Option (Int32 × Qs)) (k_13 : Qs → Nat → Nat → Int32 → Int32 → Option (Int32 × Qs)) (h : Qs) (x0 : Nat) (x1 : Nat) (x2 : Int32) (x3 : Int32) : Option (Int32 × Qs) := cwIk h x0 19 ((cI h x0 19) + (1 : Int32)) fun h_1 => k_13 h_1 x0 x1 x2 x3
theorem e_X15_readMen_102 {u : Hp} {F : Nat} {k_7 : Hp → Nat → Nat → Int32 → Option (Int32 × Hp)} {k_7_ : Qs → Nat → Nat → Int32 → Option (Int32 × Qs)} {k_13 : Hp → Nat → Nat → Int32 → Int32 → Option (Int32 × Hp)} {k_13_ : Qs → Nat → Nat → Int32 → Int32 → Option (Int32 × Qs)} {h : Qs} {x0 : Nat} {x1 : Nat} {x2 : Int32} {x3 : Int32} (hk_7 : ∀ (h : Qs) (x0 : Nat) (x1 : Nat) (x2 : Int32), k_7 (rel u h) (hS u + x0) (hS u + x1) x2 = (k_7_ h x0 x1 x2).map (rm2 u)) (hk_13 : ∀ (h : Qs) (x0 : Nat) (x1 : Nat) (x2 : Int32) (x3 : Int32), k_13 (rel u h) (hS u + x0) (hS u + x1) x2 x3 = (k_13_ h x0 x1 x2 x3).map (rm2 u)) : sX15_readMen_102 F k_7 k_13 (rel u h) (hS u + x0) (hS u + x1) x2 x3 = (kcX15_readMen_102 F k_7_ k_13_ h x0 x1 x2 x3).map (rm2 u) := by
  simp only [sX15_readMen_102, kcX15_readMen_102, hk_7, hk_13, l_I, l_J, l_N, l_R, l_wI, l_wJ, l_wR, l_wR0, l_nC, l_nM, nm_rel, nm_hS, l_onr, m_onr, cl_some, m_br, m_gd, m_nm, m_cl, cl_m, mapS, mapN, fcN_eq, fcI_eq, cwIk_eq, cwJk_eq, cwRk_eq, cnCk_eq, cnMk_eq]

def kcX15_readMen_13 (F : Nat) (k_7 : Qs → Nat → Nat → Int32 → Option (Int32 × Qs)) : Nat → Qs → Nat → Nat → Int32 → Int32 → Option (Int32 × Qs)
  | 0, _, _, _, _, _ => none
  | f + 1, h, x0, x1, x2, x3 => br ((cI h x0 11) ≤ x3) (br (x2 ≤ 0) (kcX15_readMen_130 F k_7 h x0 x1 x2) (cl (kcX15_reads h x0 (47 : Int32)) fun o_3 => br (o_3.1 = 0) (some ((0 : Int32) , o_3.2)) (kcX15_readMen_130 F k_7 o_3.2 x0 x1 x2))) (cl (kcX15_look h x0) fun o_5 => cl (kcX15_manLetter F o_5.2 x0 o_5.1) fun o_6 => br (o_6.1 ≤ 0) (br (o_5.1 < (49 : Int32)) (kcX15_readMen_100 F o_6.2) (br ((56 : Int32) < o_5.1) (kcX15_readMen_100 F o_6.2) (br ((cI o_6.2 x0 11) < ((x3 + o_5.1) - (48 : Int32))) (kcX15_readMen_100 F o_6.2) (fcI (x3 + (o_5.1 - (48 : Int32))) fun v_11 => kcX15_readMen_102 F k_7 (kcX15_readMen_13 F k_7 f) o_6.2 x0 x1 x2 v_11)))) (cl (cR o_6.2 x1 0) fun r_12 => gd (inB ((x2 * (cI o_6.2 x0 11)) + x3) (cN o_6.2 r_12)) <| cwIk o_6.2 r_12 ((x2 * (cI o_6.2 x0 11)) + x3).toNatClampNeg o_6.1 fun h_14 => fcI (x3 + (1 : Int32)) fun v_15 => kcX15_readMen_102 F k_7 (kcX15_readMen_13 F k_7 f) h_14 x0 x1 x2 v_15))
theorem e_X15_readMen_13 {u : Hp} {F : Nat} {k_7 : Hp → Nat → Nat → Int32 → Option (Int32 × Hp)} {k_7_ : Qs → Nat → Nat → Int32 → Option (Int32 × Qs)} (hk_7 : ∀ (h : Qs) (x0 : Nat) (x1 : Nat) (x2 : Int32), k_7 (rel u h) (hS u + x0) (hS u + x1) x2 = (k_7_ h x0 x1 x2).map (rm2 u)) : ∀ (f : Nat) (h : Qs) (x0 : Nat) (x1 : Nat) (x2 : Int32) (x3 : Int32), sX15_readMen_13 F k_7 f (rel u h) (hS u + x0) (hS u + x1) x2 x3 = (kcX15_readMen_13 F k_7_ f h x0 x1 x2 x3).map (rm2 u) := by
  intro f
  induction f with
  | zero => intros; rfl
  | succ f ih =>
    intro h x0 x1 x2 x3
    simp only [sX15_readMen_13, kcX15_readMen_13, (e_X15_readMen_130 hk_7), e_X15_reads, e_X15_look, e_X15_manLetter, e_X15_readMen_100, (e_X15_readMen_102 hk_7 ih), hk_7, l_I, l_J, l_N, l_R, l_wI, l_wJ, l_wR, l_wR0, l_nC, l_nM, nm_rel, nm_hS, l_onr, m_onr, cl_some, m_br, m_gd, m_nm, m_cl, cl_m, mapS, mapN, fcN_eq, fcI_eq, cwIk_eq, cwJk_eq, cwRk_eq, cnCk_eq, cnMk_eq]

def kcX15_readMen_7 (F : Nat) : Nat → Qs → Nat → Nat → Int32 → Option (Int32 × Qs)
  | 0, _, _, _, _ => none
  | f + 1, h, x0, x1, x2 => br (x2 < 0) (cl (kcX15_reads h x0 (32 : Int32)) fun o_2 => gd (o_2.1 &&& 1 = o_2.1) <| some (o_2.1 , o_2.2)) (kcX15_readMen_13 F (kcX15_readMen_7 F f) F h x0 x1 x2 (0 : Int32))
theorem e_X15_readMen_7 {u : Hp} {F : Nat}  : ∀ (f : Nat) (h : Qs) (x0 : Nat) (x1 : Nat) (x2 : Int32), sX15_readMen_7 F f (rel u h) (hS u + x0) (hS u + x1) x2 = (kcX15_readMen_7 F f h x0 x1 x2).map (rm2 u) := by
  intro f
  induction f with
  | zero => intros; rfl
  | succ f ih =>
    intro h x0 x1 x2
    simp only [sX15_readMen_7, kcX15_readMen_7, e_X15_reads, (e_X15_readMen_13 ih), l_I, l_J, l_N, l_R, l_wI, l_wJ, l_wR, l_wR0, l_nC, l_nM, nm_rel, nm_hS, l_onr, m_onr, cl_some, m_br, m_gd, m_nm, m_cl, cl_m, mapS, mapN, fcN_eq, fcI_eq, cwIk_eq, cwJk_eq, cwRk_eq, cnCk_eq, cnMk_eq]

def kcX15_readMen (F : Nat) (h : Qs) (x0 : Nat) (x1 : Nat) : Option (Int32 × Qs) := fcI ((cI h x0 12) - (1 : Int32)) fun v_1 => kcX15_readMen_7 F F h x0 x1 v_1
theorem e_X15_readMen {u : Hp} {F : Nat} {h : Qs} {x0 : Nat} {x1 : Nat}  : sX15_readMen F (rel u h) (hS u + x0) (hS u + x1) = (kcX15_readMen F h x0 x1).map (rm2 u) := by
  simp only [sX15_readMen, kcX15_readMen, e_X15_readMen_7, l_I, l_J, l_N, l_R, l_wI, l_wJ, l_wR, l_wR0, l_nC, l_nM, nm_rel, nm_hS, l_onr, m_onr, cl_some, m_br, m_gd, m_nm, m_cl, cl_m, mapS, mapN, fcN_eq, fcI_eq, cwIk_eq, cwJk_eq, cwRk_eq, cnCk_eq, cnMk_eq]

def kcX15_isPosition_72 (F : Nat) (h : Qs) (t0 : Int32) : Option (Int32 × Qs) := gd (t0 &&& 1 = t0) <| some (t0 , h)
theorem e_X15_isPosition_72 {u : Hp} {F : Nat} {h : Qs} {t0 : Int32}  : sX15_isPosition_72 F (rel u h) t0 = (kcX15_isPosition_72 F h t0).map (rm2 u) := by
  simp only [sX15_isPosition_72, kcX15_isPosition_72, l_I, l_J, l_N, l_R, l_wI, l_wJ, l_wR, l_wR0, l_nC, l_nM, nm_rel, nm_hS, l_onr, m_onr, cl_some, m_br, m_gd, m_nm, m_cl, cl_m, mapS, mapN, fcN_eq, fcI_eq, cwIk_eq, cwJk_eq, cwRk_eq, cnCk_eq, cnMk_eq]

def kcX15_isPosition_71 (F : Nat) (h : Qs) : Option (Int32 × Qs) := kcX15_isPosition_72 F h (0 : Int32)
theorem e_X15_isPosition_71 {u : Hp} {F : Nat} {h : Qs}  : sX15_isPosition_71 F (rel u h) = (kcX15_isPosition_71 F h).map (rm2 u) := by
  simp only [sX15_isPosition_71, kcX15_isPosition_71, e_X15_isPosition_72, l_I, l_J, l_N, l_R, l_wI, l_wJ, l_wR, l_wR0, l_nC, l_nM, nm_rel, nm_hS, l_onr, m_onr, cl_some, m_br, m_gd, m_nm, m_cl, cl_m, mapS, mapN, fcN_eq, fcI_eq, cwIk_eq, cwJk_eq, cwRk_eq, cnCk_eq, cnMk_eq]

def kcX15_isPosition (F : Nat) (h : Qs) (x0 : Nat) (x1 : Nat) (x2 : Int32) (x3 : Nat) : Option (Int32 × Qs) := cwRk h x0 17 (some x1) fun h_1 => cwIk h_1 x0 18 x2 fun h_2 => cwIk h_2 x0 19 (0 : Int32) fun h_3 => cl (kcX12_clear F h_3 x3) fun o_4 => cl (kcX15_readMen F o_4 x0 x3) fun o_5 => br (o_5.1 = 0) (kcX15_isPosition_71 F o_5.2) (none)
theorem e_X15_isPosition {u : Hp} {F : Nat} {h : Qs} {x0 : Nat} {x1 : Nat} {x2 : Int32} {x3 : Nat}  : sX15_isPosition F (rel u h) (hS u + x0) (hS u + x1) x2 (hS u + x3) = (kcX15_isPosition F h x0 x1 x2 x3).map (rm2 u) := by
  simp only [sX15_isPosition, kcX15_isPosition, e_X12_clear, e_X15_readMen, e_X15_isPosition_71, l_I, l_J, l_N, l_R, l_wI, l_wJ, l_wR, l_wR0, l_nC, l_nM, nm_rel, nm_hS, l_onr, m_onr, cl_some, m_br, m_gd, m_nm, m_cl, cl_m, mapS, mapN, fcN_eq, fcI_eq, cwIk_eq, cwJk_eq, cwRk_eq, cnCk_eq, cnMk_eq]

def kcX15_position_34 (F : Nat) (h : Qs) (x0 : Nat) (t0 : Int32) : Option (Int32 × Qs) := br (t0 = 0) (some ((- 200 : Int32) - (cI h x0 19) , h)) (cl (cR h x0 21) fun r_2 => none)
theorem e_X15_position_34 {u : Hp} {F : Nat} {h : Qs} {x0 : Nat} {t0 : Int32}  : sX15_position_34 F (rel u h) (hS u + x0) t0 = (kcX15_position_34 F h x0 t0).map (rm2 u) := by
  simp only [sX15_position_34, kcX15_position_34, l_I, l_J, l_N, l_R, l_wI, l_wJ, l_wR, l_wR0, l_nC, l_nM, nm_rel, nm_hS, l_onr, m_onr, cl_some, m_br, m_gd, m_nm, m_cl, cl_m, mapS, mapN, fcN_eq, fcI_eq, cwIk_eq, cwJk_eq, cwRk_eq, cnCk_eq, cnMk_eq]

def kcX15_position_14 (F : Nat) (h : Qs) (x0 : Nat) (x1 : Int32) (t0 : Int32) : Option (Int32 × Qs) := br (t0 = (- 1 : Int32)) (some ((- 104 : Int32) , h)) (cl (cR h x0 0) fun r_2 => cl (cR h x0 21) fun r_3 => cl (kcX15_isPosition F h x0 r_2 x1 r_3) fun o_4 => kcX15_position_34 F o_4.2 x0 o_4.1)
theorem e_X15_position_14 {u : Hp} {F : Nat} {h : Qs} {x0 : Nat} {x1 : Int32} {t0 : Int32}  : sX15_position_14 F (rel u h) (hS u + x0) x1 t0 = (kcX15_position_14 F h x0 x1 t0).map (rm2 u) := by
  simp only [sX15_position_14, kcX15_position_14, e_X15_position_34, e_X15_isPosition, l_I, l_J, l_N, l_R, l_wI, l_wJ, l_wR, l_wR0, l_nC, l_nM, nm_rel, nm_hS, l_onr, m_onr, cl_some, m_br, m_gd, m_nm, m_cl, cl_m, mapS, mapN, fcN_eq, fcI_eq, cwIk_eq, cwJk_eq, cwRk_eq, cnCk_eq, cnMk_eq]

def kcX15_position (F : Nat) (h : Qs) (x0 : Nat) : Option (Int32 × Qs) := fcI (cI h x0 1) fun v_1 => cwIk h x0 1 (0 : Int32) fun h_2 => cl (kcX15_freePlace F h_2 x0) fun o_3 => kcX15_position_14 F o_3.2 x0 v_1 o_3.1
theorem e_X15_position {u : Hp} {F : Nat} {h : Qs} {x0 : Nat}  : sX15_position F (rel u h) (hS u + x0) = (kcX15_position F h x0).map (rm2 u) := by
  simp only [sX15_position, kcX15_position, e_X15_position_14, e_X15_freePlace, l_I, l_J, l_N, l_R, l_wI, l_wJ, l_wR, l_wR0, l_nC, l_nM, nm_rel, nm_hS, l_onr, m_onr, cl_some, m_br, m_gd, m_nm, m_cl, cl_m, mapS, mapN, fcN_eq, fcI_eq, cwIk_eq, cwJk_eq, cwRk_eq, cnCk_eq, cnMk_eq]

def kcX15_hasCatches_15 (F : Nat) (k_2 : Qs → Nat → Int32 → Option (Int32 × Qs)) : Nat → Qs → Nat → Int32 → Int32 → Option (Int32 × Qs)
  | 0, _, _, _, _ => none
  | f + 1, h, x0, x1, x2 => cl (cR h x0 4) fun r_1 => cl (cR h r_1 4) fun r_2 => gd (inB x1 (cN h r_2)) <| br ((cI h r_2 x1.toNatClampNeg) ≤ x2) (fcI (x1 + (1 : Int32)) fun v_5 => k_2 h x0 v_5) (cl (cR h x0 4) fun r_6 => cl (cR h r_6 5) fun r_7 => gd (inB (((8 : Int32) * x1) + x2) (cN h r_7)) <| br (((cI h r_7 (((8 : Int32) * x1) + x2).toNatClampNeg) &&& (32 : Int32)) = 0) (fcI (x2 + (1 : Int32)) fun v_10 => kcX15_hasCatches_15 F k_2 f h x0 x1 v_10) (some ((1 : Int32) , h)))
theorem e_X15_hasCatches_15 {u : Hp} {F : Nat} {k_2 : Hp → Nat → Int32 → Option (Int32 × Hp)} {k_2_ : Qs → Nat → Int32 → Option (Int32 × Qs)} (hk_2 : ∀ (h : Qs) (x0 : Nat) (x1 : Int32), k_2 (rel u h) (hS u + x0) x1 = (k_2_ h x0 x1).map (rm2 u)) : ∀ (f : Nat) (h : Qs) (x0 : Nat) (x1 : Int32) (x2 : Int32), sX15_hasCatches_15 F k_2 f (rel u h) (hS u + x0) x1 x2 = (kcX15_hasCatches_15 F k_2_ f h x0 x1 x2).map (rm2 u) := by
  intro f
  induction f with
  | zero => intros; rfl
  | succ f ih =>
    intro h x0 x1 x2
    simp only [sX15_hasCatches_15, kcX15_hasCatches_15, ih, hk_2, l_I, l_J, l_N, l_R, l_wI, l_wJ, l_wR, l_wR0, l_nC, l_nM, nm_rel, nm_hS, l_onr, m_onr, cl_some, m_br, m_gd, m_nm, m_cl, cl_m, mapS, mapN, fcN_eq, fcI_eq, cwIk_eq, cwJk_eq, cwRk_eq, cnCk_eq, cnMk_eq]

def kcX15_hasCatches_2 (F : Nat) : Nat → Qs → Nat → Int32 → Option (Int32 × Qs)
  | 0, _, _, _ => none
  | f + 1, h, x0, x1 => cl (cR h x0 4) fun r_1 => br ((cI h r_1 2) ≤ x1) (some ((0 : Int32) , h)) (kcX15_hasCatches_15 F (kcX15_hasCatches_2 F f) F h x0 x1 (0 : Int32))
theorem e_X15_hasCatches_2 {u : Hp} {F : Nat}  : ∀ (f : Nat) (h : Qs) (x0 : Nat) (x1 : Int32), sX15_hasCatches_2 F f (rel u h) (hS u + x0) x1 = (kcX15_hasCatches_2 F f h x0 x1).map (rm2 u) := by
  intro f
  induction f with
  | zero => intros; rfl
  | succ f ih =>
    intro h x0 x1
    simp only [sX15_hasCatches_2, kcX15_hasCatches_2, (e_X15_hasCatches_15 ih), l_I, l_J, l_N, l_R, l_wI, l_wJ, l_wR, l_wR0, l_nC, l_nM, nm_rel, nm_hS, l_onr, m_onr, cl_some, m_br, m_gd, m_nm, m_cl, cl_m, mapS, mapN, fcN_eq, fcI_eq, cwIk_eq, cwJk_eq, cwRk_eq, cnCk_eq, cnMk_eq]

def kcX15_hasCatches (F : Nat) (h : Qs) (x0 : Nat) : Option (Int32 × Qs) := kcX15_hasCatches_2 F F h x0 (0 : Int32)
theorem e_X15_hasCatches {u : Hp} {F : Nat} {h : Qs} {x0 : Nat}  : sX15_hasCatches F (rel u h) (hS u + x0) = (kcX15_hasCatches F h x0).map (rm2 u) := by
  simp only [sX15_hasCatches, kcX15_hasCatches, e_X15_hasCatches_2, l_I, l_J, l_N, l_R, l_wI, l_wJ, l_wR, l_wR0, l_nC, l_nM, nm_rel, nm_hS, l_onr, m_onr, cl_some, m_br, m_gd, m_nm, m_cl, cl_m, mapS, mapN, fcN_eq, fcI_eq, cwIk_eq, cwJk_eq, cwRk_eq, cnCk_eq, cnMk_eq]

def kcX15_solve_47 (F : Nat) (h : Qs) : Option (Int32 × Qs) := some ((- 103 : Int32) , h)
theorem e_X15_solve_47 {u : Hp} {F : Nat} {h : Qs}  : sX15_solve_47 F (rel u h) = (kcX15_solve_47 F h).map (rm2 u) := by
  simp only [sX15_solve_47, kcX15_solve_47, l_I, l_J, l_N, l_R, l_wI, l_wJ, l_wR, l_wR0, l_nC, l_nM, nm_rel, nm_hS, l_onr, m_onr, cl_some, m_br, m_gd, m_nm, m_cl, cl_m, mapS, mapN, fcN_eq, fcI_eq, cwIk_eq, cwJk_eq, cwRk_eq, cnCk_eq, cnMk_eq]

def kcX15_solve_203 (F : Nat) : Nat → Qs → Nat → Int32 → Int32 → Option (Int32 × Qs)
  | 0, _, _, _, _ => none
  | f + 1, h, x0, x1, x3 => br ((16384 : Int32) ≤ x3) (none) (cl (cR h x0 56) fun r_2 => gd (inB x3 (cN h r_2)) <| cwIk h r_2 x3.toNatClampNeg (0 : Int32) fun h_4 => fcI (x3 + (1 : Int32)) fun v_5 => kcX15_solve_203 F f h_4 x0 x1 v_5)
theorem e_X15_solve_203 {u : Hp} {F : Nat}  : ∀ (f : Nat) (h : Qs) (x0 : Nat) (x1 : Int32) (x3 : Int32), sX15_solve_203 F f (rel u h) (hS u + x0) x1 x3 = (kcX15_solve_203 F f h x0 x1 x3).map (rm2 u) := by
  intro f
  induction f with
  | zero => intros; rfl
  | succ f ih =>
    intro h x0 x1 x3
    simp only [sX15_solve_203, kcX15_solve_203, ih, l_I, l_J, l_N, l_R, l_wI, l_wJ, l_wR, l_wR0, l_nC, l_nM, nm_rel, nm_hS, l_onr, m_onr, cl_some, m_br, m_gd, m_nm, m_cl, cl_m, mapS, mapN, fcN_eq, fcI_eq, cwIk_eq, cwJk_eq, cwRk_eq, cnCk_eq, cnMk_eq]

def kcX15_solve_126 (F : Nat) (h : Qs) (x3 : Int32) : Option (Int32 × Qs) := some ((- 200 : Int32) - x3 , h)
theorem e_X15_solve_126 {u : Hp} {F : Nat} {h : Qs} {x3 : Int32}  : sX15_solve_126 F (rel u h) x3 = (kcX15_solve_126 F h x3).map (rm2 u) := by
  simp only [sX15_solve_126, kcX15_solve_126, l_I, l_J, l_N, l_R, l_wI, l_wJ, l_wR, l_wR0, l_nC, l_nM, nm_rel, nm_hS, l_onr, m_onr, cl_some, m_br, m_gd, m_nm, m_cl, cl_m, mapS, mapN, fcN_eq, fcI_eq, cwIk_eq, cwJk_eq, cwRk_eq, cnCk_eq, cnMk_eq]

def kcX15_solve_109 (F : Nat) (k_54 : Qs → Nat → Int32 → Int32 → Int32 → Option (Int32 × Qs)) (h : Qs) (x0 : Nat) (x1 : Int32) (x2 : Int32) (x3 : Int32) (x4 : Int32) (t0 : Int32) : Option (Int32 × Qs) := br (x4 = 0) (kcX15_solve_126 F h x3) (br (t0 = 0) (br (x3 = (5 : Int32)) (kcX15_solve_126 F h x3) (none)) (kcX15_solve_126 F h x3))
theorem e_X15_solve_109 {u : Hp} {F : Nat} {k_54 : Hp → Nat → Int32 → Int32 → Int32 → Option (Int32 × Hp)} {k_54_ : Qs → Nat → Int32 → Int32 → Int32 → Option (Int32 × Qs)} {h : Qs} {x0 : Nat} {x1 : Int32} {x2 : Int32} {x3 : Int32} {x4 : Int32} {t0 : Int32} (hk_54 : ∀ (h : Qs) (x0 : Nat) (x1 : Int32) (x2 : Int32) (x3 : Int32), k_54 (rel u h) (hS u + x0) x1 x2 x3 = (k_54_ h x0 x1 x2 x3).map (rm2 u)) : sX15_solve_109 F k_54 (rel u h) (hS u + x0) x1 x2 x3 x4 t0 = (kcX15_solve_109 F k_54_ h x0 x1 x2 x3 x4 t0).map (rm2 u) := by
  simp only [sX15_solve_109, kcX15_solve_109, e_X15_solve_126, hk_54, l_I, l_J, l_N, l_R, l_wI, l_wJ, l_wR, l_wR0, l_nC, l_nM, nm_rel, nm_hS, l_onr, m_onr, cl_some, m_br, m_gd, m_nm, m_cl, cl_m, mapS, mapN, fcN_eq, fcI_eq, cwIk_eq, cwJk_eq, cwRk_eq, cnCk_eq, cnMk_eq]

def kcX15_solve_108 (F : Nat) (k_54 : Qs → Nat → Int32 → Int32 → Int32 → Option (Int32 × Qs)) (h : Qs) (x0 : Nat) (x1 : Int32) (x2 : Int32) (x3 : Int32) (x4 : Int32) : Option (Int32 × Qs) := kcX15_solve_109 F k_54 h x0 x1 x2 x3 x4 (0 : Int32)
theorem e_X15_solve_108 {u : Hp} {F : Nat} {k_54 : Hp → Nat → Int32 → Int32 → Int32 → Option (Int32 × Hp)} {k_54_ : Qs → Nat → Int32 → Int32 → Int32 → Option (Int32 × Qs)} {h : Qs} {x0 : Nat} {x1 : Int32} {x2 : Int32} {x3 : Int32} {x4 : Int32} (hk_54 : ∀ (h : Qs) (x0 : Nat) (x1 : Int32) (x2 : Int32) (x3 : Int32), k_54 (rel u h) (hS u + x0) x1 x2 x3 = (k_54_ h x0 x1 x2 x3).map (rm2 u)) : sX15_solve_108 F k_54 (rel u h) (hS u + x0) x1 x2 x3 x4 = (kcX15_solve_108 F k_54_ h x0 x1 x2 x3 x4).map (rm2 u) := by
  simp only [sX15_solve_108, kcX15_solve_108, (e_X15_solve_109 hk_54), hk_54, l_I, l_J, l_N, l_R, l_wI, l_wJ, l_wR, l_wR0, l_nC, l_nM, nm_rel, nm_hS, l_onr, m_onr, cl_some, m_br, m_gd, m_nm, m_cl, cl_m, mapS, mapN, fcN_eq, fcI_eq, cwIk_eq, cwJk_eq, cwRk_eq, cnCk_eq, cnMk_eq]

def kcX15_solve_69 (F : Nat) (k_54 : Qs → Nat → Int32 → Int32 → Int32 → Option (Int32 × Qs)) (h : Qs) (x0 : Nat) (x1 : Int32) (x2 : Int32) (x3 : Int32) (t0 : Int32) : Option (Int32 × Qs) := br (t0 ≤ 0) (kcX15_solve_108 F k_54 h x0 x1 x2 x3 t0) (none)
theorem e_X15_solve_69 {u : Hp} {F : Nat} {k_54 : Hp → Nat → Int32 → Int32 → Int32 → Option (Int32 × Hp)} {k_54_ : Qs → Nat → Int32 → Int32 → Int32 → Option (Int32 × Qs)} {h : Qs} {x0 : Nat} {x1 : Int32} {x2 : Int32} {x3 : Int32} {t0 : Int32} (hk_54 : ∀ (h : Qs) (x0 : Nat) (x1 : Int32) (x2 : Int32) (x3 : Int32), k_54 (rel u h) (hS u + x0) x1 x2 x3 = (k_54_ h x0 x1 x2 x3).map (rm2 u)) : sX15_solve_69 F k_54 (rel u h) (hS u + x0) x1 x2 x3 t0 = (kcX15_solve_69 F k_54_ h x0 x1 x2 x3 t0).map (rm2 u) := by
  simp only [sX15_solve_69, kcX15_solve_69, (e_X15_solve_108 hk_54), hk_54, l_I, l_J, l_N, l_R, l_wI, l_wJ, l_wR, l_wR0, l_nC, l_nM, nm_rel, nm_hS, l_onr, m_onr, cl_some, m_br, m_gd, m_nm, m_cl, cl_m, mapS, mapN, fcN_eq, fcI_eq, cwIk_eq, cwJk_eq, cwRk_eq, cnCk_eq, cnMk_eq]

def kcX15_solve_54 (F : Nat) : Nat → Qs → Nat → Int32 → Int32 → Int32 → Option (Int32 × Qs)
  | 0, _, _, _, _, _ => none
  | f + 1, h, x0, x1, x2, x3 => br (x1 ≤ x3) (br ((2 : Int32) ≤ x1) (cwIk h x0 49 (0 : Int32) fun h_3 => cwJk h_3 x0 59 (0 : Int64) fun h_4 => cwIk h_4 x0 50 (0 : Int32) fun h_5 => kcX15_solve_203 F F h_5 x0 x1 (0 : Int32)) (some ((- 200 : Int32) - x1 , h))) (cl (cR h x0 0) fun r_6 => gd (inB x3 (cN h r_6)) <| cl (kcX15_manLetter F h x0 (cI h r_6 x3.toNatClampNeg)) fun o_8 => kcX15_solve_69 F (kcX15_solve_54 F f) o_8.2 x0 x1 x2 x3 o_8.1)
theorem e_X15_solve_54 {u : Hp} {F : Nat}  : ∀ (f : Nat) (h : Qs) (x0 : Nat) (x1 : Int32) (x2 : Int32) (x3 : Int32), sX15_solve_54 F f (rel u h) (hS u + x0) x1 x2 x3 = (kcX15_solve_54 F f h x0 x1 x2 x3).map (rm2 u) := by
  intro f
  induction f with
  | zero => intros; rfl
  | succ f ih =>
    intro h x0 x1 x2 x3
    simp only [sX15_solve_54, kcX15_solve_54, e_X15_solve_203, (e_X15_solve_69 ih), e_X15_manLetter, l_I, l_J, l_N, l_R, l_wI, l_wJ, l_wR, l_wR0, l_nC, l_nM, nm_rel, nm_hS, l_onr, m_onr, cl_some, m_br, m_gd, m_nm, m_cl, cl_m, mapS, mapN, fcN_eq, fcI_eq, cwIk_eq, cwJk_eq, cwRk_eq, cnCk_eq, cnMk_eq]

def kcX15_solve_44 (F : Nat) (h : Qs) (x0 : Nat) (x1 : Int32) (t0 : Int32) : Option (Int32 × Qs) := br (t0 = 0) (kcX15_solve_54 F F h x0 x1 (0 : Int32) (0 : Int32)) (kcX15_solve_47 F h)
theorem e_X15_solve_44 {u : Hp} {F : Nat} {h : Qs} {x0 : Nat} {x1 : Int32} {t0 : Int32}  : sX15_solve_44 F (rel u h) (hS u + x0) x1 t0 = (kcX15_solve_44 F h x0 x1 t0).map (rm2 u) := by
  simp only [sX15_solve_44, kcX15_solve_44, e_X15_solve_54, e_X15_solve_47, l_I, l_J, l_N, l_R, l_wI, l_wJ, l_wR, l_wR0, l_nC, l_nM, nm_rel, nm_hS, l_onr, m_onr, cl_some, m_br, m_gd, m_nm, m_cl, cl_m, mapS, mapN, fcN_eq, fcI_eq, cwIk_eq, cwJk_eq, cwRk_eq, cnCk_eq, cnMk_eq]

def kcX15_solve (F : Nat) (h : Qs) (x0 : Nat) : Option (Int32 × Qs) := fcI (cI h x0 1) fun v_1 => cwIk h x0 1 (0 : Int32) fun h_2 => cl (cR h_2 x0 4) fun r_3 => br ((cI h_2 r_3 15) = 0) (cl (cR h_2 x0 4) fun r_5 => br ((cI h_2 r_5 18) = 0) (cl (cR h_2 x0 4) fun r_7 => br (0 < (cI h_2 r_7 20)) (kcX15_solve_47 F h_2) (cl (kcX15_hasCatches F h_2 x0) fun o_9 => kcX15_solve_44 F o_9.2 x0 v_1 o_9.1)) (kcX15_solve_47 F h_2)) (kcX15_solve_47 F h_2)
theorem e_X15_solve {u : Hp} {F : Nat} {h : Qs} {x0 : Nat}  : sX15_solve F (rel u h) (hS u + x0) = (kcX15_solve F h x0).map (rm2 u) := by
  simp only [sX15_solve, kcX15_solve, e_X15_solve_47, e_X15_solve_44, e_X15_hasCatches, l_I, l_J, l_N, l_R, l_wI, l_wJ, l_wR, l_wR0, l_nC, l_nM, nm_rel, nm_hS, l_onr, m_onr, cl_some, m_br, m_gd, m_nm, m_cl, cl_m, mapS, mapN, fcN_eq, fcI_eq, cwIk_eq, cwJk_eq, cwRk_eq, cnCk_eq, cnMk_eq]

def kcX5_init_21 (F : Nat) (h : Qs) (x0 : Nat) (x1 : Nat) (x2 : Nat) (t0 : Nat) (t1 : Nat) : Option (Qs) := cwRk h t1 3 (some t0) fun h_1 => cwRk h_1 x0 0 (some x1) fun h_2 => cwRk h_2 x0 1 (some x2) fun h_3 => some h_3
theorem e_X5_init_21 {u : Hp} {F : Nat} {h : Qs} {x0 : Nat} {x1 : Nat} {x2 : Nat} {t0 : Nat} {t1 : Nat}  : sX5_init_21 F (rel u h) (hS u + x0) (hS u + x1) (hS u + x2) (hS u + t0) (hS u + t1) = (kcX5_init_21 F h x0 x1 x2 t0 t1).map (rm1 u) := by
  simp only [sX5_init_21, kcX5_init_21, l_I, l_J, l_N, l_R, l_wI, l_wJ, l_wR, l_wR0, l_nC, l_nM, nm_rel, nm_hS, l_onr, m_onr, cl_some, m_br, m_gd, m_nm, m_cl, cl_m, mapS, mapN, fcN_eq, fcI_eq, cwIk_eq, cwJk_eq, cwRk_eq, cnCk_eq, cnMk_eq]

def kcX5_init_17 (F : Nat) (h : Qs) (x0 : Nat) (x1 : Nat) (x2 : Nat) (t0 : Nat) (t1 : Nat) : Option (Qs) := cl (kcX3_init F h t0) fun o_1 => kcX5_init_21 F o_1 x0 x1 x2 t0 t1
theorem e_X5_init_17 {u : Hp} {F : Nat} {h : Qs} {x0 : Nat} {x1 : Nat} {x2 : Nat} {t0 : Nat} {t1 : Nat}  : sX5_init_17 F (rel u h) (hS u + x0) (hS u + x1) (hS u + x2) (hS u + t0) (hS u + t1) = (kcX5_init_17 F h x0 x1 x2 t0 t1).map (rm1 u) := by
  simp only [sX5_init_17, kcX5_init_17, e_X5_init_21, e_X3_init, l_I, l_J, l_N, l_R, l_wI, l_wJ, l_wR, l_wR0, l_nC, l_nM, nm_rel, nm_hS, l_onr, m_onr, cl_some, m_br, m_gd, m_nm, m_cl, cl_m, mapS, mapN, fcN_eq, fcI_eq, cwIk_eq, cwJk_eq, cwRk_eq, cnCk_eq, cnMk_eq]

def kcX5_init_10 (F : Nat) (h : Qs) (x0 : Nat) (x1 : Nat) (x2 : Nat) (t0 : Nat) (t1 : Nat) : Option (Qs) := cwRk h t1 2 (some t0) fun h_1 => fcN (cS h_1) fun a_2 => cnCk h_1 3 0 11 fun h_3 => kcX5_init_17 F h_3 x0 x1 x2 a_2 x0
theorem e_X5_init_10 {u : Hp} {F : Nat} {h : Qs} {x0 : Nat} {x1 : Nat} {x2 : Nat} {t0 : Nat} {t1 : Nat}  : sX5_init_10 F (rel u h) (hS u + x0) (hS u + x1) (hS u + x2) (hS u + t0) (hS u + t1) = (kcX5_init_10 F h x0 x1 x2 t0 t1).map (rm1 u) := by
  simp only [sX5_init_10, kcX5_init_10, e_X5_init_17, l_I, l_J, l_N, l_R, l_wI, l_wJ, l_wR, l_wR0, l_nC, l_nM, nm_rel, nm_hS, l_onr, m_onr, cl_some, m_br, m_gd, m_nm, m_cl, cl_m, mapS, mapN, fcN_eq, fcI_eq, cwIk_eq, cwJk_eq, cwRk_eq, cnCk_eq, cnMk_eq]

def kcX5_init (F : Nat) (h : Qs) (x0 : Nat) (x1 : Nat) (x2 : Nat) : Option (Qs) := fcN (cS h) fun a_1 => cnCk h 17 (4096 : Int32).toNatClampNeg (4096 : Int32).toNatClampNeg fun h_2 => kcX5_init_10 F h_2 x0 x1 x2 a_1 x0
theorem e_X5_init {u : Hp} {F : Nat} {h : Qs} {x0 : Nat} {x1 : Nat} {x2 : Nat}  : sX5_init F (rel u h) (hS u + x0) (hS u + x1) (hS u + x2) = (kcX5_init F h x0 x1 x2).map (rm1 u) := by
  simp only [sX5_init, kcX5_init, e_X5_init_10, l_I, l_J, l_N, l_R, l_wI, l_wJ, l_wR, l_wR0, l_nC, l_nM, nm_rel, nm_hS, l_onr, m_onr, cl_some, m_br, m_gd, m_nm, m_cl, cl_m, mapS, mapN, fcN_eq, fcI_eq, cwIk_eq, cwJk_eq, cwRk_eq, cnCk_eq, cnMk_eq]

def kcX7_init (h : Qs) (x0 : Nat) (x1 : Nat) : Option (Qs) := cwRk h x0 0 (some x1) fun h_1 => some h_1
theorem e_X7_init {u : Hp} {h : Qs} {x0 : Nat} {x1 : Nat}  : sX7_init (rel u h) (hS u + x0) (hS u + x1) = (kcX7_init h x0 x1).map (rm1 u) := by
  simp only [sX7_init, kcX7_init, l_I, l_J, l_N, l_R, l_wI, l_wJ, l_wR, l_wR0, l_nC, l_nM, nm_rel, nm_hS, l_onr, m_onr, cl_some, m_br, m_gd, m_nm, m_cl, cl_m, mapS, mapN, fcN_eq, fcI_eq, cwIk_eq, cwJk_eq, cwRk_eq, cnCk_eq, cnMk_eq]

def kcX8_init_25 (F : Nat) (h : Qs) (x0 : Nat) (x1 : Nat) (x2 : Nat) (t0 : Nat) (t1 : Nat) : Option (Qs) := cwRk h t1 3 (some t0) fun h_1 => cwRk h_1 x0 0 (some x1) fun h_2 => cwRk h_2 x0 1 (some x2) fun h_3 => some h_3
theorem e_X8_init_25 {u : Hp} {F : Nat} {h : Qs} {x0 : Nat} {x1 : Nat} {x2 : Nat} {t0 : Nat} {t1 : Nat}  : sX8_init_25 F (rel u h) (hS u + x0) (hS u + x1) (hS u + x2) (hS u + t0) (hS u + t1) = (kcX8_init_25 F h x0 x1 x2 t0 t1).map (rm1 u) := by
  simp only [sX8_init_25, kcX8_init_25, l_I, l_J, l_N, l_R, l_wI, l_wJ, l_wR, l_wR0, l_nC, l_nM, nm_rel, nm_hS, l_onr, m_onr, cl_some, m_br, m_gd, m_nm, m_cl, cl_m, mapS, mapN, fcN_eq, fcI_eq, cwIk_eq, cwJk_eq, cwRk_eq, cnCk_eq, cnMk_eq]

def kcX8_init_19 (F : Nat) (h : Qs) (x0 : Nat) (x1 : Nat) (x2 : Nat) (t0 : Nat) (t1 : Nat) : Option (Qs) := cl (kcX9_init h t0 (16 : Int32)) fun o_1 => kcX8_init_25 F o_1 x0 x1 x2 t0 t1
theorem e_X8_init_19 {u : Hp} {F : Nat} {h : Qs} {x0 : Nat} {x1 : Nat} {x2 : Nat} {t0 : Nat} {t1 : Nat}  : sX8_init_19 F (rel u h) (hS u + x0) (hS u + x1) (hS u + x2) (hS u + t0) (hS u + t1) = (kcX8_init_19 F h x0 x1 x2 t0 t1).map (rm1 u) := by
  simp only [sX8_init_19, kcX8_init_19, e_X8_init_25, e_X9_init, l_I, l_J, l_N, l_R, l_wI, l_wJ, l_wR, l_wR0, l_nC, l_nM, nm_rel, nm_hS, l_onr, m_onr, cl_some, m_br, m_gd, m_nm, m_cl, cl_m, mapS, mapN, fcN_eq, fcI_eq, cwIk_eq, cwJk_eq, cwRk_eq, cnCk_eq, cnMk_eq]

def kcX8_init_12 (F : Nat) (h : Qs) (x0 : Nat) (x1 : Nat) (x2 : Nat) (t0 : Nat) (t1 : Nat) : Option (Qs) := cwRk h t1 2 (some t0) fun h_1 => fcN (cS h_1) fun a_2 => cnCk h_1 9 0 2 fun h_3 => kcX8_init_19 F h_3 x0 x1 x2 a_2 x0
theorem e_X8_init_12 {u : Hp} {F : Nat} {h : Qs} {x0 : Nat} {x1 : Nat} {x2 : Nat} {t0 : Nat} {t1 : Nat}  : sX8_init_12 F (rel u h) (hS u + x0) (hS u + x1) (hS u + x2) (hS u + t0) (hS u + t1) = (kcX8_init_12 F h x0 x1 x2 t0 t1).map (rm1 u) := by
  simp only [sX8_init_12, kcX8_init_12, e_X8_init_19, l_I, l_J, l_N, l_R, l_wI, l_wJ, l_wR, l_wR0, l_nC, l_nM, nm_rel, nm_hS, l_onr, m_onr, cl_some, m_br, m_gd, m_nm, m_cl, cl_m, mapS, mapN, fcN_eq, fcI_eq, cwIk_eq, cwJk_eq, cwRk_eq, cnCk_eq, cnMk_eq]

def kcX8_init_8 (F : Nat) (h : Qs) (x0 : Nat) (x1 : Nat) (x2 : Nat) (t0 : Nat) (t1 : Nat) : Option (Qs) := cl (kcX3_init F h t0) fun o_1 => kcX8_init_12 F o_1 x0 x1 x2 t0 t1
theorem e_X8_init_8 {u : Hp} {F : Nat} {h : Qs} {x0 : Nat} {x1 : Nat} {x2 : Nat} {t0 : Nat} {t1 : Nat}  : sX8_init_8 F (rel u h) (hS u + x0) (hS u + x1) (hS u + x2) (hS u + t0) (hS u + t1) = (kcX8_init_8 F h x0 x1 x2 t0 t1).map (rm1 u) := by
  simp only [sX8_init_8, kcX8_init_8, e_X8_init_12, e_X3_init, l_I, l_J, l_N, l_R, l_wI, l_wJ, l_wR, l_wR0, l_nC, l_nM, nm_rel, nm_hS, l_onr, m_onr, cl_some, m_br, m_gd, m_nm, m_cl, cl_m, mapS, mapN, fcN_eq, fcI_eq, cwIk_eq, cwJk_eq, cwRk_eq, cnCk_eq, cnMk_eq]

def kcX8_init (F : Nat) (h : Qs) (x0 : Nat) (x1 : Nat) (x2 : Nat) : Option (Qs) := fcN (cS h) fun a_1 => cnCk h 3 0 11 fun h_2 => kcX8_init_8 F h_2 x0 x1 x2 a_1 x0
theorem e_X8_init {u : Hp} {F : Nat} {h : Qs} {x0 : Nat} {x1 : Nat} {x2 : Nat}  : sX8_init F (rel u h) (hS u + x0) (hS u + x1) (hS u + x2) = (kcX8_init F h x0 x1 x2).map (rm1 u) := by
  simp only [sX8_init, kcX8_init, e_X8_init_8, l_I, l_J, l_N, l_R, l_wI, l_wJ, l_wR, l_wR0, l_nC, l_nM, nm_rel, nm_hS, l_onr, m_onr, cl_some, m_br, m_gd, m_nm, m_cl, cl_m, mapS, mapN, fcN_eq, fcI_eq, cwIk_eq, cwJk_eq, cwRk_eq, cnCk_eq, cnMk_eq]

def kcX6_init_32 (F : Nat) (h : Qs) (x0 : Nat) (x1 : Nat) (x2 : Nat) (x3 : Nat) (t0 : Nat) (t1 : Nat) : Option (Qs) := cwRk h t1 5 (some t0) fun h_1 => cwRk h_1 x0 0 (some x1) fun h_2 => cwRk h_2 x0 1 (some x2) fun h_3 => cwRk h_3 x0 2 (some x3) fun h_4 => some h_4
theorem e_X6_init_32 {u : Hp} {F : Nat} {h : Qs} {x0 : Nat} {x1 : Nat} {x2 : Nat} {x3 : Nat} {t0 : Nat} {t1 : Nat}  : sX6_init_32 F (rel u h) (hS u + x0) (hS u + x1) (hS u + x2) (hS u + x3) (hS u + t0) (hS u + t1) = (kcX6_init_32 F h x0 x1 x2 x3 t0 t1).map (rm1 u) := by
  simp only [sX6_init_32, kcX6_init_32, l_I, l_J, l_N, l_R, l_wI, l_wJ, l_wR, l_wR0, l_nC, l_nM, nm_rel, nm_hS, l_onr, m_onr, cl_some, m_br, m_gd, m_nm, m_cl, cl_m, mapS, mapN, fcN_eq, fcI_eq, cwIk_eq, cwJk_eq, cwRk_eq, cnCk_eq, cnMk_eq]

def kcX6_init_23 (F : Nat) (h : Qs) (x0 : Nat) (x1 : Nat) (x2 : Nat) (x3 : Nat) (t0 : Nat) (t1 : Nat) : Option (Qs) := cwRk h t1 4 (some t0) fun h_1 => fcN (cS h_1) fun a_2 => cnCk h_1 17 (3000 : Int32).toNatClampNeg (3000 : Int32).toNatClampNeg fun h_3 => kcX6_init_32 F h_3 x0 x1 x2 x3 a_2 x0
theorem e_X6_init_23 {u : Hp} {F : Nat} {h : Qs} {x0 : Nat} {x1 : Nat} {x2 : Nat} {x3 : Nat} {t0 : Nat} {t1 : Nat}  : sX6_init_23 F (rel u h) (hS u + x0) (hS u + x1) (hS u + x2) (hS u + x3) (hS u + t0) (hS u + t1) = (kcX6_init_23 F h x0 x1 x2 x3 t0 t1).map (rm1 u) := by
  simp only [sX6_init_23, kcX6_init_23, e_X6_init_32, l_I, l_J, l_N, l_R, l_wI, l_wJ, l_wR, l_wR0, l_nC, l_nM, nm_rel, nm_hS, l_onr, m_onr, cl_some, m_br, m_gd, m_nm, m_cl, cl_m, mapS, mapN, fcN_eq, fcI_eq, cwIk_eq, cwJk_eq, cwRk_eq, cnCk_eq, cnMk_eq]

def kcX6_init_19 (F : Nat) (h : Qs) (x0 : Nat) (x1 : Nat) (x2 : Nat) (x3 : Nat) (t0 : Nat) (t1 : Nat) : Option (Qs) := cl (kcX3_init F h t0) fun o_1 => kcX6_init_23 F o_1 x0 x1 x2 x3 t0 t1
theorem e_X6_init_19 {u : Hp} {F : Nat} {h : Qs} {x0 : Nat} {x1 : Nat} {x2 : Nat} {x3 : Nat} {t0 : Nat} {t1 : Nat}  : sX6_init_19 F (rel u h) (hS u + x0) (hS u + x1) (hS u + x2) (hS u + x3) (hS u + t0) (hS u + t1) = (kcX6_init_19 F h x0 x1 x2 x3 t0 t1).map (rm1 u) := by
  simp only [sX6_init_19, kcX6_init_19, e_X6_init_23, e_X3_init, l_I, l_J, l_N, l_R, l_wI, l_wJ, l_wR, l_wR0, l_nC, l_nM, nm_rel, nm_hS, l_onr, m_onr, cl_some, m_br, m_gd, m_nm, m_cl, cl_m, mapS, mapN, fcN_eq, fcI_eq, cwIk_eq, cwJk_eq, cwRk_eq, cnCk_eq, cnMk_eq]

def kcX6_init_12 (F : Nat) (h : Qs) (x0 : Nat) (x1 : Nat) (x2 : Nat) (x3 : Nat) (t0 : Nat) (t1 : Nat) : Option (Qs) := cwRk h t1 3 (some t0) fun h_1 => fcN (cS h_1) fun a_2 => cnCk h_1 3 0 11 fun h_3 => kcX6_init_19 F h_3 x0 x1 x2 x3 a_2 x0
theorem e_X6_init_12 {u : Hp} {F : Nat} {h : Qs} {x0 : Nat} {x1 : Nat} {x2 : Nat} {x3 : Nat} {t0 : Nat} {t1 : Nat}  : sX6_init_12 F (rel u h) (hS u + x0) (hS u + x1) (hS u + x2) (hS u + x3) (hS u + t0) (hS u + t1) = (kcX6_init_12 F h x0 x1 x2 x3 t0 t1).map (rm1 u) := by
  simp only [sX6_init_12, kcX6_init_12, e_X6_init_19, l_I, l_J, l_N, l_R, l_wI, l_wJ, l_wR, l_wR0, l_nC, l_nM, nm_rel, nm_hS, l_onr, m_onr, cl_some, m_br, m_gd, m_nm, m_cl, cl_m, mapS, mapN, fcN_eq, fcI_eq, cwIk_eq, cwJk_eq, cwRk_eq, cnCk_eq, cnMk_eq]

def kcX6_init_8 (F : Nat) (h : Qs) (x0 : Nat) (x1 : Nat) (x2 : Nat) (x3 : Nat) (t0 : Nat) (t1 : Nat) : Option (Qs) := cl (kcX3_init F h t0) fun o_1 => kcX6_init_12 F o_1 x0 x1 x2 x3 t0 t1
theorem e_X6_init_8 {u : Hp} {F : Nat} {h : Qs} {x0 : Nat} {x1 : Nat} {x2 : Nat} {x3 : Nat} {t0 : Nat} {t1 : Nat}  : sX6_init_8 F (rel u h) (hS u + x0) (hS u + x1) (hS u + x2) (hS u + x3) (hS u + t0) (hS u + t1) = (kcX6_init_8 F h x0 x1 x2 x3 t0 t1).map (rm1 u) := by
  simp only [sX6_init_8, kcX6_init_8, e_X6_init_12, e_X3_init, l_I, l_J, l_N, l_R, l_wI, l_wJ, l_wR, l_wR0, l_nC, l_nM, nm_rel, nm_hS, l_onr, m_onr, cl_some, m_br, m_gd, m_nm, m_cl, cl_m, mapS, mapN, fcN_eq, fcI_eq, cwIk_eq, cwJk_eq, cwRk_eq, cnCk_eq, cnMk_eq]

def kcX6_init (F : Nat) (h : Qs) (x0 : Nat) (x1 : Nat) (x2 : Nat) (x3 : Nat) : Option (Qs) := fcN (cS h) fun a_1 => cnCk h 3 0 11 fun h_2 => kcX6_init_8 F h_2 x0 x1 x2 x3 a_1 x0
theorem e_X6_init {u : Hp} {F : Nat} {h : Qs} {x0 : Nat} {x1 : Nat} {x2 : Nat} {x3 : Nat}  : sX6_init F (rel u h) (hS u + x0) (hS u + x1) (hS u + x2) (hS u + x3) = (kcX6_init F h x0 x1 x2 x3).map (rm1 u) := by
  simp only [sX6_init, kcX6_init, e_X6_init_8, l_I, l_J, l_N, l_R, l_wI, l_wJ, l_wR, l_wR0, l_nC, l_nM, nm_rel, nm_hS, l_onr, m_onr, cl_some, m_br, m_gd, m_nm, m_cl, cl_m, mapS, mapN, fcN_eq, fcI_eq, cwIk_eq, cwJk_eq, cwRk_eq, cnCk_eq, cnMk_eq]

def kcX0_init_66 (F : Nat) (h : Qs) (x0 : Nat) (x1 : Nat) (x2 : Nat) (x3 : Nat) (t0 : Nat) (t1 : Nat) : Option (Qs) := cwRk h t1 13 (some t0) fun h_1 => cwRk h_1 x0 0 (some x1) fun h_2 => cwRk h_2 x0 1 (some x2) fun h_3 => cwRk h_3 x0 2 (some x3) fun h_4 => some h_4
theorem e_X0_init_66 {u : Hp} {F : Nat} {h : Qs} {x0 : Nat} {x1 : Nat} {x2 : Nat} {x3 : Nat} {t0 : Nat} {t1 : Nat}  : sX0_init_66 F (rel u h) (hS u + x0) (hS u + x1) (hS u + x2) (hS u + x3) (hS u + t0) (hS u + t1) = (kcX0_init_66 F h x0 x1 x2 x3 t0 t1).map (rm1 u) := by
  simp only [sX0_init_66, kcX0_init_66, l_I, l_J, l_N, l_R, l_wI, l_wJ, l_wR, l_wR0, l_nC, l_nM, nm_rel, nm_hS, l_onr, m_onr, cl_some, m_br, m_gd, m_nm, m_cl, cl_m, mapS, mapN, fcN_eq, fcI_eq, cwIk_eq, cwJk_eq, cwRk_eq, cnCk_eq, cnMk_eq]

def kcX0_init_59 (F : Nat) (h : Qs) (x0 : Nat) (x1 : Nat) (x2 : Nat) (x3 : Nat) (t0 : Nat) (t1 : Nat) : Option (Qs) := cwRk h t1 12 (some t0) fun h_1 => fcN (cS h_1) fun a_2 => cnCk h_1 17 (0 : Int32).toNatClampNeg (0 : Int32).toNatClampNeg fun h_3 => kcX0_init_66 F h_3 x0 x1 x2 x3 a_2 x0
theorem e_X0_init_59 {u : Hp} {F : Nat} {h : Qs} {x0 : Nat} {x1 : Nat} {x2 : Nat} {x3 : Nat} {t0 : Nat} {t1 : Nat}  : sX0_init_59 F (rel u h) (hS u + x0) (hS u + x1) (hS u + x2) (hS u + x3) (hS u + t0) (hS u + t1) = (kcX0_init_59 F h x0 x1 x2 x3 t0 t1).map (rm1 u) := by
  simp only [sX0_init_59, kcX0_init_59, e_X0_init_66, l_I, l_J, l_N, l_R, l_wI, l_wJ, l_wR, l_wR0, l_nC, l_nM, nm_rel, nm_hS, l_onr, m_onr, cl_some, m_br, m_gd, m_nm, m_cl, cl_m, mapS, mapN, fcN_eq, fcI_eq, cwIk_eq, cwJk_eq, cwRk_eq, cnCk_eq, cnMk_eq]

def kcX0_init_52 (F : Nat) (h : Qs) (x0 : Nat) (x1 : Nat) (x2 : Nat) (x3 : Nat) (t0 : Nat) (t1 : Nat) : Option (Qs) := cwRk h t1 11 (some t0) fun h_1 => fcN (cS h_1) fun a_2 => cnCk h_1 17 (0 : Int32).toNatClampNeg (0 : Int32).toNatClampNeg fun h_3 => kcX0_init_59 F h_3 x0 x1 x2 x3 a_2 x0
theorem e_X0_init_52 {u : Hp} {F : Nat} {h : Qs} {x0 : Nat} {x1 : Nat} {x2 : Nat} {x3 : Nat} {t0 : Nat} {t1 : Nat}  : sX0_init_52 F (rel u h) (hS u + x0) (hS u + x1) (hS u + x2) (hS u + x3) (hS u + t0) (hS u + t1) = (kcX0_init_52 F h x0 x1 x2 x3 t0 t1).map (rm1 u) := by
  simp only [sX0_init_52, kcX0_init_52, e_X0_init_59, l_I, l_J, l_N, l_R, l_wI, l_wJ, l_wR, l_wR0, l_nC, l_nM, nm_rel, nm_hS, l_onr, m_onr, cl_some, m_br, m_gd, m_nm, m_cl, cl_m, mapS, mapN, fcN_eq, fcI_eq, cwIk_eq, cwJk_eq, cwRk_eq, cnCk_eq, cnMk_eq]

def kcX0_init_45 (F : Nat) (h : Qs) (x0 : Nat) (x1 : Nat) (x2 : Nat) (x3 : Nat) (t0 : Nat) (t1 : Nat) : Option (Qs) := cwRk h t1 7 (some t0) fun h_1 => fcN (cS h_1) fun a_2 => cnCk h_1 17 (0 : Int32).toNatClampNeg (0 : Int32).toNatClampNeg fun h_3 => kcX0_init_52 F h_3 x0 x1 x2 x3 a_2 x0
theorem e_X0_init_45 {u : Hp} {F : Nat} {h : Qs} {x0 : Nat} {x1 : Nat} {x2 : Nat} {x3 : Nat} {t0 : Nat} {t1 : Nat}  : sX0_init_45 F (rel u h) (hS u + x0) (hS u + x1) (hS u + x2) (hS u + x3) (hS u + t0) (hS u + t1) = (kcX0_init_45 F h x0 x1 x2 x3 t0 t1).map (rm1 u) := by
  simp only [sX0_init_45, kcX0_init_45, e_X0_init_52, l_I, l_J, l_N, l_R, l_wI, l_wJ, l_wR, l_wR0, l_nC, l_nM, nm_rel, nm_hS, l_onr, m_onr, cl_some, m_br, m_gd, m_nm, m_cl, cl_m, mapS, mapN, fcN_eq, fcI_eq, cwIk_eq, cwJk_eq, cwRk_eq, cnCk_eq, cnMk_eq]

def kcX0_init_38 (F : Nat) (h : Qs) (x0 : Nat) (x1 : Nat) (x2 : Nat) (x3 : Nat) (t0 : Nat) (t1 : Nat) : Option (Qs) := cwRk h t1 6 (some t0) fun h_1 => fcN (cS h_1) fun a_2 => cnCk h_1 17 (5 : Int32).toNatClampNeg (5 : Int32).toNatClampNeg fun h_3 => kcX0_init_45 F h_3 x0 x1 x2 x3 a_2 x0
theorem e_X0_init_38 {u : Hp} {F : Nat} {h : Qs} {x0 : Nat} {x1 : Nat} {x2 : Nat} {x3 : Nat} {t0 : Nat} {t1 : Nat}  : sX0_init_38 F (rel u h) (hS u + x0) (hS u + x1) (hS u + x2) (hS u + x3) (hS u + t0) (hS u + t1) = (kcX0_init_38 F h x0 x1 x2 x3 t0 t1).map (rm1 u) := by
  simp only [sX0_init_38, kcX0_init_38, e_X0_init_45, l_I, l_J, l_N, l_R, l_wI, l_wJ, l_wR, l_wR0, l_nC, l_nM, nm_rel, nm_hS, l_onr, m_onr, cl_some, m_br, m_gd, m_nm, m_cl, cl_m, mapS, mapN, fcN_eq, fcI_eq, cwIk_eq, cwJk_eq, cwRk_eq, cnCk_eq, cnMk_eq]

def kcX0_init_30 (F : Nat) (h : Qs) (x0 : Nat) (x1 : Nat) (x2 : Nat) (x3 : Nat) (t0 : Nat) (t1 : Nat) : Option (Qs) := cwRk h t1 5 (some t0) fun h_1 => fcN (cS h_1) fun a_2 => cnCk h_1 17 (6 : Int32).toNatClampNeg (6 : Int32).toNatClampNeg fun h_3 => kcX0_init_38 F h_3 x0 x1 x2 x3 a_2 x0
theorem e_X0_init_30 {u : Hp} {F : Nat} {h : Qs} {x0 : Nat} {x1 : Nat} {x2 : Nat} {x3 : Nat} {t0 : Nat} {t1 : Nat}  : sX0_init_30 F (rel u h) (hS u + x0) (hS u + x1) (hS u + x2) (hS u + x3) (hS u + t0) (hS u + t1) = (kcX0_init_30 F h x0 x1 x2 x3 t0 t1).map (rm1 u) := by
  simp only [sX0_init_30, kcX0_init_30, e_X0_init_38, l_I, l_J, l_N, l_R, l_wI, l_wJ, l_wR, l_wR0, l_nC, l_nM, nm_rel, nm_hS, l_onr, m_onr, cl_some, m_br, m_gd, m_nm, m_cl, cl_m, mapS, mapN, fcN_eq, fcI_eq, cwIk_eq, cwJk_eq, cwRk_eq, cnCk_eq, cnMk_eq]

def kcX0_init_21 (F : Nat) (h : Qs) (x0 : Nat) (x1 : Nat) (x2 : Nat) (x3 : Nat) (t0 : Nat) (t1 : Nat) : Option (Qs) := cwRk h t1 4 (some t0) fun h_1 => fcN (cS h_1) fun a_2 => cnCk h_1 17 (1025 : Int32).toNatClampNeg (1025 : Int32).toNatClampNeg fun h_3 => kcX0_init_30 F h_3 x0 x1 x2 x3 a_2 x0
theorem e_X0_init_21 {u : Hp} {F : Nat} {h : Qs} {x0 : Nat} {x1 : Nat} {x2 : Nat} {x3 : Nat} {t0 : Nat} {t1 : Nat}  : sX0_init_21 F (rel u h) (hS u + x0) (hS u + x1) (hS u + x2) (hS u + x3) (hS u + t0) (hS u + t1) = (kcX0_init_21 F h x0 x1 x2 x3 t0 t1).map (rm1 u) := by
  simp only [sX0_init_21, kcX0_init_21, e_X0_init_30, l_I, l_J, l_N, l_R, l_wI, l_wJ, l_wR, l_wR0, l_nC, l_nM, nm_rel, nm_hS, l_onr, m_onr, cl_some, m_br, m_gd, m_nm, m_cl, cl_m, mapS, mapN, fcN_eq, fcI_eq, cwIk_eq, cwJk_eq, cwRk_eq, cnCk_eq, cnMk_eq]

def kcX0_init_12 (F : Nat) (h : Qs) (x0 : Nat) (x1 : Nat) (x2 : Nat) (x3 : Nat) (t0 : Nat) (t1 : Nat) : Option (Qs) := cwRk h t1 3 (some t0) fun h_1 => fcN (cS h_1) fun a_2 => cnCk h_1 17 (1024 : Int32).toNatClampNeg (1024 : Int32).toNatClampNeg fun h_3 => kcX0_init_21 F h_3 x0 x1 x2 x3 a_2 x0
theorem e_X0_init_12 {u : Hp} {F : Nat} {h : Qs} {x0 : Nat} {x1 : Nat} {x2 : Nat} {x3 : Nat} {t0 : Nat} {t1 : Nat}  : sX0_init_12 F (rel u h) (hS u + x0) (hS u + x1) (hS u + x2) (hS u + x3) (hS u + t0) (hS u + t1) = (kcX0_init_12 F h x0 x1 x2 x3 t0 t1).map (rm1 u) := by
  simp only [sX0_init_12, kcX0_init_12, e_X0_init_21, l_I, l_J, l_N, l_R, l_wI, l_wJ, l_wR, l_wR0, l_nC, l_nM, nm_rel, nm_hS, l_onr, m_onr, cl_some, m_br, m_gd, m_nm, m_cl, cl_m, mapS, mapN, fcN_eq, fcI_eq, cwIk_eq, cwJk_eq, cwRk_eq, cnCk_eq, cnMk_eq]

def kcX0_init_8 (F : Nat) (h : Qs) (x0 : Nat) (x1 : Nat) (x2 : Nat) (x3 : Nat) (t0 : Nat) (t1 : Nat) : Option (Qs) := cl (kcX3_init F h t0) fun o_1 => kcX0_init_12 F o_1 x0 x1 x2 x3 t0 t1
theorem e_X0_init_8 {u : Hp} {F : Nat} {h : Qs} {x0 : Nat} {x1 : Nat} {x2 : Nat} {x3 : Nat} {t0 : Nat} {t1 : Nat}  : sX0_init_8 F (rel u h) (hS u + x0) (hS u + x1) (hS u + x2) (hS u + x3) (hS u + t0) (hS u + t1) = (kcX0_init_8 F h x0 x1 x2 x3 t0 t1).map (rm1 u) := by
  simp only [sX0_init_8, kcX0_init_8, e_X0_init_12, e_X3_init, l_I, l_J, l_N, l_R, l_wI, l_wJ, l_wR, l_wR0, l_nC, l_nM, nm_rel, nm_hS, l_onr, m_onr, cl_some, m_br, m_gd, m_nm, m_cl, cl_m, mapS, mapN, fcN_eq, fcI_eq, cwIk_eq, cwJk_eq, cwRk_eq, cnCk_eq, cnMk_eq]

