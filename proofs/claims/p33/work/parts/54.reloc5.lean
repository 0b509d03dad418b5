def kdX11_init_36 (F : Nat) (h : Qs) (x0 : Nat) (t0 : Nat) (t1 : Nat) : Option (Qs) := cl (kcX1_init h t0) fun o_1 => kdX11_init_40 F o_1 x0 t0 t1
theorem f_X11_init_36 {u : Hp} {F : Nat} {h : Qs} {x0 : Nat} {t0 : Nat} {t1 : Nat}  : tX11_init_36 F (rel u h) (hS u + x0) (hS u + t0) (hS u + t1) = (kdX11_init_36 F h x0 t0 t1).map (rm1 u) := by
  simp only [tX11_init_36, kdX11_init_36, f_X11_init_40, e_X1_init, l_I, l_J, l_N, l_R, l_wI, l_wJ, l_wR, l_wR0, l_nC, l_nM, nm_rel, nm_hS, l_onr, m_onr, cl_some, m_br, m_gd, m_nm, m_cl, cl_m, mapS, mapN, fcN_eq, fcI_eq, cwIk_eq, cwJk_eq, cwRk_eq, cnCk_eq, cnMk_eq]

def kdX11_init_29 (F : Nat) (h : Qs) (x0 : Nat) (t0 : Nat) (t1 : Nat) : Option (Qs) := cwRk h t1 1 (some t0) fun h_1 => fcN (cS h_1) fun a_2 => cnCk h_1 1 0 21 fun h_3 => kdX11_init_36 F h_3 x0 a_2 x0
theorem f_X11_init_29 {u : Hp} {F : Nat} {h : Qs} {x0 : Nat} {t0 : Nat} {t1 : Nat}  : tX11_init_29 F (rel u h) (hS u + x0) (hS u + t0) (hS u + t1) = (kdX11_init_29 F h x0 t0 t1).map (rm1 u) := by
  simp only [tX11_init_29, kdX11_init_29, f_X11_init_36, l_I, l_J, l_N, l_R, l_wI, l_wJ, l_wR, l_wR0, l_nC, l_nM, nm_rel, nm_hS, l_onr, m_onr, cl_some, m_br, m_gd, m_nm, m_cl, cl_m, mapS, mapN, fcN_eq, fcI_eq, cwIk_eq, cwJk_eq, cwRk_eq, cnCk_eq, cnMk_eq]

def kdX11_init_22 (F : Nat) (h : Qs) (x0 : Nat) (t0 : Nat) (t1 : Nat) : Option (Qs) := cl (kcX9_init h t0 (512 : Int32)) fun o_1 => kdX11_init_29 F o_1 x0 t0 t1
theorem f_X11_init_22 {u : Hp} {F : Nat} {h : Qs} {x0 : Nat} {t0 : Nat} {t1 : Nat}  : tX11_init_22 F (rel u h) (hS u + x0) (hS u + t0) (hS u + t1) = (kdX11_init_22 F h x0 t0 t1).map (rm1 u) := by
  simp only [tX11_init_22, kdX11_init_22, f_X11_init_29, e_X9_init, l_I, l_J, l_N, l_R, l_wI, l_wJ, l_wR, l_wR0, l_nC, l_nM, nm_rel, nm_hS, l_onr, m_onr, cl_some, m_br, m_gd, m_nm, m_cl, cl_m, mapS, mapN, fcN_eq, fcI_eq, cwIk_eq, cwJk_eq, cwRk_eq, cnCk_eq, cnMk_eq]

def kdX11_init_15 (F : Nat) (h : Qs) (x0 : Nat) (t0 : Nat) (t1 : Nat) : Option (Qs) := cwRk h t1 0 (some t0) fun h_1 => fcN (cS h_1) fun a_2 => cnCk h_1 9 0 2 fun h_3 => kdX11_init_22 F h_3 x0 a_2 x0
theorem f_X11_init_15 {u : Hp} {F : Nat} {h : Qs} {x0 : Nat} {t0 : Nat} {t1 : Nat}  : tX11_init_15 F (rel u h) (hS u + x0) (hS u + t0) (hS u + t1) = (kdX11_init_15 F h x0 t0 t1).map (rm1 u) := by
  simp only [tX11_init_15, kdX11_init_15, f_X11_init_22, l_I, l_J, l_N, l_R, l_wI, l_wJ, l_wR, l_wR0, l_nC, l_nM, nm_rel, nm_hS, l_onr, m_onr, cl_some, m_br, m_gd, m_nm, m_cl, cl_m, mapS, mapN, fcN_eq, fcI_eq, cwIk_eq, cwJk_eq, cwRk_eq, cnCk_eq, cnMk_eq]

def kdX11_init_8 (F : Nat) (h : Qs) (x0 : Nat) (t0 : Nat) (t1 : Nat) : Option (Qs) := cl (kcX9_init h t0 (1200 : Int32)) fun o_1 => kdX11_init_15 F o_1 x0 t0 t1
theorem f_X11_init_8 {u : Hp} {F : Nat} {h : Qs} {x0 : Nat} {t0 : Nat} {t1 : Nat}  : tX11_init_8 F (rel u h) (hS u + x0) (hS u + t0) (hS u + t1) = (kdX11_init_8 F h x0 t0 t1).map (rm1 u) := by
  simp only [tX11_init_8, kdX11_init_8, f_X11_init_15, e_X9_init, l_I, l_J, l_N, l_R, l_wI, l_wJ, l_wR, l_wR0, l_nC, l_nM, nm_rel, nm_hS, l_onr, m_onr, cl_some, m_br, m_gd, m_nm, m_cl, cl_m, mapS, mapN, fcN_eq, fcI_eq, cwIk_eq, cwJk_eq, cwRk_eq, cnCk_eq, cnMk_eq]

def kdX11_init (F : Nat) (h : Qs) (x0 : Nat) : Option (Qs) := fcN (cS h) fun a_1 => cnCk h 9 0 2 fun h_2 => kdX11_init_8 F h_2 x0 a_1 x0
theorem f_X11_init {u : Hp} {F : Nat} {h : Qs} {x0 : Nat}  : tX11_init F (rel u h) (hS u + x0) = (kdX11_init F h x0).map (rm1 u) := by
  simp only [tX11_init, kdX11_init, f_X11_init_8, l_I, l_J, l_N, l_R, l_wI, l_wJ, l_wR, l_wR0, l_nC, l_nM, nm_rel, nm_hS, l_onr, m_onr, cl_some, m_br, m_gd, m_nm, m_cl, cl_m, mapS, mapN, fcN_eq, fcI_eq, cwIk_eq, cwJk_eq, cwRk_eq, cnCk_eq, cnMk_eq]

