def kcX14_clear (F : Nat) (h : Qs) (x0 : Nat) : Option (Qs) := cwIk h x0 2 (0 : Int32) fun h_1 => cwIk h_1 x0 10 (- 1 : Int32) fun h_2 => cwIk h_2 x0 11 (- 1 : Int32) fun h_3 => cwIk h_3 x0 12 (- 1 : Int32) fun h_4 => kcX14_clear_22 F F h_4 x0 (0 : Int32)
theorem e_X14_clear {u : Hp} {F : Nat} {h : Qs} {x0 : Nat}  : sX14_clear F (rel u h) (hS u + x0) = (kcX14_clear F h x0).map (rm1 u) := by
  simp only [sX14_clear, kcX14_clear, e_X14_clear_22, l_I, l_J, l_N, l_R, l_wI, l_wJ, l_wR, l_wR0, l_nC, l_nM, nm_rel, nm_hS, l_onr, m_onr, cl_some, m_br, m_gd, m_nm, m_cl, cl_m, mapS, mapN, fcN_eq, fcI_eq, cwIk_eq, cwJk_eq, cwRk_eq, cnCk_eq, cnMk_eq]

def kcX14_find_2 (F : Nat) : Nat → Qs → Nat → Int32 → Int32 → Option (Int32 × Qs)
  | 0, _, _, _, _ => none
  | f + 1, h, x0, x1, x2 => br ((cI h x0 2) ≤ x2) (some ((- 1 : Int32) , h)) (cl (cR h x0 3) fun r_2 => gd (inB x2 (cN h r_2)) <| br ((cI h r_2 x2.toNatClampNeg) = x1) (some (x2 , h)) (fcI (x2 + (1 : Int32)) fun v_5 => kcX14_find_2 F f h x0 x1 v_5))
theorem e_X14_find_2 {u : Hp} {F : Nat}  : ∀ (f : Nat) (h : Qs) (x0 : Nat) (x1 : Int32) (x2 : Int32), sX14_find_2 F f (rel u h) (hS u + x0) x1 x2 = (kcX14_find_2 F f h x0 x1 x2).map (rm2 u) := by
  intro f
  induction f with
  | zero => intros; rfl
  | succ f ih =>
    intro h x0 x1 x2
    simp only [sX14_find_2, kcX14_find_2, ih, l_I, l_J, l_N, l_R, l_wI, l_wJ, l_wR, l_wR0, l_nC, l_nM, nm_rel, nm_hS, l_onr, m_onr, cl_some, m_br, m_gd, m_nm, m_cl, cl_m, mapS, mapN, fcN_eq, fcI_eq, cwIk_eq, cwJk_eq, cwRk_eq, cnCk_eq, cnMk_eq]

def kcX14_find (F : Nat) (h : Qs) (x0 : Nat) (x1 : Int32) : Option (Int32 × Qs) := kcX14_find_2 F F h x0 x1 (0 : Int32)
theorem e_X14_find {u : Hp} {F : Nat} {h : Qs} {x0 : Nat} {x1 : Int32}  : sX14_find F (rel u h) (hS u + x0) x1 = (kcX14_find F h x0 x1).map (rm2 u) := by
  simp only [sX14_find, kcX14_find, e_X14_find_2, l_I, l_J, l_N, l_R, l_wI, l_wJ, l_wR, l_wR0, l_nC, l_nM, nm_rel, nm_hS, l_onr, m_onr, cl_some, m_br, m_gd, m_nm, m_cl, cl_m, mapS, mapN, fcN_eq, fcI_eq, cwIk_eq, cwJk_eq, cwRk_eq, cnCk_eq, cnMk_eq]

def kcX14_isBecome_48 (F : Nat) (k_4 : Qs → Nat → Int32 → Int32 → Int32 → Option (Int32 × Qs)) (k_15 : Qs → Nat → Int32 → Int32 → Int32 → Int32 → Option (Int32 × Qs)) (h : Qs) (x0 : Nat) (x1 : Int32) (x3 : Int32) (x4 : Int32) (t0 : Int32) (t1 : Int32) : Option (Int32 × Qs) := fcI (t1 ||| t0) fun v_1 => fcI (x4 + (1 : Int32)) fun v_2 => k_15 h x0 x1 v_1 x3 v_2
theorem e_X14_isBecome_48 {u : Hp} {F : Nat} {k_4 : Hp → Nat → Int32 → Int32 → Int32 → Option (Int32 × Hp)} {k_4_ : Qs → Nat → Int32 → Int32 → Int32 → Option (Int32 × Qs)} {k_15 : Hp → Nat → Int32 → Int32 → Int32 → Int32 → Option (Int32 × Hp)} {k_15_ : Qs → Nat → Int32 → Int32 → Int32 → Int32 → Option (Int32 × Qs)} {h : Qs} {x0 : Nat} {x1 : Int32} {x3 : Int32} {x4 : Int32} {t0 : Int32} {t1 : Int32} (hk_4 : ∀ (h : Qs) (x0 : Nat) (x1 : Int32) (x2 : Int32) (x3 : Int32), k_4 (rel u h) (hS u + x0) x1 x2 x3 = (k_4_ h x0 x1 x2 x3).map (rm2 u)) (hk_15 : ∀ (h : Qs) (x0 : Nat) (x1 : Int32) (x2 : Int32) (x3 : Int32) (x4 : Int32), k_15 (rel u h) (hS u + x0) x1 x2 x3 x4 = (k_15_ h x0 x1 x2 x3 x4).map (rm2 u)) : sX14_isBecome_48 F k_4 k_15 (rel u h) (hS u + x0) x1 x3 x4 t0 t1 = (kcX14_isBecome_48 F k_4_ k_15_ h x0 x1 x3 x4 t0 t1).map (rm2 u) := by
  simp only [sX14_isBecome_48, kcX14_isBecome_48, hk_4, hk_15, l_I, l_J, l_N, l_R, l_wI, l_wJ, l_wR, l_wR0, l_nC, l_nM, nm_rel, nm_hS, l_onr, m_onr, cl_some, m_br, m_gd, m_nm, m_cl, cl_m, mapS, mapN, fcN_eq, fcI_eq, cwIk_eq, cwJk_eq, cwRk_eq, cnCk_eq, cnMk_eq]

def kcX14_isBecome_15 (F : Nat) (k_4 : Qs → Nat → Int32 → Int32 → Int32 → Option (Int32 × Qs)) : Nat → Qs → Nat → Int32 → Int32 → Int32 → Int32 → Option (Int32 × Qs)
  | 0, _, _, _, _, _, _ => none
  | f + 1, h, x0, x1, x2, x3, x4 => cl (cR h x0 14) fun r_1 => gd (inB x3 (cN h r_1)) <| br ((cI h r_1 x3.toNatClampNeg) ≤ x4) (fcI (x3 + (1 : Int32)) fun v_4 => k_4 h x0 x1 x2 v_4) (cl (cR h x0 13) fun r_5 => gd (inB (((6 : Int32) * x3) + x4) (cN h r_5)) <| br ((cI h r_5 (((6 : Int32) * x3) + x4).toNatClampNeg) = x1) (kcX14_isBecome_48 F k_4 (kcX14_isBecome_15 F k_4 f) h x0 x1 x3 x4 (1 : Int32) x2) (kcX14_isBecome_48 F k_4 (kcX14_isBecome_15 F k_4 f) h x0 x1 x3 x4 (0 : Int32) x2))
theorem e_X14_isBecome_15 {u : Hp} {F : Nat} {k_4 : Hp → Nat → Int32 → Int32 → Int32 → Option (Int32 × Hp)} {k_4_ : Qs → Nat → Int32 → Int32 → Int32 → Option (Int32 × Qs)} (hk_4 : ∀ (h : Qs) (x0 : Nat) (x1 : Int32) (x2 : Int32) (x3 : Int32), k_4 (rel u h) (hS u + x0) x1 x2 x3 = (k_4_ h x0 x1 x2 x3).map (rm2 u)) : ∀ (f : Nat) (h : Qs) (x0 : Nat) (x1 : Int32) (x2 : Int32) (x3 : Int32) (x4 : Int32), sX14_isBecome_15 F k_4 f (rel u h) (hS u + x0) x1 x2 x3 x4 = (kcX14_isBecome_15 F k_4_ f h x0 x1 x2 x3 x4).map (rm2 u) := by
  intro f
  induction f with
  | zero => intros; rfl
  | succ f ih =>
    intro h x0 x1 x2 x3 x4
    simp only [sX14_isBecome_15, kcX14_isBecome_15, (e_X14_isBecome_48 hk_4 ih), hk_4, l_I, l_J, l_N, l_R, l_wI, l_wJ, l_wR, l_wR0, l_nC, l_nM, nm_rel, nm_hS, l_onr, m_onr, cl_some, m_br, m_gd, m_nm, m_cl, cl_m, mapS, mapN, fcN_eq, fcI_eq, cwIk_eq, cwJk_eq, cwRk_eq, cnCk_eq, cnMk_eq]

def kcX14_isBecome_4 (F : Nat) : Nat → Qs → Nat → Int32 → Int32 → Int32 → Option (Int32 × Qs)
  | 0, _, _, _, _, _ => none
  | f + 1, h, x0, x1, x2, x3 => br ((cI h x0 2) ≤ x3) (gd (x2 &&& 1 = x2) <| some (x2 , h)) (kcX14_isBecome_15 F (kcX14_isBecome_4 F f) F h x0 x1 x2 x3 (0 : Int32))
theorem e_X14_isBecome_4 {u : Hp} {F : Nat}  : ∀ (f : Nat) (h : Qs) (x0 : Nat) (x1 : Int32) (x2 : Int32) (x3 : Int32), sX14_isBecome_4 F f (rel u h) (hS u + x0) x1 x2 x3 = (kcX14_isBecome_4 F f h x0 x1 x2 x3).map (rm2 u) := by
  intro f
  induction f with
  | zero => intros; rfl
  | succ f ih =>
    intro h x0 x1 x2 x3
    simp only [sX14_isBecome_4, kcX14_isBecome_4, (e_X14_isBecome_15 ih), l_I, l_J, l_N, l_R, l_wI, l_wJ, l_wR, l_wR0, l_nC, l_nM, nm_rel, nm_hS, l_onr, m_onr, cl_some, m_br, m_gd, m_nm, m_cl, cl_m, mapS, mapN, fcN_eq, fcI_eq, cwIk_eq, cwJk_eq, cwRk_eq, cnCk_eq, cnMk_eq]

def kcX14_isBecome (F : Nat) (h : Qs) (x0 : Nat) (x1 : Int32) : Option (Int32 × Qs) := kcX14_isBecome_4 F F h x0 x1 (0 : Int32) (0 : Int32)
theorem e_X14_isBecome {u : Hp} {F : Nat} {h : Qs} {x0 : Nat} {x1 : Int32}  : sX14_isBecome F (rel u h) (hS u + x0) x1 = (kcX14_isBecome F h x0 x1).map (rm2 u) := by
  simp only [sX14_isBecome, kcX14_isBecome, e_X14_isBecome_4, l_I, l_J, l_N, l_R, l_wI, l_wJ, l_wR, l_wR0, l_nC, l_nM, nm_rel, nm_hS, l_onr, m_onr, cl_some, m_br, m_gd, m_nm, m_cl, cl_m, mapS, mapN, fcN_eq, fcI_eq, cwIk_eq, cwJk_eq, cwRk_eq, cnCk_eq, cnMk_eq]

def kcX15_byteAt_12 (h : Qs) (t0 : Int32) : Option (Int32 × Qs) := some (t0 , h)
theorem e_X15_byteAt_12 {u : Hp} {h : Qs} {t0 : Int32}  : sX15_byteAt_12 (rel u h) t0 = (kcX15_byteAt_12 h t0).map (rm2 u) := by
  simp only [sX15_byteAt_12, kcX15_byteAt_12, l_I, l_J, l_N, l_R, l_wI, l_wJ, l_wR, l_wR0, l_nC, l_nM, nm_rel, nm_hS, l_onr, m_onr, cl_some, m_br, m_gd, m_nm, m_cl, cl_m, mapS, mapN, fcN_eq, fcI_eq, cwIk_eq, cwJk_eq, cwRk_eq, cnCk_eq, cnMk_eq]

def kcX15_byteAt (h : Qs) (x0 : Nat) (x1 : Nat) (x2 : Int32) (x3 : Int32) : Option (Int32 × Qs) := br (x2 ≤ x3) (kcX15_byteAt_12 h (- 1 : Int32)) (gd (inB x3 (cN h x1)) <| kcX15_byteAt_12 h (cI h x1 x3.toNatClampNeg))
theorem e_X15_byteAt {u : Hp} {h : Qs} {x0 : Nat} {x1 : Nat} {x2 : Int32} {x3 : Int32}  : sX15_byteAt (rel u h) (hS u + x0) (hS u + x1) x2 x3 = (kcX15_byteAt h x0 x1 x2 x3).map (rm2 u) := by
  simp only [sX15_byteAt, kcX15_byteAt, e_X15_byteAt_12, l_I, l_J, l_N, l_R, l_wI, l_wJ, l_wR, l_wR0, l_nC, l_nM, nm_rel, nm_hS, l_onr, m_onr, cl_some, m_br, m_gd, m_nm, m_cl, cl_m, mapS, mapN, fcN_eq, fcI_eq, cwIk_eq, cwJk_eq, cwRk_eq, cnCk_eq, cnMk_eq]

def kcX15_isSmall_17 (h : Qs) (t0 : Int32) : Option (Int32 × Qs) := gd (t0 &&& 1 = t0) <| some (t0 , h)
theorem e_X15_isSmall_17 {u : Hp} {h : Qs} {t0 : Int32}  : sX15_isSmall_17 (rel u h) t0 = (kcX15_isSmall_17 h t0).map (rm2 u) := by
  simp only [sX15_isSmall_17, kcX15_isSmall_17, l_I, l_J, l_N, l_R, l_wI, l_wJ, l_wR, l_wR0, l_nC, l_nM, nm_rel, nm_hS, l_onr, m_onr, cl_some, m_br, m_gd, m_nm, m_cl, cl_m, mapS, mapN, fcN_eq, fcI_eq, cwIk_eq, cwJk_eq, cwRk_eq, cnCk_eq, cnMk_eq]

def kcX15_isSmall_16 (h : Qs) : Option (Int32 × Qs) := kcX15_isSmall_17 h (0 : Int32)
theorem e_X15_isSmall_16 {u : Hp} {h : Qs}  : sX15_isSmall_16 (rel u h) = (kcX15_isSmall_16 h).map (rm2 u) := by
  simp only [sX15_isSmall_16, kcX15_isSmall_16, e_X15_isSmall_17, l_I, l_J, l_N, l_R, l_wI, l_wJ, l_wR, l_wR0, l_nC, l_nM, nm_rel, nm_hS, l_onr, m_onr, cl_some, m_br, m_gd, m_nm, m_cl, cl_m, mapS, mapN, fcN_eq, fcI_eq, cwIk_eq, cwJk_eq, cwRk_eq, cnCk_eq, cnMk_eq]

def kcX15_isSmall (h : Qs) (x0 : Int32) : Option (Int32 × Qs) := br (x0 < (97 : Int32)) (kcX15_isSmall_16 h) (br ((122 : Int32) < x0) (kcX15_isSmall_16 h) (kcX15_isSmall_17 h (1 : Int32)))
theorem e_X15_isSmall {u : Hp} {h : Qs} {x0 : Int32}  : sX15_isSmall (rel u h) x0 = (kcX15_isSmall h x0).map (rm2 u) := by
  simp only [sX15_isSmall, kcX15_isSmall, e_X15_isSmall_16, e_X15_isSmall_17, l_I, l_J, l_N, l_R, l_wI, l_wJ, l_wR, l_wR0, l_nC, l_nM, nm_rel, nm_hS, l_onr, m_onr, cl_some, m_br, m_gd, m_nm, m_cl, cl_m, mapS, mapN, fcN_eq, fcI_eq, cwIk_eq, cwJk_eq, cwRk_eq, cnCk_eq, cnMk_eq]

def kcX15_isDigit_17 (h : Qs) (t0 : Int32) : Option (Int32 × Qs) := gd (t0 &&& 1 = t0) <| some (t0 , h)
theorem e_X15_isDigit_17 {u : Hp} {h : Qs} {t0 : Int32}  : sX15_isDigit_17 (rel u h) t0 = (kcX15_isDigit_17 h t0).map (rm2 u) := by
  simp only [sX15_isDigit_17, kcX15_isDigit_17, l_I, l_J, l_N, l_R, l_wI, l_wJ, l_wR, l_wR0, l_nC, l_nM, nm_rel, nm_hS, l_onr, m_onr, cl_some, m_br, m_gd, m_nm, m_cl, cl_m, mapS, mapN, fcN_eq, fcI_eq, cwIk_eq, cwJk_eq, cwRk_eq, cnCk_eq, cnMk_eq]

def kcX15_isDigit_16 (h : Qs) : Option (Int32 × Qs) := kcX15_isDigit_17 h (0 : Int32)
theorem e_X15_isDigit_16 {u : Hp} {h : Qs}  : sX15_isDigit_16 (rel u h) = (kcX15_isDigit_16 h).map (rm2 u) := by
  simp only [sX15_isDigit_16, kcX15_isDigit_16, e_X15_isDigit_17, l_I, l_J, l_N, l_R, l_wI, l_wJ, l_wR, l_wR0, l_nC, l_nM, nm_rel, nm_hS, l_onr, m_onr, cl_some, m_br, m_gd, m_nm, m_cl, cl_m, mapS, mapN, fcN_eq, fcI_eq, cwIk_eq, cwJk_eq, cwRk_eq, cnCk_eq, cnMk_eq]

def kcX15_isDigit (h : Qs) (x0 : Int32) : Option (Int32 × Qs) := br (x0 < (48 : Int32)) (kcX15_isDigit_16 h) (br ((57 : Int32) < x0) (kcX15_isDigit_16 h) (kcX15_isDigit_17 h (1 : Int32)))
theorem e_X15_isDigit {u : Hp} {h : Qs} {x0 : Int32}  : sX15_isDigit (rel u h) x0 = (kcX15_isDigit h x0).map (rm2 u) := by
  simp only [sX15_isDigit, kcX15_isDigit, e_X15_isDigit_16, e_X15_isDigit_17, l_I, l_J, l_N, l_R, l_wI, l_wJ, l_wR, l_wR0, l_nC, l_nM, nm_rel, nm_hS, l_onr, m_onr, cl_some, m_br, m_gd, m_nm, m_cl, cl_m, mapS, mapN, fcN_eq, fcI_eq, cwIk_eq, cwJk_eq, cwRk_eq, cnCk_eq, cnMk_eq]

def kcX15_nextToken_308 (F : Nat) (h : Qs) : Option (Qs) := some h
theorem e_X15_nextToken_308 {u : Hp} {F : Nat} {h : Qs}  : sX15_nextToken_308 F (rel u h) = (kcX15_nextToken_308 F h).map (rm1 u) := by
  simp only [sX15_nextToken_308, kcX15_nextToken_308, l_I, l_J, l_N, l_R, l_wI, l_wJ, l_wR, l_wR0, l_nC, l_nM, nm_rel, nm_hS, l_onr, m_onr, cl_some, m_br, m_gd, m_nm, m_cl, cl_m, mapS, mapN, fcN_eq, fcI_eq, cwIk_eq, cwJk_eq, cwRk_eq, cnCk_eq, cnMk_eq]

def kcX15_nextToken_266 (F : Nat) (h : Qs) (x0 : Nat) (x6 : Int32) (t0 : Int32) (t1 : Nat) : Option (Qs) := cwIk h t1 9 t0 fun h_1 => cwIk h_1 x0 8 x6 fun h_2 => kcX15_nextToken_308 F h_2
theorem e_X15_nextToken_266 {u : Hp} {F : Nat} {h : Qs} {x0 : Nat} {x6 : Int32} {t0 : Int32} {t1 : Nat}  : sX15_nextToken_266 F (rel u h) (hS u + x0) x6 t0 (hS u + t1) = (kcX15_nextToken_266 F h x0 x6 t0 t1).map (rm1 u) := by
  simp only [sX15_nextToken_266, kcX15_nextToken_266, e_X15_nextToken_308, l_I, l_J, l_N, l_R, l_wI, l_wJ, l_wR, l_wR0, l_nC, l_nM, nm_rel, nm_hS, l_onr, m_onr, cl_some, m_br, m_gd, m_nm, m_cl, cl_m, mapS, mapN, fcN_eq, fcI_eq, cwIk_eq, cwJk_eq, cwRk_eq, cnCk_eq, cnMk_eq]

def kcX15_nextToken_242 (F : Nat) (h : Qs) (x0 : Nat) (x4 : Int32) (x6 : Int32) (t0 : Int32) (t1 : Nat) : Option (Qs) := cwIk h t1 9 t0 fun h_1 => br (x4 = (45 : Int32)) (kcX15_nextToken_266 F h_1 x0 x6 ((0 : Int32) - (cI h_1 x0 9)) x0) (kcX15_nextToken_266 F h_1 x0 x6 (cI h_1 x0 9) x0)
theorem e_X15_nextToken_242 {u : Hp} {F : Nat} {h : Qs} {x0 : Nat} {x4 : Int32} {x6 : Int32} {t0 : Int32} {t1 : Nat}  : sX15_nextToken_242 F (rel u h) (hS u + x0) x4 x6 t0 (hS u + t1) = (kcX15_nextToken_242 F h x0 x4 x6 t0 t1).map (rm1 u) := by
  simp only [sX15_nextToken_242, kcX15_nextToken_242, e_X15_nextToken_266, l_I, l_J, l_N, l_R, l_wI, l_wJ, l_wR, l_wR0, l_nC, l_nM, nm_rel, nm_hS, l_onr, m_onr, cl_some, m_br, m_gd, m_nm, m_cl, cl_m, mapS, mapN, fcN_eq, fcI_eq, cwIk_eq, cwJk_eq, cwRk_eq, cnCk_eq, cnMk_eq]

def kcX15_nextToken_194 (F : Nat) (h : Qs) (x0 : Nat) (x1 : Nat) (x4 : Int32) (x5 : Int32) (x6 : Int32) (t0 : Int32) (t1 : Nat) : Option (Qs) := cwIk h t1 6 t0 fun h_1 => gd (inB x5 (cN h_1 x1)) <| cwIk h_1 x0 9 ((cI h_1 x1 x5.toNatClampNeg) - (48 : Int32)) fun h_3 => br ((x6 - x5) = (2 : Int32)) (gd (inB (x5 + (1 : Int32)) (cN h_3 x1)) <| kcX15_nextToken_242 F h_3 x0 x4 x6 ((((10 : Int32) * (cI h_3 x0 9)) + (cI h_3 x1 (x5 + (1 : Int32)).toNatClampNeg)) - (48 : Int32)) x0) (kcX15_nextToken_242 F h_3 x0 x4 x6 (cI h_3 x0 9) x0)
theorem e_X15_nextToken_194 {u : Hp} {F : Nat} {h : Qs} {x0 : Nat} {x1 : Nat} {x4 : Int32} {x5 : Int32} {x6 : Int32} {t0 : Int32} {t1 : Nat}  : sX15_nextToken_194 F (rel u h) (hS u + x0) (hS u + x1) x4 x5 x6 t0 (hS u + t1) = (kcX15_nextToken_194 F h x0 x1 x4 x5 x6 t0 t1).map (rm1 u) := by
  simp only [sX15_nextToken_194, kcX15_nextToken_194, e_X15_nextToken_242, l_I, l_J, l_N, l_R, l_wI, l_wJ, l_wR, l_wR0, l_nC, l_nM, nm_rel, nm_hS, l_onr, m_onr, cl_some, m_br, m_gd, m_nm, m_cl, cl_m, mapS, mapN, fcN_eq, fcI_eq, cwIk_eq, cwJk_eq, cwRk_eq, cnCk_eq, cnMk_eq]

def kcX15_nextToken_159 (F : Nat) : Nat → Qs → Nat → Nat → Int32 → Int32 → Int32 → Int32 → Option (Qs)
  | 0, _, _, _, _, _, _, _ => none
  | f + 1, h, x0, x1, x2, x4, x5, x6 => cl (kcX15_byteAt h x0 x1 x2 x6) fun o_1 => cl (kcX15_isDigit o_1.2 o_1.1) fun o_2 => br (o_2.1 = 0) (br ((2 : Int32) < (x6 - x5)) (kcX15_nextToken_194 F o_2.2 x0 x1 x4 x5 x6 (5 : Int32) x0) (kcX15_nextToken_194 F o_2.2 x0 x1 x4 x5 x6 (2 : Int32) x0)) (fcI (x6 + (1 : Int32)) fun v_5 => kcX15_nextToken_159 F f o_2.2 x0 x1 x2 x4 x5 v_5)
theorem e_X15_nextToken_159 {u : Hp} {F : Nat}  : ∀ (f : Nat) (h : Qs) (x0 : Nat) (x1 : Nat) (x2 : Int32) (x4 : Int32) (x5 : Int32) (x6 : Int32), sX15_nextToken_159 F f (rel u h) (hS u + x0) (hS u + x1) x2 x4 x5 x6 = (kcX15_nextToken_159 F f h x0 x1 x2 x4 x5 x6).map (rm1 u) := by
  intro f
  induction f with
  | zero => intros; rfl
  | succ f ih =>
    intro h x0 x1 x2 x4 x5 x6
    simp only [sX15_nextToken_159, kcX15_nextToken_159, e_X15_byteAt, e_X15_isDigit, e_X15_nextToken_194, ih, l_I, l_J, l_N, l_R, l_wI, l_wJ, l_wR, l_wR0, l_nC, l_nM, nm_rel, nm_hS, l_onr, m_onr, cl_some, m_br, m_gd, m_nm, m_cl, cl_m, mapS, mapN, fcN_eq, fcI_eq, cwIk_eq, cwJk_eq, cwRk_eq, cnCk_eq, cnMk_eq]

def kcX15_nextToken_153 (F : Nat) (h : Qs) (x0 : Nat) (x1 : Nat) (x2 : Int32) (x4 : Int32) (t0 : Int32) : Option (Qs) := kcX15_nextToken_159 F F h x0 x1 x2 x4 t0 t0
theorem e_X15_nextToken_153 {u : Hp} {F : Nat} {h : Qs} {x0 : Nat} {x1 : Nat} {x2 : Int32} {x4 : Int32} {t0 : Int32}  : sX15_nextToken_153 F (rel u h) (hS u + x0) (hS u + x1) x2 x4 t0 = (kcX15_nextToken_153 F h x0 x1 x2 x4 t0).map (rm1 u) := by
  simp only [sX15_nextToken_153, kcX15_nextToken_153, e_X15_nextToken_159, l_I, l_J, l_N, l_R, l_wI, l_wJ, l_wR, l_wR0, l_nC, l_nM, nm_rel, nm_hS, l_onr, m_onr, cl_some, m_br, m_gd, m_nm, m_cl, cl_m, mapS, mapN, fcN_eq, fcI_eq, cwIk_eq, cwJk_eq, cwRk_eq, cnCk_eq, cnMk_eq]

def kcX15_nextToken_139 (F : Nat) (h : Qs) (x0 : Nat) (x1 : Nat) (x2 : Int32) (x3 : Int32) (x4 : Int32) : Option (Qs) := br (x4 = (45 : Int32)) (kcX15_nextToken_153 F h x0 x1 x2 x4 (x3 + (1 : Int32))) (kcX15_nextToken_153 F h x0 x1 x2 x4 x3)
theorem e_X15_nextToken_139 {u : Hp} {F : Nat} {h : Qs} {x0 : Nat} {x1 : Nat} {x2 : Int32} {x3 : Int32} {x4 : Int32}  : sX15_nextToken_139 F (rel u h) (hS u + x0) (hS u + x1) x2 x3 x4 = (kcX15_nextToken_139 F h x0 x1 x2 x3 x4).map (rm1 u) := by
  simp only [sX15_nextToken_139, kcX15_nextToken_139, e_X15_nextToken_153, l_I, l_J, l_N, l_R, l_wI, l_wJ, l_wR, l_wR0, l_nC, l_nM, nm_rel, nm_hS, l_onr, m_onr, cl_some, m_br, m_gd, m_nm, m_cl, cl_m, mapS, mapN, fcN_eq, fcI_eq, cwIk_eq, cwJk_eq, cwRk_eq, cnCk_eq, cnMk_eq]

def kcX15_nextToken_298 (F : Nat) (h : Qs) (x0 : Nat) (x3 : Int32) (t0 : Int32) (t1 : Nat) : Option (Qs) := cwIk h t1 6 t0 fun h_1 => cwIk h_1 x0 8 (x3 + (1 : Int32)) fun h_2 => kcX15_nextToken_308 F h_2
theorem e_X15_nextToken_298 {u : Hp} {F : Nat} {h : Qs} {x0 : Nat} {x3 : Int32} {t0 : Int32} {t1 : Nat}  : sX15_nextToken_298 F (rel u h) (hS u + x0) x3 t0 (hS u + t1) = (kcX15_nextToken_298 F h x0 x3 t0 t1).map (rm1 u) := by
  simp only [sX15_nextToken_298, kcX15_nextToken_298, e_X15_nextToken_308, l_I, l_J, l_N, l_R, l_wI, l_wJ, l_wR, l_wR0, l_nC, l_nM, nm_rel, nm_hS, l_onr, m_onr, cl_some, m_br, m_gd, m_nm, m_cl, cl_m, mapS, mapN, fcN_eq, fcI_eq, cwIk_eq, cwJk_eq, cwRk_eq, cnCk_eq, cnMk_eq]

def kcX15_nextToken_293 (F : Nat) (h : Qs) (x0 : Nat) (x3 : Int32) (t0 : Nat) : Option (Qs) := kcX15_nextToken_298 F h x0 x3 (3 : Int32) t0
theorem e_X15_nextToken_293 {u : Hp} {F : Nat} {h : Qs} {x0 : Nat} {x3 : Int32} {t0 : Nat}  : sX15_nextToken_293 F (rel u h) (hS u + x0) x3 (hS u + t0) = (kcX15_nextToken_293 F h x0 x3 t0).map (rm1 u) := by
  simp only [sX15_nextToken_293, kcX15_nextToken_293, e_X15_nextToken_298, l_I, l_J, l_N, l_R, l_wI, l_wJ, l_wR, l_wR0, l_nC, l_nM, nm_rel, nm_hS, l_onr, m_onr, cl_some, m_br, m_gd, m_nm, m_cl, cl_m, mapS, mapN, fcN_eq, fcI_eq, cwIk_eq, cwJk_eq, cwRk_eq, cnCk_eq, cnMk_eq]

def kcX15_nextToken_278 (F : Nat) (h : Qs) (x0 : Nat) (x3 : Int32) (x4 : Int32) : Option (Qs) := br (x4 = (59 : Int32)) (kcX15_nextToken_293 F h x0 x3 x0) (br (x4 = (44 : Int32)) (kcX15_nextToken_293 F h x0 x3 x0) (kcX15_nextToken_298 F h x0 x3 (5 : Int32) x0))
theorem e_X15_nextToken_278 {u : Hp} {F : Nat} {h : Qs} {x0 : Nat} {x3 : Int32} {x4 : Int32}  : sX15_nextToken_278 F (rel u h) (hS u + x0) x3 x4 = (kcX15_nextToken_278 F h x0 x3 x4).map (rm1 u) := by
  simp only [sX15_nextToken_278, kcX15_nextToken_278, e_X15_nextToken_293, e_X15_nextToken_298, l_I, l_J, l_N, l_R, l_wI, l_wJ, l_wR, l_wR0, l_nC, l_nM, nm_rel, nm_hS, l_onr, m_onr, cl_some, m_br, m_gd, m_nm, m_cl, cl_m, mapS, mapN, fcN_eq, fcI_eq, cwIk_eq, cwJk_eq, cwRk_eq, cnCk_eq, cnMk_eq]

def kcX15_nextToken_77 (F : Nat) : Nat → Qs → Nat → Nat → Int32 → Int32 → Option (Qs)
  | 0, _, _, _, _, _ => none
  | f + 1, h, x0, x1, x2, x3 => cl (kcX15_byteAt h x0 x1 x2 x3) fun o_1 => cl (kcX15_isSmall o_1.2 o_1.1) fun o_2 => br (o_2.1 = 0) (cwIk o_2.2 x0 6 (1 : Int32) fun h_4 => cwIk h_4 x0 8 x3 fun h_5 => kcX15_nextToken_308 F h_5) (fcI (x3 + (1 : Int32)) fun v_6 => kcX15_nextToken_77 F f o_2.2 x0 x1 x2 v_6)
theorem e_X15_nextToken_77 {u : Hp} {F : Nat}  : ∀ (f : Nat) (h : Qs) (x0 : Nat) (x1 : Nat) (x2 : Int32) (x3 : Int32), sX15_nextToken_77 F f (rel u h) (hS u + x0) (hS u + x1) x2 x3 = (kcX15_nextToken_77 F f h x0 x1 x2 x3).map (rm1 u) := by
  intro f
  induction f with
  | zero => intros; rfl
  | succ f ih =>
    intro h x0 x1 x2 x3
    simp only [sX15_nextToken_77, kcX15_nextToken_77, e_X15_byteAt, e_X15_isSmall, e_X15_nextToken_308, ih, l_I, l_J, l_N, l_R, l_wI, l_wJ, l_wR, l_wR0, l_nC, l_nM, nm_rel, nm_hS, l_onr, m_onr, cl_some, m_br, m_gd, m_nm, m_cl, cl_m, mapS, mapN, fcN_eq, fcI_eq, cwIk_eq, cwJk_eq, cwRk_eq, cnCk_eq, cnMk_eq]

def kcX15_nextToken_32 (F : Nat) (h : Qs) (x0 : Nat) (x1 : Nat) (x2 : Int32) (x3 : Int32) : Option (Qs) := cwIk h x0 7 x3 fun h_1 => cl (kcX15_byteAt h_1 x0 x1 x2 x3) fun o_2 => br (x3 < x2) (cl (kcX15_isSmall o_2.2 o_2.1) fun o_4 => br (o_4.1 = 0) (cl (kcX15_isDigit o_4.2 o_2.1) fun o_6 => br (o_6.1 = 0) (br (o_2.1 = (45 : Int32)) (cl (kcX15_byteAt o_6.2 x0 x1 x2 (x3 + (1 : Int32))) fun o_9 => cl (kcX15_isDigit o_9.2 o_9.1) fun o_10 => br (o_10.1 = 0) (kcX15_nextToken_278 F o_10.2 x0 x3 o_2.1) (kcX15_nextToken_139 F o_10.2 x0 x1 x2 x3 o_2.1)) (kcX15_nextToken_278 F o_6.2 x0 x3 o_2.1)) (kcX15_nextToken_139 F o_6.2 x0 x1 x2 x3 o_2.1)) (kcX15_nextToken_77 F F o_4.2 x0 x1 x2 x3)) (cwIk o_2.2 x0 7 x2 fun h_12 => cwIk h_12 x0 8 x2 fun h_13 => cwIk h_13 x0 6 (4 : Int32) fun h_14 => kcX15_nextToken_308 F h_14)
theorem e_X15_nextToken_32 {u : Hp} {F : Nat} {h : Qs} {x0 : Nat} {x1 : Nat} {x2 : Int32} {x3 : Int32}  : sX15_nextToken_32 F (rel u h) (hS u + x0) (hS u + x1) x2 x3 = (kcX15_nextToken_32 F h x0 x1 x2 x3).map (rm1 u) := by
  simp only [sX15_nextToken_32, kcX15_nextToken_32, e_X15_byteAt, e_X15_isSmall, e_X15_isDigit, e_X15_nextToken_278, e_X15_nextToken_139, e_X15_nextToken_77, e_X15_nextToken_308, l_I, l_J, l_N, l_R, l_wI, l_wJ, l_wR, l_wR0, l_nC, l_nM, nm_rel, nm_hS, l_onr, m_onr, cl_some, m_br, m_gd, m_nm, m_cl, cl_m, mapS, mapN, fcN_eq, fcI_eq, cwIk_eq, cwJk_eq, cwRk_eq, cnCk_eq, cnMk_eq]

def kcX15_nextToken_26 (F : Nat) (k_5 : Qs → Nat → Nat → Int32 → Int32 → Option (Qs)) (h : Qs) (x0 : Nat) (x1 : Nat) (x2 : Int32) (x3 : Int32) : Option (Qs) := fcI (x3 + (1 : Int32)) fun v_1 => k_5 h x0 x1 x2 v_1
theorem e_X15_nextToken_26 {u : Hp} {F : Nat} {k_5 : Hp → Nat → Nat → Int32 → Int32 → Option (Hp)} {k_5_ : Qs → Nat → Nat → Int32 → Int32 → Option (Qs)} {h : Qs} {x0 : Nat} {x1 : Nat} {x2 : Int32} {x3 : Int32} (hk_5 : ∀ (h : Qs) (x0 : Nat) (x1 : Nat) (x2 : Int32) (x3 : Int32), k_5 (rel u h) (hS u + x0) (hS u + x1) x2 x3 = (k_5_ h x0 x1 x2 x3).map (rm1 u)) : sX15_nextToken_26 F k_5 (rel u h) (hS u + x0) (hS u + x1) x2 x3 = (kcX15_nextToken_26 F k_5_ h x0 x1 x2 x3).map (rm1 u) := by
  simp only [sX15_nextToken_26, kcX15_nextToken_26, hk_5, l_I, l_J, l_N, l_R, l_wI, l_wJ, l_wR, l_wR0, l_nC, l_nM, nm_rel, nm_hS, l_onr, m_onr, cl_some, m_br, m_gd, m_nm, m_cl, cl_m, mapS, mapN, fcN_eq, fcI_eq, cwIk_eq, cwJk_eq, cwRk_eq, cnCk_eq, cnMk_eq]

def kcX15_nextToken_5 (F : Nat) : Nat → Qs → Nat → Nat → Int32 → Int32 → Option (Qs)
  | 0, _, _, _, _, _ => none
  | f + 1, h, x0, x1, x2, x3 => br (x2 ≤ x3) (kcX15_nextToken_32 F h x0 x1 x2 x3) (gd (inB x3 (cN h x1)) <| br ((cI h x1 x3.toNatClampNeg) = (32 : Int32)) (kcX15_nextToken_26 F (kcX15_nextToken_5 F f) h x0 x1 x2 x3) (gd (inB x3 (cN h x1)) <| br ((cI h x1 x3.toNatClampNeg) = (10 : Int32)) (kcX15_nextToken_26 F (kcX15_nextToken_5 F f) h x0 x1 x2 x3) (kcX15_nextToken_32 F h x0 x1 x2 x3)))
theorem e_X15_nextToken_5 {u : Hp} {F : Nat}  : ∀ (f : Nat) (h : Qs) (x0 : Nat) (x1 : Nat) (x2 : Int32) (x3 : Int32), sX15_nextToken_5 F f (rel u h) (hS u + x0) (hS u + x1) x2 x3 = (kcX15_nextToken_5 F f h x0 x1 x2 x3).map (rm1 u) := by
  intro f
  induction f with
  | zero => intros; rfl
  | succ f ih =>
    intro h x0 x1 x2 x3
    simp only [sX15_nextToken_5, kcX15_nextToken_5, e_X15_nextToken_32, (e_X15_nextToken_26 ih), l_I, l_J, l_N, l_R, l_wI, l_wJ, l_wR, l_wR0, l_nC, l_nM, nm_rel, nm_hS, l_onr, m_onr, cl_some, m_br, m_gd, m_nm, m_cl, cl_m, mapS, mapN, fcN_eq, fcI_eq, cwIk_eq, cwJk_eq, cwRk_eq, cnCk_eq, cnMk_eq]

def kcX15_nextToken (F : Nat) (h : Qs) (x0 : Nat) (x1 : Nat) (x2 : Int32) : Option (Qs) := fcI (cI h x0 8) fun v_1 => kcX15_nextToken_5 F F h x0 x1 x2 v_1
theorem e_X15_nextToken {u : Hp} {F : Nat} {h : Qs} {x0 : Nat} {x1 : Nat} {x2 : Int32}  : sX15_nextToken F (rel u h) (hS u + x0) (hS u + x1) x2 = (kcX15_nextToken F h x0 x1 x2).map (rm1 u) := by
  simp only [sX15_nextToken, kcX15_nextToken, e_X15_nextToken_5, l_I, l_J, l_N, l_R, l_wI, l_wJ, l_wR, l_wR0, l_nC, l_nM, nm_rel, nm_hS, l_onr, m_onr, cl_some, m_br, m_gd, m_nm, m_cl, cl_m, mapS, mapN, fcN_eq, fcI_eq, cwIk_eq, cwJk_eq, cwRk_eq, cnCk_eq, cnMk_eq]

def kcX15_isWord_24 (F : Nat) (h : Qs) : Option (Int32 × Qs) := some ((0 : Int32) , h)
theorem e_X15_isWord_24 {u : Hp} {F : Nat} {h : Qs}  : sX15_isWord_24 F (rel u h) = (kcX15_isWord_24 F h).map (rm2 u) := by
  simp only [sX15_isWord_24, kcX15_isWord_24, l_I, l_J, l_N, l_R, l_wI, l_wJ, l_wR, l_wR0, l_nC, l_nM, nm_rel, nm_hS, l_onr, m_onr, cl_some, m_br, m_gd, m_nm, m_cl, cl_m, mapS, mapN, fcN_eq, fcI_eq, cwIk_eq, cwJk_eq, cwRk_eq, cnCk_eq, cnMk_eq]

def kcX15_isWord_28 (F : Nat) : Nat → Qs → Nat → Nat → Nat → Int32 → Option (Int32 × Qs)
  | 0, _, _, _, _, _ => none
  | f + 1, h, x0, x1, x2, x3 => br ((nI (lB x2).length) ≤ x3) (some ((1 : Int32) , h)) (gd (inB ((cI h x0 7) + x3) (cN h x1)) <| gd (inB x3 (lB x2).length) <| br ((cI h x1 ((cI h x0 7) + x3).toNatClampNeg) = (schr x2 x3)) (fcI (x3 + (1 : Int32)) fun v_5 => kcX15_isWord_28 F f h x0 x1 x2 v_5) (some ((0 : Int32) , h)))
theorem e_X15_isWord_28 {u : Hp} {F : Nat}  : ∀ (f : Nat) (h : Qs) (x0 : Nat) (x1 : Nat) (x2 : Nat) (x3 : Int32), sX15_isWord_28 F f (rel u h) (hS u + x0) (hS u + x1) x2 x3 = (kcX15_isWord_28 F f h x0 x1 x2 x3).map (rm2 u) := by
  intro f
  induction f with
  | zero => intros; rfl
  | succ f ih =>
    intro h x0 x1 x2 x3
    simp only [sX15_isWord_28, kcX15_isWord_28, ih, l_I, l_J, l_N, l_R, l_wI, l_wJ, l_wR, l_wR0, l_nC, l_nM, nm_rel, nm_hS, l_onr, m_onr, cl_some, m_br, m_gd, m_nm, m_cl, cl_m, mapS, mapN, fcN_eq, fcI_eq, cwIk_eq, cwJk_eq, cwRk_eq, cnCk_eq, cnMk_eq]

def kcX15_isWord (F : Nat) (h : Qs) (x0 : Nat) (x1 : Nat) (x2 : Nat) : Option (Int32 × Qs) := br ((cI h x0 6) = (1 : Int32)) (br (((cI h x0 8) - (cI h x0 7)) = (nI (lB x2).length)) (kcX15_isWord_28 F F h x0 x1 x2 (0 : Int32)) (kcX15_isWord_24 F h)) (kcX15_isWord_24 F h)
theorem e_X15_isWord {u : Hp} {F : Nat} {h : Qs} {x0 : Nat} {x1 : Nat} {x2 : Nat}  : sX15_isWord F (rel u h) (hS u + x0) (hS u + x1) x2 = (kcX15_isWord F h x0 x1 x2).map (rm2 u) := by
  simp only [sX15_isWord, kcX15_isWord, e_X15_isWord_28, e_X15_isWord_24, l_I, l_J, l_N, l_R, l_wI, l_wJ, l_wR, l_wR0, l_nC, l_nM, nm_rel, nm_hS, l_onr, m_onr, cl_some, m_br, m_gd, m_nm, m_cl, cl_m, mapS, mapN, fcN_eq, fcI_eq, cwIk_eq, cwJk_eq, cwRk_eq, cnCk_eq, cnMk_eq]

def kcX15_isNumber_29 (h : Qs) (t0 : Int32) : Option (Int32 × Qs) := gd (t0 &&& 1 = t0) <| some (t0 , h)
theorem e_X15_isNumber_29 {u : Hp} {h : Qs} {t0 : Int32}  : sX15_isNumber_29 (rel u h) t0 = (kcX15_isNumber_29 h t0).map (rm2 u) := by
  simp only [sX15_isNumber_29, kcX15_isNumber_29, l_I, l_J, l_N, l_R, l_wI, l_wJ, l_wR, l_wR0, l_nC, l_nM, nm_rel, nm_hS, l_onr, m_onr, cl_some, m_br, m_gd, m_nm, m_cl, cl_m, mapS, mapN, fcN_eq, fcI_eq, cwIk_eq, cwJk_eq, cwRk_eq, cnCk_eq, cnMk_eq]

def kcX15_isNumber_28 (h : Qs) : Option (Int32 × Qs) := kcX15_isNumber_29 h (0 : Int32)
theorem e_X15_isNumber_28 {u : Hp} {h : Qs}  : sX15_isNumber_28 (rel u h) = (kcX15_isNumber_28 h).map (rm2 u) := by
  simp only [sX15_isNumber_28, kcX15_isNumber_28, e_X15_isNumber_29, l_I, l_J, l_N, l_R, l_wI, l_wJ, l_wR, l_wR0, l_nC, l_nM, nm_rel, nm_hS, l_onr, m_onr, cl_some, m_br, m_gd, m_nm, m_cl, cl_m, mapS, mapN, fcN_eq, fcI_eq, cwIk_eq, cwJk_eq, cwRk_eq, cnCk_eq, cnMk_eq]

def kcX15_isNumber (h : Qs) (x0 : Nat) (x1 : Int32) (x2 : Int32) : Option (Int32 × Qs) := br ((cI h x0 6) = (2 : Int32)) (br ((cI h x0 9) < x1) (kcX15_isNumber_28 h) (br (x2 < (cI h x0 9)) (kcX15_isNumber_28 h) (kcX15_isNumber_29 h (1 : Int32)))) (kcX15_isNumber_28 h)
theorem e_X15_isNumber {u : Hp} {h : Qs} {x0 : Nat} {x1 : Int32} {x2 : Int32}  : sX15_isNumber (rel u h) (hS u + x0) x1 x2 = (kcX15_isNumber h x0 x1 x2).map (rm2 u) := by
  simp only [sX15_isNumber, kcX15_isNumber, e_X15_isNumber_28, e_X15_isNumber_29, l_I, l_J, l_N, l_R, l_wI, l_wJ, l_wR, l_wR0, l_nC, l_nM, nm_rel, nm_hS, l_onr, m_onr, cl_some, m_br, m_gd, m_nm, m_cl, cl_m, mapS, mapN, fcN_eq, fcI_eq, cwIk_eq, cwJk_eq, cwRk_eq, cnCk_eq, cnMk_eq]

def kcX15_isSign_23 (h : Qs) (t0 : Int32) : Option (Int32 × Qs) := gd (t0 &&& 1 = t0) <| some (t0 , h)
theorem e_X15_isSign_23 {u : Hp} {h : Qs} {t0 : Int32}  : sX15_isSign_23 (rel u h) t0 = (kcX15_isSign_23 h t0).map (rm2 u) := by
  simp only [sX15_isSign_23, kcX15_isSign_23, l_I, l_J, l_N, l_R, l_wI, l_wJ, l_wR, l_wR0, l_nC, l_nM, nm_rel, nm_hS, l_onr, m_onr, cl_some, m_br, m_gd, m_nm, m_cl, cl_m, mapS, mapN, fcN_eq, fcI_eq, cwIk_eq, cwJk_eq, cwRk_eq, cnCk_eq, cnMk_eq]

def kcX15_isSign_22 (h : Qs) : Option (Int32 × Qs) := kcX15_isSign_23 h (0 : Int32)
theorem e_X15_isSign_22 {u : Hp} {h : Qs}  : sX15_isSign_22 (rel u h) = (kcX15_isSign_22 h).map (rm2 u) := by
  simp only [sX15_isSign_22, kcX15_isSign_22, e_X15_isSign_23, l_I, l_J, l_N, l_R, l_wI, l_wJ, l_wR, l_wR0, l_nC, l_nM, nm_rel, nm_hS, l_onr, m_onr, cl_some, m_br, m_gd, m_nm, m_cl, cl_m, mapS, mapN, fcN_eq, fcI_eq, cwIk_eq, cwJk_eq, cwRk_eq, cnCk_eq, cnMk_eq]

def kcX15_isSign (h : Qs) (x0 : Nat) (x1 : Nat) (x2 : Int32) : Option (Int32 × Qs) := br ((cI h x0 6) = (3 : Int32)) (gd (inB (cI h x0 7) (cN h x1)) <| br ((cI h x1 (cI h x0 7).toNatClampNeg) = x2) (kcX15_isSign_23 h (1 : Int32)) (kcX15_isSign_22 h)) (kcX15_isSign_22 h)
theorem e_X15_isSign {u : Hp} {h : Qs} {x0 : Nat} {x1 : Nat} {x2 : Int32}  : sX15_isSign (rel u h) (hS u + x0) (hS u + x1) x2 = (kcX15_isSign h x0 x1 x2).map (rm2 u) := by
  simp only [sX15_isSign, kcX15_isSign, e_X15_isSign_23, e_X15_isSign_22, l_I, l_J, l_N, l_R, l_wI, l_wJ, l_wR, l_wR0, l_nC, l_nM, nm_rel, nm_hS, l_onr, m_onr, cl_some, m_br, m_gd, m_nm, m_cl, cl_m, mapS, mapN, fcN_eq, fcI_eq, cwIk_eq, cwJk_eq, cwRk_eq, cnCk_eq, cnMk_eq]

def kcX15_manAt_38 (F : Nat) (h : Qs) (t0 : Int32) : Option (Int32 × Qs) := some (t0 , h)
theorem e_X15_manAt_38 {u : Hp} {F : Nat} {h : Qs} {t0 : Int32}  : sX15_manAt_38 F (rel u h) t0 = (kcX15_manAt_38 F h t0).map (rm2 u) := by
  simp only [sX15_manAt_38, kcX15_manAt_38, l_I, l_J, l_N, l_R, l_wI, l_wJ, l_wR, l_wR0, l_nC, l_nM, nm_rel, nm_hS, l_onr, m_onr, cl_some, m_br, m_gd, m_nm, m_cl, cl_m, mapS, mapN, fcN_eq, fcI_eq, cwIk_eq, cwJk_eq, cwRk_eq, cnCk_eq, cnMk_eq]

def kcX15_manAt_37 (F : Nat) (h : Qs) : Option (Int32 × Qs) := kcX15_manAt_38 F h (- 1 : Int32)
theorem e_X15_manAt_37 {u : Hp} {F : Nat} {h : Qs}  : sX15_manAt_37 F (rel u h) = (kcX15_manAt_37 F h).map (rm2 u) := by
  simp only [sX15_manAt_37, kcX15_manAt_37, e_X15_manAt_38, l_I, l_J, l_N, l_R, l_wI, l_wJ, l_wR, l_wR0, l_nC, l_nM, nm_rel, nm_hS, l_onr, m_onr, cl_some, m_br, m_gd, m_nm, m_cl, cl_m, mapS, mapN, fcN_eq, fcI_eq, cwIk_eq, cwJk_eq, cwRk_eq, cnCk_eq, cnMk_eq]

def kcX15_manAt (F : Nat) (h : Qs) (x0 : Nat) (x1 : Nat) : Option (Int32 × Qs) := br ((cI h x0 6) = (1 : Int32)) (br ((cI h x0 8) = ((cI h x0 7) + (1 : Int32))) (cl (cR h x0 5) fun r_3 => gd (inB (cI h x0 7) (cN h x1)) <| cl (kcX14_find F h r_3 (cI h x1 (cI h x0 7).toNatClampNeg)) fun o_5 => kcX15_manAt_38 F o_5.2 o_5.1) (kcX15_manAt_37 F h)) (kcX15_manAt_37 F h)
theorem e_X15_manAt {u : Hp} {F : Nat} {h : Qs} {x0 : Nat} {x1 : Nat}  : sX15_manAt F (rel u h) (hS u + x0) (hS u + x1) = (kcX15_manAt F h x0 x1).map (rm2 u) := by
  simp only [sX15_manAt, kcX15_manAt, e_X15_manAt_38, e_X14_find, e_X15_manAt_37, l_I, l_J, l_N, l_R, l_wI, l_wJ, l_wR, l_wR0, l_nC, l_nM, nm_rel, nm_hS, l_onr, m_onr, cl_some, m_br, m_gd, m_nm, m_cl, cl_m, mapS, mapN, fcN_eq, fcI_eq, cwIk_eq, cwJk_eq, cwRk_eq, cnCk_eq, cnMk_eq]

def kcX15_flagAt_88 (F : Nat) (h : Qs) (t0 : Int32) : Option (Int32 × Qs) := some (t0 , h)
theorem e_X15_flagAt_88 {u : Hp} {F : Nat} {h : Qs} {t0 : Int32}  : sX15_flagAt_88 F (rel u h) t0 = (kcX15_flagAt_88 F h t0).map (rm2 u) := by
  simp only [sX15_flagAt_88, kcX15_flagAt_88, l_I, l_J, l_N, l_R, l_wI, l_wJ, l_wR, l_wR0, l_nC, l_nM, nm_rel, nm_hS, l_onr, m_onr, cl_some, m_br, m_gd, m_nm, m_cl, cl_m, mapS, mapN, fcN_eq, fcI_eq, cwIk_eq, cwJk_eq, cwRk_eq, cnCk_eq, cnMk_eq]

def kcX15_flagAt (F : Nat) (h : Qs) (x0 : Nat) (x1 : Nat) : Option (Int32 × Qs) := cl (kcX15_isWord F h x0 x1 31) fun o_1 => br (o_1.1 = 0) (cl (kcX15_isWord F o_1.2 x0 x1 32) fun o_3 => br (o_3.1 = 0) (cl (kcX15_isWord F o_3.2 x0 x1 33) fun o_5 => br (o_5.1 = 0) (cl (kcX15_isWord F o_5.2 x0 x1 34) fun o_7 => br (o_7.1 = 0) (cl (kcX15_isWord F o_7.2 x0 x1 35) fun o_9 => br (o_9.1 = 0) (cl (kcX15_isWord F o_9.2 x0 x1 36) fun o_11 => br (o_11.1 = 0) (kcX15_flagAt_88 F o_11.2 (0 : Int32)) (kcX15_flagAt_88 F o_11.2 (32 : Int32))) (kcX15_flagAt_88 F o_9.2 (16 : Int32))) (kcX15_flagAt_88 F o_7.2 (8 : Int32))) (kcX15_flagAt_88 F o_5.2 (4 : Int32))) (kcX15_flagAt_88 F o_3.2 (2 : Int32))) (kcX15_flagAt_88 F o_1.2 (1 : Int32))
theorem e_X15_flagAt {u : Hp} {F : Nat} {h : Qs} {x0 : Nat} {x1 : Nat}  : sX15_flagAt F (rel u h) (hS u + x0) (hS u + x1) = (kcX15_flagAt F h x0 x1).map (rm2 u) := by
  simp only [sX15_flagAt, kcX15_flagAt, e_X15_isWord, e_X15_flagAt_88, l_I, l_J, l_N, l_R, l_wI, l_wJ, l_wR, l_wR0, l_nC, l_nM, nm_rel, nm_hS, l_onr, m_onr, cl_some, m_br, m_gd, m_nm, m_cl, cl_m, mapS, mapN, fcN_eq, fcI_eq, cwIk_eq, cwJk_eq, cwRk_eq, cnCk_eq, cnMk_eq]

def kcX15_isStep_156 (F : Nat) (h : Qs) : Option (Int32 × Qs) := some ((0 : Int32) , h)
theorem e_X15_isStep_156 {u : Hp} {F : Nat} {h : Qs}  : sX15_isStep_156 F (rel u h) = (kcX15_isStep_156 F h).map (rm2 u) := by
  simp only [sX15_isStep_156, kcX15_isStep_156, l_I, l_J, l_N, l_R, l_wI, l_wJ, l_wR, l_wR0, l_nC, l_nM, nm_rel, nm_hS, l_onr, m_onr, cl_some, m_br, m_gd, m_nm, m_cl, cl_m, mapS, mapN, fcN_eq, fcI_eq, cwIk_eq, cwJk_eq, cwRk_eq, cnCk_eq, cnMk_eq]

def kcX15_isStep_296 (F : Nat) (h : Qs) : Option (Int32 × Qs) := some ((1 : Int32) , h)
theorem e_X15_isStep_296 {u : Hp} {F : Nat} {h : Qs}  : sX15_isStep_296 F (rel u h) = (kcX15_isStep_296 F h).map (rm2 u) := by
  simp only [sX15_isStep_296, kcX15_isStep_296, l_I, l_J, l_N, l_R, l_wI, l_wJ, l_wR, l_wR0, l_nC, l_nM, nm_rel, nm_hS, l_onr, m_onr, cl_some, m_br, m_gd, m_nm, m_cl, cl_m, mapS, mapN, fcN_eq, fcI_eq, cwIk_eq, cwJk_eq, cwRk_eq, cnCk_eq, cnMk_eq]

def kcX15_isStep_244 (F : Nat) (h : Qs) (x0 : Nat) (x1 : Nat) (x2 : Int32) (x3 : Int32) : Option (Int32 × Qs) := cl (kcX15_isWord F h x0 x1 38) fun o_1 => br (o_1.1 = 0) (kcX15_isStep_296 F o_1.2) (cl (kcX15_nextToken F o_1.2 x0 x1 x2) fun o_3 => cl (cR o_3 x0 5) fun r_4 => cl (kcX15_isNumber o_3 x0 (1 : Int32) (cI o_3 r_4 1)) fun o_5 => br (o_5.1 = 0) (some ((0 : Int32) , o_5.2)) (cl (cR o_5.2 x0 5) fun r_7 => cl (cR o_5.2 r_7 9) fun r_8 => gd (inB x3 (cN o_5.2 r_8)) <| cwIk o_5.2 r_8 x3.toNatClampNeg (cI o_5.2 x0 9) fun h_10 => cl (kcX15_nextToken F h_10 x0 x1 x2) fun o_11 => kcX15_isStep_296 F o_11))
theorem e_X15_isStep_244 {u : Hp} {F : Nat} {h : Qs} {x0 : Nat} {x1 : Nat} {x2 : Int32} {x3 : Int32}  : sX15_isStep_244 F (rel u h) (hS u + x0) (hS u + x1) x2 x3 = (kcX15_isStep_244 F h x0 x1 x2 x3).map (rm2 u) := by
  simp only [sX15_isStep_244, kcX15_isStep_244, e_X15_isWord, e_X15_isStep_296, e_X15_nextToken, e_X15_isNumber, l_I, l_J, l_N, l_R, l_wI, l_wJ, l_wR, l_wR0, l_nC, l_nM, nm_rel, nm_hS, l_onr, m_onr, cl_some, m_br, m_gd, m_nm, m_cl, cl_m, mapS, mapN, fcN_eq, fcI_eq, cwIk_eq, cwJk_eq, cwRk_eq, cnCk_eq, cnMk_eq]

def kcX15_isStep_158 (F : Nat) (h : Qs) (x0 : Nat) (x1 : Nat) (x2 : Int32) (x3 : Int32) : Option (Int32 × Qs) := cl (cR h x0 5) fun r_1 => cl (cR h r_1 7) fun r_2 => gd (inB x3 (cN h r_2)) <| cwIk h r_2 x3.toNatClampNeg (cI h x0 9) fun h_4 => cl (cR h_4 x0 5) fun r_5 => cl (cR h_4 r_5 8) fun r_6 => gd (inB x3 (cN h_4 r_6)) <| cwIk h_4 r_6 x3.toNatClampNeg (1 : Int32) fun h_8 => cl (cR h_8 x0 5) fun r_9 => cl (cR h_8 r_9 9) fun r_10 => gd (inB x3 (cN h_8 r_10)) <| cwIk h_8 r_10 x3.toNatClampNeg (0 : Int32) fun h_12 => cl (kcX15_nextToken F h_12 x0 x1 x2) fun o_13 => cl (kcX15_isWord F o_13 x0 x1 37) fun o_14 => br (o_14.1 = 0) (kcX15_isStep_244 F o_14.2 x0 x1 x2 x3) (cl (kcX15_nextToken F o_14.2 x0 x1 x2) fun o_16 => cl (kcX15_isNumber o_16 x0 (2 : Int32) (7 : Int32)) fun o_17 => br (o_17.1 = 0) (some ((0 : Int32) , o_17.2)) (cl (cR o_17.2 x0 5) fun r_19 => cl (cR o_17.2 r_19 8) fun r_20 => gd (inB x3 (cN o_17.2 r_20)) <| cwIk o_17.2 r_20 x3.toNatClampNeg (cI o_17.2 x0 9) fun h_22 => cl (kcX15_nextToken F h_22 x0 x1 x2) fun o_23 => kcX15_isStep_244 F o_23 x0 x1 x2 x3))
theorem e_X15_isStep_158 {u : Hp} {F : Nat} {h : Qs} {x0 : Nat} {x1 : Nat} {x2 : Int32} {x3 : Int32}  : sX15_isStep_158 F (rel u h) (hS u + x0) (hS u + x1) x2 x3 = (kcX15_isStep_158 F h x0 x1 x2 x3).map (rm2 u) := by
  simp only [sX15_isStep_158, kcX15_isStep_158, e_X15_nextToken, e_X15_isWord, e_X15_isStep_244, e_X15_isNumber, l_I, l_J, l_N, l_R, l_wI, l_wJ, l_wR, l_wR0, l_nC, l_nM, nm_rel, nm_hS, l_onr, m_onr, cl_some, m_br, m_gd, m_nm, m_cl, cl_m, mapS, mapN, fcN_eq, fcI_eq, cwIk_eq, cwJk_eq, cwRk_eq, cnCk_eq, cnMk_eq]

def kcX15_isStep_68 (F : Nat) (h : Qs) : Option (Int32 × Qs) := some ((0 : Int32) , h)
theorem e_X15_isStep_68 {u : Hp} {F : Nat} {h : Qs}  : sX15_isStep_68 F (rel u h) = (kcX15_isStep_68 F h).map (rm2 u) := by
  simp only [sX15_isStep_68, kcX15_isStep_68, l_I, l_J, l_N, l_R, l_wI, l_wJ, l_wR, l_wR0, l_nC, l_nM, nm_rel, nm_hS, l_onr, m_onr, cl_some, m_br, m_gd, m_nm, m_cl, cl_m, mapS, mapN, fcN_eq, fcI_eq, cwIk_eq, cwJk_eq, cwRk_eq, cnCk_eq, cnMk_eq]

def kcX15_isStep_70 (F : Nat) (k_3 : Qs → Nat → Nat → Int32 → Int32 → Int32 → Option (Int32 × Qs)) (h : Qs) (x0 : Nat) (x1 : Nat) (x2 : Int32) (x3 : Int32) (x6 : Int32) : Option (Int32 × Qs) := cl (kcX15_nextToken F h x0 x1 x2) fun o_1 => k_3 o_1 x0 x1 x2 x3 x6
theorem e_X15_isStep_70 {u : Hp} {F : Nat} {k_3 : Hp → Nat → Nat → Int32 → Int32 → Int32 → Option (Int32 × Hp)} {k_3_ : Qs → Nat → Nat → Int32 → Int32 → Int32 → Option (Int32 × Qs)} {h : Qs} {x0 : Nat} {x1 : Nat} {x2 : Int32} {x3 : Int32} {x6 : Int32} (hk_3 : ∀ (h : Qs) (x0 : Nat) (x1 : Nat) (x2 : Int32) (x3 : Int32) (x4 : Int32), k_3 (rel u h) (hS u + x0) (hS u + x1) x2 x3 x4 = (k_3_ h x0 x1 x2 x3 x4).map (rm2 u)) : sX15_isStep_70 F k_3 (rel u h) (hS u + x0) (hS u + x1) x2 x3 x6 = (kcX15_isStep_70 F k_3_ h x0 x1 x2 x3 x6).map (rm2 u) := by
  simp only [sX15_isStep_70, kcX15_isStep_70, e_X15_nextToken, hk_3, l_I, l_J, l_N, l_R, l_wI, l_wJ, l_wR, l_wR0, l_nC, l_nM, nm_rel, nm_hS, l_onr, m_onr, cl_some, m_br, m_gd, m_nm, m_cl, cl_m, mapS, mapN, fcN_eq, fcI_eq, cwIk_eq, cwJk_eq, cwRk_eq, cnCk_eq, cnMk_eq]

def kcX15_isStep_52 (F : Nat) (k_3 : Qs → Nat → Nat → Int32 → Int32 → Int32 → Option (Int32 × Qs)) (h : Qs) (x0 : Nat) (x1 : Nat) (x2 : Int32) (x3 : Int32) (x6 : Int32) : Option (Int32 × Qs) := br ((x6 &&& (8 : Int32)) = 0) (kcX15_isStep_70 F k_3 h x0 x1 x2 x3 x6) (br ((x6 &&& (16 : Int32)) = 0) (kcX15_isStep_70 F k_3 h x0 x1 x2 x3 x6) (kcX15_isStep_68 F h))
theorem e_X15_isStep_52 {u : Hp} {F : Nat} {k_3 : Hp → Nat → Nat → Int32 → Int32 → Int32 → Option (Int32 × Hp)} {k_3_ : Qs → Nat → Nat → Int32 → Int32 → Int32 → Option (Int32 × Qs)} {h : Qs} {x0 : Nat} {x1 : Nat} {x2 : Int32} {x3 : Int32} {x6 : Int32} (hk_3 : ∀ (h : Qs) (x0 : Nat) (x1 : Nat) (x2 : Int32) (x3 : Int32) (x4 : Int32), k_3 (rel u h) (hS u + x0) (hS u + x1) x2 x3 x4 = (k_3_ h x0 x1 x2 x3 x4).map (rm2 u)) : sX15_isStep_52 F k_3 (rel u h) (hS u + x0) (hS u + x1) x2 x3 x6 = (kcX15_isStep_52 F k_3_ h x0 x1 x2 x3 x6).map (rm2 u) := by
  simp only [sX15_isStep_52, kcX15_isStep_52, (e_X15_isStep_70 hk_3), e_X15_isStep_68, hk_3, l_I, l_J, l_N, l_R, l_wI, l_wJ, l_wR, l_wR0, l_nC, l_nM, nm_rel, nm_hS, l_onr, m_onr, cl_some, m_br, m_gd, m_nm, m_cl, cl_m, mapS, mapN, fcN_eq, fcI_eq, cwIk_eq, cwJk_eq, cwRk_eq, cnCk_eq, cnMk_eq]

def kcX15_isStep_3 (F : Nat) : Nat → Qs → Nat → Nat → Int32 → Int32 → Int32 → Option (Int32 × Qs)
  | 0, _, _, _, _, _, _ => none
  | f + 1, h, x0, x1, x2, x3, x4 => br ((cI h x0 6) = (1 : Int32)) (cl (kcX15_flagAt F h x0 x1) fun o_20 => fcI (x4 ||| o_20.1) fun v_21 => br (o_20.1 = 0) (kcX15_isStep_68 F o_20.2) (br ((x4 &&& o_20.1) = 0) (br ((v_21 &&& (1 : Int32)) = 0) (kcX15_isStep_52 F (kcX15_isStep_3 F f) o_20.2 x0 x1 x2 x3 v_21) (br ((v_21 &&& (2 : Int32)) = 0) (kcX15_isStep_52 F (kcX15_isStep_3 F f) o_20.2 x0 x1 x2 x3 v_21) (kcX15_isStep_68 F o_20.2))) (kcX15_isStep_68 F o_20.2))) (cl (cR h x0 5) fun r_2 => cl (cR h r_2 5) fun r_3 => gd (inB x3 (cN h r_3)) <| cwIk h r_3 x3.toNatClampNeg x4 fun h_5 => cl (kcX15_isNumber h_5 x0 (- 7 : Int32) (7 : Int32)) fun o_6 => br (o_6.1 = 0) (some ((0 : Int32) , o_6.2)) (cl (cR o_6.2 x0 5) fun r_8 => cl (cR o_6.2 r_8 6) fun r_9 => gd (inB x3 (cN o_6.2 r_9)) <| cwIk o_6.2 r_9 x3.toNatClampNeg (cI o_6.2 x0 9) fun h_11 => cl (kcX15_nextToken F h_11 x0 x1 x2) fun o_12 => cl (kcX15_isNumber o_12 x0 (- 7 : Int32) (7 : Int32)) fun o_13 => br (o_13.1 = 0) (kcX15_isStep_156 F o_13.2) (br ((cI o_13.2 x0 9) = 0) (cl (cR o_13.2 x0 5) fun r_16 => cl (cR o_13.2 r_16 6) fun r_17 => gd (inB x3 (cN o_13.2 r_17)) <| br ((cI o_13.2 r_17 x3.toNatClampNeg) = 0) (kcX15_isStep_156 F o_13.2) (kcX15_isStep_158 F o_13.2 x0 x1 x2 x3)) (kcX15_isStep_158 F o_13.2 x0 x1 x2 x3))))
theorem e_X15_isStep_3 {u : Hp} {F : Nat}  : ∀ (f : Nat) (h : Qs) (x0 : Nat) (x1 : Nat) (x2 : Int32) (x3 : Int32) (x4 : Int32), sX15_isStep_3 F f (rel u h) (hS u + x0) (hS u + x1) x2 x3 x4 = (kcX15_isStep_3 F f h x0 x1 x2 x3 x4).map (rm2 u) := by
  intro f
  induction f with
  | zero => intros; rfl
  | succ f ih =>
    intro h x0 x1 x2 x3 x4
    simp only [sX15_isStep_3, kcX15_isStep_3, e_X15_flagAt, e_X15_isStep_68, (e_X15_isStep_52 ih), e_X15_isNumber, e_X15_nextToken, e_X15_isStep_156, e_X15_isStep_158, l_I, l_J, l_N, l_R, l_wI, l_wJ, l_wR, l_wR0, l_nC, l_nM, nm_rel, nm_hS, l_onr, m_onr, cl_some, m_br, m_gd, m_nm, m_cl, cl_m, mapS, mapN, fcN_eq, fcI_eq, cwIk_eq, cwJk_eq, cwRk_eq, cnCk_eq, cnMk_eq]

def kcX15_isStep (F : Nat) (h : Qs) (x0 : Nat) (x1 : Nat) (x2 : Int32) (x3 : Int32) : Option (Int32 × Qs) := kcX15_isStep_3 F F h x0 x1 x2 x3 (0 : Int32)
theorem e_X15_isStep {u : Hp} {F : Nat} {h : Qs} {x0 : Nat} {x1 : Nat} {x2 : Int32} {x3 : Int32}  : sX15_isStep F (rel u h) (hS u + x0) (hS u + x1) x2 x3 = (kcX15_isStep F h x0 x1 x2 x3).map (rm2 u) := by
  simp only [sX15_isStep, kcX15_isStep, e_X15_isStep_3, l_I, l_J, l_N, l_R, l_wI, l_wJ, l_wR, l_wR0, l_nC, l_nM, nm_rel, nm_hS, l_onr, m_onr, cl_some, m_br, m_gd, m_nm, m_cl, cl_m, mapS, mapN, fcN_eq, fcI_eq, cwIk_eq, cwJk_eq, cwRk_eq, cnCk_eq, cnMk_eq]

def kcX15_isMan_48 (F : Nat) (h : Qs) : Option (Int32 × Qs) := some ((0 : Int32) , h)
theorem e_X15_isMan_48 {u : Hp} {F : Nat} {h : Qs}  : sX15_isMan_48 F (rel u h) = (kcX15_isMan_48 F h).map (rm2 u) := by
  simp only [sX15_isMan_48, kcX15_isMan_48, l_I, l_J, l_N, l_R, l_wI, l_wJ, l_wR, l_wR0, l_nC, l_nM, nm_rel, nm_hS, l_onr, m_onr, cl_some, m_br, m_gd, m_nm, m_cl, cl_m, mapS, mapN, fcN_eq, fcI_eq, cwIk_eq, cwJk_eq, cwRk_eq, cnCk_eq, cnMk_eq]

def kcX15_isMan_154 (F : Nat) (h : Qs) : Option (Int32 × Qs) := some ((1 : Int32) , h)
theorem e_X15_isMan_154 {u : Hp} {F : Nat} {h : Qs}  : sX15_isMan_154 F (rel u h) = (kcX15_isMan_154 F h).map (rm2 u) := by
  simp only [sX15_isMan_154, kcX15_isMan_154, l_I, l_J, l_N, l_R, l_wI, l_wJ, l_wR, l_wR0, l_nC, l_nM, nm_rel, nm_hS, l_onr, m_onr, cl_some, m_br, m_gd, m_nm, m_cl, cl_m, mapS, mapN, fcN_eq, fcI_eq, cwIk_eq, cwJk_eq, cwRk_eq, cnCk_eq, cnMk_eq]

def kcX15_isMan_92 (F : Nat) : Nat → Qs → Nat → Nat → Int32 → Int32 → Option (Int32 × Qs)
  | 0, _, _, _, _, _ => none
  | f + 1, h, x0, x1, x2, x3 => cl (cR h x0 5) fun r_1 => cl (cR h r_1 4) fun r_2 => gd (inB x3 (cN h r_2)) <| cl (kcX15_isStep F h x0 x1 x2 (((8 : Int32) * x3) + (cI h r_2 x3.toNatClampNeg))) fun o_4 => br (o_4.1 = 0) (some ((0 : Int32) , o_4.2)) (cl (cR o_4.2 x0 5) fun r_6 => cl (cR o_4.2 r_6 4) fun r_7 => gd (inB x3 (cN o_4.2 r_7)) <| gd (inB x3 (cN o_4.2 r_7)) <| cwIk o_4.2 r_7 x3.toNatClampNeg ((cI o_4.2 r_7 x3.toNatClampNeg) + (1 : Int32)) fun h_10 => cl (kcX15_isSign h_10 x0 x1 (44 : Int32)) fun o_11 => br (o_11.1 = 0) (kcX15_isMan_154 F o_11.2) (cl (cR o_11.2 x0 5) fun r_13 => cl (cR o_11.2 r_13 4) fun r_14 => gd (inB x3 (cN o_11.2 r_14)) <| br ((cI o_11.2 r_14 x3.toNatClampNeg) = (8 : Int32)) (kcX15_isMan_154 F o_11.2) (cl (kcX15_nextToken F o_11.2 x0 x1 x2) fun o_17 => kcX15_isMan_92 F f o_17 x0 x1 x2 x3)))
theorem e_X15_isMan_92 {u : Hp} {F : Nat}  : ∀ (f : Nat) (h : Qs) (x0 : Nat) (x1 : Nat) (x2 : Int32) (x3 : Int32), sX15_isMan_92 F f (rel u h) (hS u + x0) (hS u + x1) x2 x3 = (kcX15_isMan_92 F f h x0 x1 x2 x3).map (rm2 u) := by
  intro f
  induction f with
  | zero => intros; rfl
  | succ f ih =>
    intro h x0 x1 x2 x3
    simp only [sX15_isMan_92, kcX15_isMan_92, e_X15_isStep, e_X15_isSign, e_X15_isMan_154, ih, e_X15_nextToken, l_I, l_J, l_N, l_R, l_wI, l_wJ, l_wR, l_wR0, l_nC, l_nM, nm_rel, nm_hS, l_onr, m_onr, cl_some, m_br, m_gd, m_nm, m_cl, cl_m, mapS, mapN, fcN_eq, fcI_eq, cwIk_eq, cwJk_eq, cwRk_eq, cnCk_eq, cnMk_eq]

def kcX15_isMan (F : Nat) (h : Qs) (x0 : Nat) (x1 : Nat) (x2 : Int32) : Option (Int32 × Qs) := cl (kcX15_nextToken F h x0 x1 x2) fun o_1 => br ((cI o_1 x0 6) = (1 : Int32)) (br ((cI o_1 x0 8) = ((cI o_1 x0 7) + (1 : Int32))) (cl (kcX15_manAt F o_1 x0 x1) fun o_4 => br (o_4.1 = (- 1 : Int32)) (cl (cR o_4.2 x0 5) fun r_6 => br ((cI o_4.2 r_6 2) = (12 : Int32)) (kcX15_isMan_48 F o_4.2) (cl (cR o_4.2 x0 5) fun r_8 => fcI (cI o_4.2 r_8 2) fun v_9 => cl (cR o_4.2 x0 5) fun r_10 => cl (cR o_4.2 r_10 3) fun r_11 => gd (inB (cI o_4.2 x0 7) (cN o_4.2 x1)) <| gd (inB v_9 (cN o_4.2 r_11)) <| cwIk o_4.2 r_11 v_9.toNatClampNeg (cI o_4.2 x1 (cI o_4.2 x0 7).toNatClampNeg) fun h_14 => cl (cR h_14 x0 5) fun r_15 => cwIk h_14 r_15 2 ((cI h_14 r_15 2) + (1 : Int32)) fun h_16 => cl (kcX15_nextToken F h_16 x0 x1 x2) fun o_17 => kcX15_isMan_92 F F o_17 x0 x1 x2 v_9)) (kcX15_isMan_48 F o_4.2)) (kcX15_isMan_48 F o_1)) (kcX15_isMan_48 F o_1)
theorem e_X15_isMan {u : Hp} {F : Nat} {h : Qs} {x0 : Nat} {x1 : Nat} {x2 : Int32}  : sX15_isMan F (rel u h) (hS u + x0) (hS u + x1) x2 = (kcX15_isMan F h x0 x1 x2).map (rm2 u) := by
  simp only [sX15_isMan, kcX15_isMan, e_X15_nextToken, e_X15_manAt, e_X15_isMan_48, e_X15_isMan_92, l_I, l_J, l_N, l_R, l_wI, l_wJ, l_wR, l_wR0, l_nC, l_nM, nm_rel, nm_hS, l_onr, m_onr, cl_some, m_br, m_gd, m_nm, m_cl, cl_m, mapS, mapN, fcN_eq, fcI_eq, cwIk_eq, cwJk_eq, cwRk_eq, cnCk_eq, cnMk_eq]

def kcX15_isBecoming_51 (F : Nat) (h : Qs) : Option (Int32 × Qs) := some ((0 : Int32) , h)
theorem e_X15_isBecoming_51 {u : Hp} {F : Nat} {h : Qs}  : sX15_isBecoming_51 F (rel u h) = (kcX15_isBecoming_51 F h).map (rm2 u) := by
  simp only [sX15_isBecoming_51, kcX15_isBecoming_51, l_I, l_J, l_N, l_R, l_wI, l_wJ, l_wR, l_wR0, l_nC, l_nM, nm_rel, nm_hS, l_onr, m_onr, cl_some, m_br, m_gd, m_nm, m_cl, cl_m, mapS, mapN, fcN_eq, fcI_eq, cwIk_eq, cwJk_eq, cwRk_eq, cnCk_eq, cnMk_eq]

def kcX15_isBecoming_172 (F : Nat) (k_62 : Qs → Nat → Nat → Int32 → Int32 → Int32 → Option (Int32 × Qs)) (k_138 : Qs → Nat → Nat → Int32 → Int32 → Int32 → Int32 → Int32 → Int32 → Option (Int32 × Qs)) (h : Qs) (x0 : Nat) (x1 : Nat) (x2 : Int32) (x3 : Int32) (x4 : Int32) (x5 : Int32) (x7 : Int32) (t0 : Int32) (t1 : Int32) : Option (Int32 × Qs) := fcI (t1 &&& t0) fun v_1 => fcI (x7 + (1 : Int32)) fun v_2 => k_138 h x0 x1 x2 x3 x4 x5 v_1 v_2
theorem e_X15_isBecoming_172 {u : Hp} {F : Nat} {k_62 : Hp → Nat → Nat → Int32 → Int32 → Int32 → Option (Int32 × Hp)} {k_62_ : Qs → Nat → Nat → Int32 → Int32 → Int32 → Option (Int32 × Qs)} {k_138 : Hp → Nat → Nat → Int32 → Int32 → Int32 → Int32 → Int32 → Int32 → Option (Int32 × Hp)} {k_138_ : Qs → Nat → Nat → Int32 → Int32 → Int32 → Int32 → Int32 → Int32 → Option (Int32 × Qs)} {h : Qs} {x0 : Nat} {x1 : Nat} {x2 : Int32} {x3 : Int32} {x4 : Int32} {x5 : Int32} {x7 : Int32} {t0 : Int32} {t1 : Int32} (hk_62 : ∀ (h : Qs) (x0 : Nat) (x1 : Nat) (x2 : Int32) (x3 : Int32) (x4 : Int32), k_62 (rel u h) (hS u + x0) (hS u + x1) x2 x3 x4 = (k_62_ h x0 x1 x2 x3 x4).map (rm2 u)) (hk_138 : ∀ (h : Qs) (x0 : Nat) (x1 : Nat) (x2 : Int32) (x3 : Int32) (x4 : Int32) (x5 : Int32) (x6 : Int32) (x7 : Int32), k_138 (rel u h) (hS u + x0) (hS u + x1) x2 x3 x4 x5 x6 x7 = (k_138_ h x0 x1 x2 x3 x4 x5 x6 x7).map (rm2 u)) : sX15_isBecoming_172 F k_62 k_138 (rel u h) (hS u + x0) (hS u + x1) x2 x3 x4 x5 x7 t0 t1 = (kcX15_isBecoming_172 F k_62_ k_138_ h x0 x1 x2 x3 x4 x5 x7 t0 t1).map (rm2 u) := by
  simp only [sX15_isBecoming_172, kcX15_isBecoming_172, hk_62, hk_138, l_I, l_J, l_N, l_R, l_wI, l_wJ, l_wR, l_wR0, l_nC, l_nM, nm_rel, nm_hS, l_onr, m_onr, cl_some, m_br, m_gd, m_nm, m_cl, cl_m, mapS, mapN, fcN_eq, fcI_eq, cwIk_eq, cwJk_eq, cwRk_eq, cnCk_eq, cnMk_eq]

def kcX15_isBecoming_138 (F : Nat) (k_62 : Qs → Nat → Nat → Int32 → Int32 → Int32 → Option (Int32 × Qs)) : Nat → Qs → Nat → Nat → Int32 → Int32 → Int32 → Int32 → Int32 → Int32 → Option (Int32 × Qs)
  | 0, _, _, _, _, _, _, _, _, _ => none
  | f + 1, h, x0, x1, x2, x3, x4, x5, x6, x7 => br (x4 ≤ x7) (br (x6 = 0) (some ((0 : Int32) , h)) (cl (cR h x0 5) fun r_3 => cl (cR h r_3 13) fun r_4 => gd (inB (((6 : Int32) * x3) + x4) (cN h r_4)) <| cwIk h r_4 (((6 : Int32) * x3) + x4).toNatClampNeg x5 fun h_6 => fcI (x4 + (1 : Int32)) fun v_7 => cl (kcX15_nextToken F h_6 x0 x1 x2) fun o_8 => k_62 o_8 x0 x1 x2 x3 v_7)) (cl (cR h x0 5) fun r_9 => cl (cR h r_9 13) fun r_10 => gd (inB (((6 : Int32) * x3) + x7) (cN h r_10)) <| br ((cI h r_10 (((6 : Int32) * x3) + x7).toNatClampNeg) = x5) (kcX15_isBecoming_172 F k_62 (kcX15_isBecoming_138 F k_62 f) h x0 x1 x2 x3 x4 x5 x7 (0 : Int32) x6) (kcX15_isBecoming_172 F k_62 (kcX15_isBecoming_138 F k_62 f) h x0 x1 x2 x3 x4 x5 x7 (1 : Int32) x6))
theorem e_X15_isBecoming_138 {u : Hp} {F : Nat} {k_62 : Hp → Nat → Nat → Int32 → Int32 → Int32 → Option (Int32 × Hp)} {k_62_ : Qs → Nat → Nat → Int32 → Int32 → Int32 → Option (Int32 × Qs)} (hk_62 : ∀ (h : Qs) (x0 : Nat) (x1 : Nat) (x2 : Int32) (x3 : Int32) (x4 : Int32), k_62 (rel u h) (hS u + x0) (hS u + x1) x2 x3 x4 = (k_62_ h x0 x1 x2 x3 x4).map (rm2 u)) : ∀ (f : Nat) (h : Qs) (x0 : Nat) (x1 : Nat) (x2 : Int32) (x3 : Int32) (x4 : Int32) (x5 : Int32) (x6 : Int32) (x7 : Int32), sX15_isBecoming_138 F k_62 f (rel u h) (hS u + x0) (hS u + x1) x2 x3 x4 x5 x6 x7 = (kcX15_isBecoming_138 F k_62_ f h x0 x1 x2 x3 x4 x5 x6 x7).map (rm2 u) := by
  intro f
  induction f with
  | zero => intros; rfl
  | succ f ih =>
    intro h x0 x1 x2 x3 x4 x5 x6 x7
    simp only [sX15_isBecoming_138, kcX15_isBecoming_138, e_X15_nextToken, (e_X15_isBecoming_172 hk_62 ih), hk_62, l_I, l_J, l_N, l_R, l_wI, l_wJ, l_wR, l_wR0, l_nC, l_nM, nm_rel, nm_hS, l_onr, m_onr, cl_some, m_br, m_gd, m_nm, m_cl, cl_m, mapS, mapN, fcN_eq, fcI_eq, cwIk_eq, cwJk_eq, cwRk_eq, cnCk_eq, cnMk_eq]

def kcX15_isBecoming_133 (F : Nat) (k_62 : Qs → Nat → Nat → Int32 → Int32 → Int32 → Option (Int32 × Qs)) (h : Qs) (x0 : Nat) (x1 : Nat) (x2 : Int32) (x3 : Int32) (x4 : Int32) (x5 : Int32) (t0 : Int32) : Option (Int32 × Qs) := kcX15_isBecoming_138 F k_62 F h x0 x1 x2 x3 x4 x5 t0 (0 : Int32)
theorem e_X15_isBecoming_133 {u : Hp} {F : Nat} {k_62 : Hp → Nat → Nat → Int32 → Int32 → Int32 → Option (Int32 × Hp)} {k_62_ : Qs → Nat → Nat → Int32 → Int32 → Int32 → Option (Int32 × Qs)} {h : Qs} {x0 : Nat} {x1 : Nat} {x2 : Int32} {x3 : Int32} {x4 : Int32} {x5 : Int32} {t0 : Int32} (hk_62 : ∀ (h : Qs) (x0 : Nat) (x1 : Nat) (x2 : Int32) (x3 : Int32) (x4 : Int32), k_62 (rel u h) (hS u + x0) (hS u + x1) x2 x3 x4 = (k_62_ h x0 x1 x2 x3 x4).map (rm2 u)) : sX15_isBecoming_133 F k_62 (rel u h) (hS u + x0) (hS u + x1) x2 x3 x4 x5 t0 = (kcX15_isBecoming_133 F k_62_ h x0 x1 x2 x3 x4 x5 t0).map (rm2 u) := by
  simp only [sX15_isBecoming_133, kcX15_isBecoming_133, (e_X15_isBecoming_138 hk_62), hk_62, l_I, l_J, l_N, l_R, l_wI, l_wJ, l_wR, l_wR0, l_nC, l_nM, nm_rel, nm_hS, l_onr, m_onr, cl_some, m_br, m_gd, m_nm, m_cl, cl_m, mapS, mapN, fcN_eq, fcI_eq, cwIk_eq, cwJk_eq, cwRk_eq, cnCk_eq, cnMk_eq]

def kcX15_isBecoming_132 (F : Nat) (k_62 : Qs → Nat → Nat → Int32 → Int32 → Int32 → Option (Int32 × Qs)) (h : Qs) (x0 : Nat) (x1 : Nat) (x2 : Int32) (x3 : Int32) (x4 : Int32) (x5 : Int32) : Option (Int32 × Qs) := kcX15_isBecoming_133 F k_62 h x0 x1 x2 x3 x4 x5 (0 : Int32)
theorem e_X15_isBecoming_132 {u : Hp} {F : Nat} {k_62 : Hp → Nat → Nat → Int32 → Int32 → Int32 → Option (Int32 × Hp)} {k_62_ : Qs → Nat → Nat → Int32 → Int32 → Int32 → Option (Int32 × Qs)} {h : Qs} {x0 : Nat} {x1 : Nat} {x2 : Int32} {x3 : Int32} {x4 : Int32} {x5 : Int32} (hk_62 : ∀ (h : Qs) (x0 : Nat) (x1 : Nat) (x2 : Int32) (x3 : Int32) (x4 : Int32), k_62 (rel u h) (hS u + x0) (hS u + x1) x2 x3 x4 = (k_62_ h x0 x1 x2 x3 x4).map (rm2 u)) : sX15_isBecoming_132 F k_62 (rel u h) (hS u + x0) (hS u + x1) x2 x3 x4 x5 = (kcX15_isBecoming_132 F k_62_ h x0 x1 x2 x3 x4 x5).map (rm2 u) := by
  simp only [sX15_isBecoming_132, kcX15_isBecoming_132, (e_X15_isBecoming_133 hk_62), hk_62, l_I, l_J, l_N, l_R, l_wI, l_wJ, l_wR, l_wR0, l_nC, l_nM, nm_rel, nm_hS, l_onr, m_onr, cl_some, m_br, m_gd, m_nm, m_cl, cl_m, mapS, mapN, fcN_eq, fcI_eq, cwIk_eq, cwJk_eq, cwRk_eq, cnCk_eq, cnMk_eq]

def kcX15_isBecoming_77 (F : Nat) (k_62 : Qs → Nat → Nat → Int32 → Int32 → Int32 → Option (Int32 × Qs)) (h : Qs) (x0 : Nat) (x1 : Nat) (x2 : Int32) (x3 : Int32) (x4 : Int32) : Option (Int32 × Qs) := cl (kcX15_manAt F h x0 x1) fun o_1 => br (o_1.1 = (- 1 : Int32)) (kcX15_isBecoming_132 F k_62 o_1.2 x0 x1 x2 x3 x4 o_1.1) (br (o_1.1 = x3) (kcX15_isBecoming_132 F k_62 o_1.2 x0 x1 x2 x3 x4 o_1.1) (cl (cR o_1.2 x0 5) fun r_4 => br (o_1.1 = (cI o_1.2 r_4 10)) (kcX15_isBecoming_132 F k_62 o_1.2 x0 x1 x2 x3 x4 o_1.1) (cl (cR o_1.2 x0 5) fun r_6 => cl (cR o_1.2 r_6 14) fun r_7 => gd (inB o_1.1 (cN o_1.2 r_7)) <| br ((cI o_1.2 r_7 o_1.1.toNatClampNeg) = 0) (br ((6 : Int32) ≤ x4) (kcX15_isBecoming_132 F k_62 o_1.2 x0 x1 x2 x3 x4 o_1.1) (kcX15_isBecoming_133 F k_62 o_1.2 x0 x1 x2 x3 x4 o_1.1 (1 : Int32))) (kcX15_isBecoming_132 F k_62 o_1.2 x0 x1 x2 x3 x4 o_1.1))))
theorem e_X15_isBecoming_77 {u : Hp} {F : Nat} {k_62 : Hp → Nat → Nat → Int32 → Int32 → Int32 → Option (Int32 × Hp)} {k_62_ : Qs → Nat → Nat → Int32 → Int32 → Int32 → Option (Int32 × Qs)} {h : Qs} {x0 : Nat} {x1 : Nat} {x2 : Int32} {x3 : Int32} {x4 : Int32} (hk_62 : ∀ (h : Qs) (x0 : Nat) (x1 : Nat) (x2 : Int32) (x3 : Int32) (x4 : Int32), k_62 (rel u h) (hS u + x0) (hS u + x1) x2 x3 x4 = (k_62_ h x0 x1 x2 x3 x4).map (rm2 u)) : sX15_isBecoming_77 F k_62 (rel u h) (hS u + x0) (hS u + x1) x2 x3 x4 = (kcX15_isBecoming_77 F k_62_ h x0 x1 x2 x3 x4).map (rm2 u) := by
  simp only [sX15_isBecoming_77, kcX15_isBecoming_77, e_X15_manAt, (e_X15_isBecoming_132 hk_62), (e_X15_isBecoming_133 hk_62), hk_62, l_I, l_J, l_N, l_R, l_wI, l_wJ, l_wR, l_wR0, l_nC, l_nM, nm_rel, nm_hS, l_onr, m_onr, cl_some, m_br, m_gd, m_nm, m_cl, cl_m, mapS, mapN, fcN_eq, fcI_eq, cwIk_eq, cwJk_eq, cwRk_eq, cnCk_eq, cnMk_eq]

def kcX15_isBecoming_254 (F : Nat) (h : Qs) (t0 : Int32) (t1 : Nat) : Option (Int32 × Qs) := cwIk h t1 11 t0 fun h_1 => some ((1 : Int32) , h_1)
theorem e_X15_isBecoming_254 {u : Hp} {F : Nat} {h : Qs} {t0 : Int32} {t1 : Nat}  : sX15_isBecoming_254 F (rel u h) t0 (hS u + t1) = (kcX15_isBecoming_254 F h t0 t1).map (rm2 u) := by
  simp only [sX15_isBecoming_254, kcX15_isBecoming_254, l_I, l_J, l_N, l_R, l_wI, l_wJ, l_wR, l_wR0, l_nC, l_nM, nm_rel, nm_hS, l_onr, m_onr, cl_some, m_br, m_gd, m_nm, m_cl, cl_m, mapS, mapN, fcN_eq, fcI_eq, cwIk_eq, cwJk_eq, cwRk_eq, cnCk_eq, cnMk_eq]

def kcX15_isBecoming_62 (F : Nat) : Nat → Qs → Nat → Nat → Int32 → Int32 → Int32 → Option (Int32 × Qs)
  | 0, _, _, _, _, _, _ => none
  | f + 1, h, x0, x1, x2, x3, x4 => br (x4 = 0) (kcX15_isBecoming_77 F (kcX15_isBecoming_62 F f) h x0 x1 x2 x3 x4) (cl (kcX15_isSign h x0 x1 (59 : Int32)) fun o_2 => br (o_2.1 = 0) (kcX15_isBecoming_77 F (kcX15_isBecoming_62 F f) o_2.2 x0 x1 x2 x3 x4) (cl (cR o_2.2 x0 5) fun r_4 => cl (cR o_2.2 r_4 14) fun r_5 => gd (inB x3 (cN o_2.2 r_5)) <| cwIk o_2.2 r_5 x3.toNatClampNeg x4 fun h_7 => cl (cR h_7 x0 5) fun r_8 => cl (cR h_7 x0 5) fun r_9 => br ((cI h_7 r_9 11) = (- 1 : Int32)) (kcX15_isBecoming_254 F h_7 x3 r_8) (cl (cR h_7 x0 5) fun r_11 => kcX15_isBecoming_254 F h_7 (cI h_7 r_11 11) r_8)))
theorem e_X15_isBecoming_62 {u : Hp} {F : Nat}  : ∀ (f : Nat) (h : Qs) (x0 : Nat) (x1 : Nat) (x2 : Int32) (x3 : Int32) (x4 : Int32), sX15_isBecoming_62 F f (rel u h) (hS u + x0) (hS u + x1) x2 x3 x4 = (kcX15_isBecoming_62 F f h x0 x1 x2 x3 x4).map (rm2 u) := by
  intro f
  induction f with
  | zero => intros; rfl
  | succ f ih =>
    intro h x0 x1 x2 x3 x4
    simp only [sX15_isBecoming_62, kcX15_isBecoming_62, (e_X15_isBecoming_77 ih), e_X15_isSign, e_X15_isBecoming_254, l_I, l_J, l_N, l_R, l_wI, l_wJ, l_wR, l_wR0, l_nC, l_nM, nm_rel, nm_hS, l_onr, m_onr, cl_some, m_br, m_gd, m_nm, m_cl, cl_m, mapS, mapN, fcN_eq, fcI_eq, cwIk_eq, cwJk_eq, cwRk_eq, cnCk_eq, cnMk_eq]

def kcX15_isBecoming (F : Nat) (h : Qs) (x0 : Nat) (x1 : Nat) (x2 : Int32) : Option (Int32 × Qs) := cl (kcX15_nextToken F h x0 x1 x2) fun o_1 => cl (kcX15_manAt F o_1 x0 x1) fun o_2 => br (o_2.1 = (- 1 : Int32)) (kcX15_isBecoming_51 F o_2.2) (cl (cR o_2.2 x0 5) fun r_4 => br (o_2.1 = (cI o_2.2 r_4 10)) (kcX15_isBecoming_51 F o_2.2) (cl (cR o_2.2 x0 5) fun r_6 => cl (cR o_2.2 r_6 14) fun r_7 => gd (inB o_2.1 (cN o_2.2 r_7)) <| br (0 < (cI o_2.2 r_7 o_2.1.toNatClampNeg)) (kcX15_isBecoming_51 F o_2.2) (cl (cR o_2.2 x0 5) fun r_10 => cl (kcX14_isBecome F o_2.2 r_10 o_2.1) fun o_11 => br (o_11.1 = 0) (cl (kcX15_nextToken F o_11.2 x0 x1 x2) fun o_13 => kcX15_isBecoming_62 F F o_13 x0 x1 x2 o_2.1 (0 : Int32)) (kcX15_isBecoming_51 F o_11.2))))
theorem e_X15_isBecoming {u : Hp} {F : Nat} {h : Qs} {x0 : Nat} {x1 : Nat} {x2 : Int32}  : sX15_isBecoming F (rel u h) (hS u + x0) (hS u + x1) x2 = (kcX15_isBecoming F h x0 x1 x2).map (rm2 u) := by
  simp only [sX15_isBecoming, kcX15_isBecoming, e_X15_nextToken, e_X15_manAt, e_X15_isBecoming_51, e_X14_isBecome, e_X15_isBecoming_62, l_I, l_J, l_N, l_R, l_wI, l_wJ, l_wR, l_wR0, l_nC, l_nM, nm_rel, nm_hS, l_onr, m_onr, cl_some, m_br, m_gd, m_nm, m_cl, cl_m, mapS, mapN, fcN_eq, fcI_eq, cwIk_eq, cwJk_eq, cwRk_eq, cnCk_eq, cnMk_eq]

def kcX15_isOnce_16 (h : Qs) (x0 : Nat) (x1 : Int32) (t0 : Int32) : Option (Int32 × Qs) := cwIk h x0 10 ((cI h x0 10) ||| ((1 : Int32) <<< (x1 &&& 31))) fun h_1 => gd (t0 &&& 1 = t0) <| some (t0 , h_1)
theorem e_X15_isOnce_16 {u : Hp} {h : Qs} {x0 : Nat} {x1 : Int32} {t0 : Int32}  : sX15_isOnce_16 (rel u h) (hS u + x0) x1 t0 = (kcX15_isOnce_16 h x0 x1 t0).map (rm2 u) := by
  simp only [sX15_isOnce_16, kcX15_isOnce_16, l_I, l_J, l_N, l_R, l_wI, l_wJ, l_wR, l_wR0, l_nC, l_nM, nm_rel, nm_hS, l_onr, m_onr, cl_some, m_br, m_gd, m_nm, m_cl, cl_m, mapS, mapN, fcN_eq, fcI_eq, cwIk_eq, cwJk_eq, cwRk_eq, cnCk_eq, cnMk_eq]

def kcX15_isOnce (h : Qs) (x0 : Nat) (x1 : Int32) : Option (Int32 × Qs) := br ((((cI h x0 10) >>> (x1 &&& 31)) &&& (1 : Int32)) = 0) (kcX15_isOnce_16 h x0 x1 (1 : Int32)) (kcX15_isOnce_16 h x0 x1 (0 : Int32))
theorem e_X15_isOnce {u : Hp} {h : Qs} {x0 : Nat} {x1 : Int32}  : sX15_isOnce (rel u h) (hS u + x0) x1 = (kcX15_isOnce h x0 x1).map (rm2 u) := by
  simp only [sX15_isOnce, kcX15_isOnce, e_X15_isOnce_16, l_I, l_J, l_N, l_R, l_wI, l_wJ, l_wR, l_wR0, l_nC, l_nM, nm_rel, nm_hS, l_onr, m_onr, cl_some, m_br, m_gd, m_nm, m_cl, cl_m, mapS, mapN, fcN_eq, fcI_eq, cwIk_eq, cwJk_eq, cwRk_eq, cnCk_eq, cnMk_eq]

def kcX15_goesOn (F : Nat) (h : Qs) (x0 : Nat) (x1 : Nat) (x2 : Int32) : Option (Int32 × Qs) := cl (kcX15_nextToken F h x0 x1 x2) fun o_1 => some ((1 : Int32) , o_1)
theorem e_X15_goesOn {u : Hp} {F : Nat} {h : Qs} {x0 : Nat} {x1 : Nat} {x2 : Int32}  : sX15_goesOn F (rel u h) (hS u + x0) (hS u + x1) x2 = (kcX15_goesOn F h x0 x1 x2).map (rm2 u) := by
  simp only [sX15_goesOn, kcX15_goesOn, e_X15_nextToken, l_I, l_J, l_N, l_R, l_wI, l_wJ, l_wR, l_wR0, l_nC, l_nM, nm_rel, nm_hS, l_onr, m_onr, cl_some, m_br, m_gd, m_nm, m_cl, cl_m, mapS, mapN, fcN_eq, fcI_eq, cwIk_eq, cwJk_eq, cwRk_eq, cnCk_eq, cnMk_eq]

def kcX15_isRoyal_40 (F : Nat) (h : Qs) : Option (Int32 × Qs) := some ((0 : Int32) , h)
theorem e_X15_isRoyal_40 {u : Hp} {F : Nat} {h : Qs}  : sX15_isRoyal_40 F (rel u h) = (kcX15_isRoyal_40 F h).map (rm2 u) := by
  simp only [sX15_isRoyal_40, kcX15_isRoyal_40, l_I, l_J, l_N, l_R, l_wI, l_wJ, l_wR, l_wR0, l_nC, l_nM, nm_rel, nm_hS, l_onr, m_onr, cl_some, m_br, m_gd, m_nm, m_cl, cl_m, mapS, mapN, fcN_eq, fcI_eq, cwIk_eq, cwJk_eq, cwRk_eq, cnCk_eq, cnMk_eq]

def kcX15_isRoyal (F : Nat) (h : Qs) (x0 : Nat) (x1 : Nat) (x2 : Int32) : Option (Int32 × Qs) := cl (kcX15_nextToken F h x0 x1 x2) fun o_1 => cl (kcX15_manAt F o_1 x0 x1) fun o_2 => br (o_2.1 = (- 1 : Int32)) (kcX15_isRoyal_40 F o_2.2) (cl (cR o_2.2 x0 5) fun r_4 => cl (cR o_2.2 r_4 14) fun r_5 => gd (inB o_2.1 (cN o_2.2 r_5)) <| br (0 < (cI o_2.2 r_5 o_2.1.toNatClampNeg)) (kcX15_isRoyal_40 F o_2.2) (cl (cR o_2.2 x0 5) fun r_8 => cl (kcX14_isBecome F o_2.2 r_8 o_2.1) fun o_9 => br (o_9.1 = 0) (cl (cR o_9.2 x0 5) fun r_11 => cwIk o_9.2 r_11 10 o_2.1 fun h_12 => cl (kcX15_goesOn F h_12 x0 x1 x2) fun o_13 => gd (o_13.1 &&& 1 = o_13.1) <| some (o_13.1 , o_13.2)) (kcX15_isRoyal_40 F o_9.2)))
theorem e_X15_isRoyal {u : Hp} {F : Nat} {h : Qs} {x0 : Nat} {x1 : Nat} {x2 : Int32}  : sX15_isRoyal F (rel u h) (hS u + x0) (hS u + x1) x2 = (kcX15_isRoyal F h x0 x1 x2).map (rm2 u) := by
  simp only [sX15_isRoyal, kcX15_isRoyal, e_X15_nextToken, e_X15_manAt, e_X15_isRoyal_40, e_X14_isBecome, e_X15_goesOn, l_I, l_J, l_N, l_R, l_wI, l_wJ, l_wR, l_wR0, l_nC, l_nM, nm_rel, nm_hS, l_onr, m_onr, cl_some, m_br, m_gd, m_nm, m_cl, cl_m, mapS, mapN, fcN_eq, fcI_eq, cwIk_eq, cwJk_eq, cwRk_eq, cnCk_eq, cnMk_eq]

