def kcX2_toldMan (F : Nat) (h : Qs) (x0 : Nat) : Option (Int32 × Qs) := cl (kcX2_oneLetter h x0) fun o_1 => br (o_1.1 = (- 1 : Int32)) (kcX2_toldMan_22 F o_1.2 (- 1 : Int32)) (cl (cR o_1.2 x0 1) fun r_3 => cl (kcX1_manOf F o_1.2 r_3 o_1.1) fun o_4 => kcX2_toldMan_22 F o_4.2 o_4.1)
theorem e_X2_toldMan {u : Hp} {F : Nat} {h : Qs} {x0 : Nat}  : sX2_toldMan F (rel u h) (hS u + x0) = (kcX2_toldMan F h x0).map (rm2 u) := by
  simp only [sX2_toldMan, kcX2_toldMan, e_X2_oneLetter, e_X2_toldMan_22, e_X1_manOf, l_I, l_J, l_N, l_R, l_wI, l_wJ, l_wR, l_wR0, l_nC, l_nM, nm_rel, nm_hS, l_onr, m_onr, cl_some, m_br, m_gd, m_nm, m_cl, cl_m, mapS, mapN, fcN_eq, fcI_eq, cwIk_eq, cwJk_eq, cwRk_eq, cnCk_eq, cnMk_eq]

def kcX2_takeBecomes_50 (F : Nat) (h : Qs) : Option (Int32 × Qs) := some ((0 : Int32) , h)
theorem e_X2_takeBecomes_50 {u : Hp} {F : Nat} {h : Qs}  : sX2_takeBecomes_50 F (rel u h) = (kcX2_takeBecomes_50 F h).map (rm2 u) := by
  simp only [sX2_takeBecomes_50, kcX2_takeBecomes_50, l_I, l_J, l_N, l_R, l_wI, l_wJ, l_wR, l_wR0, l_nC, l_nM, nm_rel, nm_hS, l_onr, m_onr, cl_some, m_br, m_gd, m_nm, m_cl, cl_m, mapS, mapN, fcN_eq, fcI_eq, cwIk_eq, cwJk_eq, cwRk_eq, cnCk_eq, cnMk_eq]

def kcX2_takeBecomes_217 (F : Nat) (h : Qs) (t0 : Int32) (t1 : Nat) : Option (Int32 × Qs) := cwIk h t1 5 t0 fun h_1 => some ((1 : Int32) , h_1)
theorem e_X2_takeBecomes_217 {u : Hp} {F : Nat} {h : Qs} {t0 : Int32} {t1 : Nat}  : sX2_takeBecomes_217 F (rel u h) t0 (hS u + t1) = (kcX2_takeBecomes_217 F h t0 t1).map (rm2 u) := by
  simp only [sX2_takeBecomes_217, kcX2_takeBecomes_217, l_I, l_J, l_N, l_R, l_wI, l_wJ, l_wR, l_wR0, l_nC, l_nM, nm_rel, nm_hS, l_onr, m_onr, cl_some, m_br, m_gd, m_nm, m_cl, cl_m, mapS, mapN, fcN_eq, fcI_eq, cwIk_eq, cwJk_eq, cwRk_eq, cnCk_eq, cnMk_eq]

def kcX2_takeBecomes_178 (F : Nat) (h : Qs) (x0 : Nat) (x1 : Int32) (x2 : Int32) : Option (Int32 × Qs) := cl (cR h x0 1) fun r_1 => cwIk h r_1 12 ((cI h r_1 12) ||| x2) fun h_2 => cl (cR h_2 x0 1) fun r_3 => cl (cR h_2 x0 1) fun r_4 => br ((cI h_2 r_4 5) = (- 1 : Int32)) (kcX2_takeBecomes_217 F h_2 x1 r_3) (cl (cR h_2 x0 1) fun r_6 => kcX2_takeBecomes_217 F h_2 (cI h_2 r_6 5) r_3)
theorem e_X2_takeBecomes_178 {u : Hp} {F : Nat} {h : Qs} {x0 : Nat} {x1 : Int32} {x2 : Int32}  : sX2_takeBecomes_178 F (rel u h) (hS u + x0) x1 x2 = (kcX2_takeBecomes_178 F h x0 x1 x2).map (rm2 u) := by
  simp only [sX2_takeBecomes_178, kcX2_takeBecomes_178, e_X2_takeBecomes_217, l_I, l_J, l_N, l_R, l_wI, l_wJ, l_wR, l_wR0, l_nC, l_nM, nm_rel, nm_hS, l_onr, m_onr, cl_some, m_br, m_gd, m_nm, m_cl, cl_m, mapS, mapN, fcN_eq, fcI_eq, cwIk_eq, cwJk_eq, cwRk_eq, cnCk_eq, cnMk_eq]

def kcX2_takeBecomes_108 (F : Nat) (h : Qs) : Option (Int32 × Qs) := some ((0 : Int32) , h)
theorem e_X2_takeBecomes_108 {u : Hp} {F : Nat} {h : Qs}  : sX2_takeBecomes_108 F (rel u h) = (kcX2_takeBecomes_108 F h).map (rm2 u) := by
  simp only [sX2_takeBecomes_108, kcX2_takeBecomes_108, l_I, l_J, l_N, l_R, l_wI, l_wJ, l_wR, l_wR0, l_nC, l_nM, nm_rel, nm_hS, l_onr, m_onr, cl_some, m_br, m_gd, m_nm, m_cl, cl_m, mapS, mapN, fcN_eq, fcI_eq, cwIk_eq, cwJk_eq, cwRk_eq, cnCk_eq, cnMk_eq]

def kcX2_takeBecomes_131 (F : Nat) (h : Qs) : Option (Int32 × Qs) := some ((0 : Int32) , h)
theorem e_X2_takeBecomes_131 {u : Hp} {F : Nat} {h : Qs}  : sX2_takeBecomes_131 F (rel u h) = (kcX2_takeBecomes_131 F h).map (rm2 u) := by
  simp only [sX2_takeBecomes_131, kcX2_takeBecomes_131, l_I, l_J, l_N, l_R, l_wI, l_wJ, l_wR, l_wR0, l_nC, l_nM, nm_rel, nm_hS, l_onr, m_onr, cl_some, m_br, m_gd, m_nm, m_cl, cl_m, mapS, mapN, fcN_eq, fcI_eq, cwIk_eq, cwJk_eq, cwRk_eq, cnCk_eq, cnMk_eq]

def kcX2_takeBecomes_78 (F : Nat) (k_60 : Qs → Nat → Int32 → Int32 → Int32 → Option (Int32 × Qs)) (h : Qs) (x0 : Nat) (x1 : Int32) (x2 : Int32) (x3 : Int32) : Option (Int32 × Qs) := cl (kcX2_toldMan F h x0) fun o_1 => br (o_1.1 = (- 1 : Int32)) (kcX2_takeBecomes_108 F o_1.2) (br (o_1.1 = x1) (kcX2_takeBecomes_108 F o_1.2) (cl (cR o_1.2 x0 1) fun r_4 => br (o_1.1 = (cI o_1.2 r_4 4)) (kcX2_takeBecomes_108 F o_1.2) (cl (cR o_1.2 x0 1) fun r_6 => cl (kcX1_becomesOthers o_1.2 r_6 o_1.1) fun o_7 => br (o_7.1 = 0) (br (((x2 >>> (o_1.1 &&& 31)) &&& (1 : Int32)) = 0) (fcI (x2 ||| ((1 : Int32) <<< (o_1.1 &&& 31))) fun v_10 => cl (cR o_7.2 x0 1) fun r_11 => cl (cR o_7.2 r_11 17) fun r_12 => gd (inB ((x1 * (6 : Int32)) + x3) (cN o_7.2 r_12)) <| cwIk o_7.2 r_12 ((x1 * (6 : Int32)) + x3).toNatClampNeg o_1.1 fun h_14 => cl (cR h_14 x0 1) fun r_15 => cl (cR h_14 r_15 18) fun r_16 => gd (inB x1 (cN h_14 r_16)) <| cwIk h_14 r_16 x1.toNatClampNeg (x3 + (1 : Int32)) fun h_18 => cl (kcX2_advance F h_18 x0) fun o_19 => fcI (x3 + (1 : Int32)) fun v_20 => k_60 o_19 x0 x1 v_10 v_20) (kcX2_takeBecomes_131 F o_7.2)) (kcX2_takeBecomes_131 F o_7.2))))
theorem e_X2_takeBecomes_78 {u : Hp} {F : Nat} {k_60 : Hp → Nat → Int32 → Int32 → Int32 → Option (Int32 × Hp)} {k_60_ : Qs → Nat → Int32 → Int32 → Int32 → Option (Int32 × Qs)} {h : Qs} {x0 : Nat} {x1 : Int32} {x2 : Int32} {x3 : Int32} (hk_60 : ∀ (h : Qs) (x0 : Nat) (x1 : Int32) (x2 : Int32) (x3 : Int32), k_60 (rel u h) (hS u + x0) x1 x2 x3 = (k_60_ h x0 x1 x2 x3).map (rm2 u)) : sX2_takeBecomes_78 F k_60 (rel u h) (hS u + x0) x1 x2 x3 = (kcX2_takeBecomes_78 F k_60_ h x0 x1 x2 x3).map (rm2 u) := by
  simp only [sX2_takeBecomes_78, kcX2_takeBecomes_78, e_X2_toldMan, e_X2_takeBecomes_108, e_X1_becomesOthers, e_X2_advance, e_X2_takeBecomes_131, hk_60, l_I, l_J, l_N, l_R, l_wI, l_wJ, l_wR, l_wR0, l_nC, l_nM, nm_rel, nm_hS, l_onr, m_onr, cl_some, m_br, m_gd, m_nm, m_cl, cl_m, mapS, mapN, fcN_eq, fcI_eq, cwIk_eq, cwJk_eq, cwRk_eq, cnCk_eq, cnMk_eq]

def kcX2_takeBecomes_60 (F : Nat) : Nat → Qs → Nat → Int32 → Int32 → Int32 → Option (Int32 × Qs)
  | 0, _, _, _, _, _ => none
  | f + 1, h, x0, x1, x2, x3 => br ((6 : Int32) ≤ x3) (kcX2_takeBecomes_178 F h x0 x1 x2) (br (x3 = 0) (kcX2_takeBecomes_78 F (kcX2_takeBecomes_60 F f) h x0 x1 x2 x3) (br ((cI h x0 4) = (1 : Int32)) (kcX2_takeBecomes_78 F (kcX2_takeBecomes_60 F f) h x0 x1 x2 x3) (kcX2_takeBecomes_178 F h x0 x1 x2)))
theorem e_X2_takeBecomes_60 {u : Hp} {F : Nat}  : ∀ (f : Nat) (h : Qs) (x0 : Nat) (x1 : Int32) (x2 : Int32) (x3 : Int32), sX2_takeBecomes_60 F f (rel u h) (hS u + x0) x1 x2 x3 = (kcX2_takeBecomes_60 F f h x0 x1 x2 x3).map (rm2 u) := by
  intro f
  induction f with
  | zero => intros; rfl
  | succ f ih =>
    intro h x0 x1 x2 x3
    simp only [sX2_takeBecomes_60, kcX2_takeBecomes_60, e_X2_takeBecomes_178, (e_X2_takeBecomes_78 ih), l_I, l_J, l_N, l_R, l_wI, l_wJ, l_wR, l_wR0, l_nC, l_nM, nm_rel, nm_hS, l_onr, m_onr, cl_some, m_br, m_gd, m_nm, m_cl, cl_m, mapS, mapN, fcN_eq, fcI_eq, cwIk_eq, cwJk_eq, cwRk_eq, cnCk_eq, cnMk_eq]

def kcX2_takeBecomes (F : Nat) (h : Qs) (x0 : Nat) : Option (Int32 × Qs) := cl (kcX2_advance F h x0) fun o_1 => cl (kcX2_toldMan F o_1 x0) fun o_2 => br (o_2.1 = (- 1 : Int32)) (kcX2_takeBecomes_50 F o_2.2) (cl (cR o_2.2 x0 1) fun r_4 => br (o_2.1 = (cI o_2.2 r_4 4)) (kcX2_takeBecomes_50 F o_2.2) (cl (cR o_2.2 x0 1) fun r_6 => cl (kcX1_becomesOthers o_2.2 r_6 o_2.1) fun o_7 => br (o_7.1 = 0) (cl (cR o_7.2 x0 1) fun r_9 => br ((((cI o_7.2 r_9 12) >>> (o_2.1 &&& 31)) &&& (1 : Int32)) = 0) (cl (kcX2_advance F o_7.2 x0) fun o_11 => kcX2_takeBecomes_60 F F o_11 x0 o_2.1 (0 : Int32) (0 : Int32)) (kcX2_takeBecomes_50 F o_7.2)) (kcX2_takeBecomes_50 F o_7.2)))
theorem e_X2_takeBecomes {u : Hp} {F : Nat} {h : Qs} {x0 : Nat}  : sX2_takeBecomes F (rel u h) (hS u + x0) = (kcX2_takeBecomes F h x0).map (rm2 u) := by
  simp only [sX2_takeBecomes, kcX2_takeBecomes, e_X2_advance, e_X2_toldMan, e_X2_takeBecomes_50, e_X1_becomesOthers, e_X2_takeBecomes_60, l_I, l_J, l_N, l_R, l_wI, l_wJ, l_wR, l_wR0, l_nC, l_nM, nm_rel, nm_hS, l_onr, m_onr, cl_some, m_br, m_gd, m_nm, m_cl, cl_m, mapS, mapN, fcN_eq, fcI_eq, cwIk_eq, cwJk_eq, cwRk_eq, cnCk_eq, cnMk_eq]

def kcX2_onceWord_123 (F : Nat) (h : Qs) (t0 : Int32) : Option (Int32 × Qs) := some (t0 , h)
theorem e_X2_onceWord_123 {u : Hp} {F : Nat} {h : Qs} {t0 : Int32}  : sX2_onceWord_123 F (rel u h) t0 = (kcX2_onceWord_123 F h t0).map (rm2 u) := by
  simp only [sX2_onceWord_123, kcX2_onceWord_123, l_I, l_J, l_N, l_R, l_wI, l_wJ, l_wR, l_wR0, l_nC, l_nM, nm_rel, nm_hS, l_onr, m_onr, cl_some, m_br, m_gd, m_nm, m_cl, cl_m, mapS, mapN, fcN_eq, fcI_eq, cwIk_eq, cwJk_eq, cwRk_eq, cnCk_eq, cnMk_eq]

def kcX2_onceWord (F : Nat) (h : Qs) (x0 : Nat) : Option (Int32 × Qs) := cl (kcX2_isWord F h x0 14) fun o_1 => br (o_1.1 = 0) (cl (kcX2_isWord F o_1.2 x0 15) fun o_3 => br (o_3.1 = 0) (cl (kcX2_isWord F o_3.2 x0 16) fun o_5 => br (o_5.1 = 0) (cl (kcX2_isWord F o_5.2 x0 17) fun o_7 => br (o_7.1 = 0) (cl (kcX2_isWord F o_7.2 x0 18) fun o_9 => br (o_9.1 = 0) (cl (kcX2_isWord F o_9.2 x0 19) fun o_11 => br (o_11.1 = 0) (cl (kcX2_isWord F o_11.2 x0 20) fun o_13 => br (o_13.1 = 0) (cl (kcX2_isWord F o_13.2 x0 21) fun o_15 => br (o_15.1 = 0) (cl (kcX2_isWord F o_15.2 x0 22) fun o_17 => br (o_17.1 = 0) (cl (kcX2_isWord F o_17.2 x0 23) fun o_19 => br (o_19.1 = 0) (kcX2_onceWord_123 F o_19.2 (0 : Int32)) (kcX2_onceWord_123 F o_19.2 (512 : Int32))) (some ((256 : Int32) , o_17.2))) (some ((128 : Int32) , o_15.2))) (some ((64 : Int32) , o_13.2))) (some ((32 : Int32) , o_11.2))) (some ((16 : Int32) , o_9.2))) (some ((8 : Int32) , o_7.2))) (some ((4 : Int32) , o_5.2))) (some ((2 : Int32) , o_3.2))) (some ((1 : Int32) , o_1.2))
theorem e_X2_onceWord {u : Hp} {F : Nat} {h : Qs} {x0 : Nat}  : sX2_onceWord F (rel u h) (hS u + x0) = (kcX2_onceWord F h x0).map (rm2 u) := by
  simp only [sX2_onceWord, kcX2_onceWord, e_X2_isWord, e_X2_onceWord_123, l_I, l_J, l_N, l_R, l_wI, l_wJ, l_wR, l_wR0, l_nC, l_nM, nm_rel, nm_hS, l_onr, m_onr, cl_some, m_br, m_gd, m_nm, m_cl, cl_m, mapS, mapN, fcN_eq, fcI_eq, cwIk_eq, cwJk_eq, cwRk_eq, cnCk_eq, cnMk_eq]

def kcX2_takeRoyal_35 (F : Nat) (h : Qs) : Option (Int32 × Qs) := some ((0 : Int32) , h)
theorem e_X2_takeRoyal_35 {u : Hp} {F : Nat} {h : Qs}  : sX2_takeRoyal_35 F (rel u h) = (kcX2_takeRoyal_35 F h).map (rm2 u) := by
  simp only [sX2_takeRoyal_35, kcX2_takeRoyal_35, l_I, l_J, l_N, l_R, l_wI, l_wJ, l_wR, l_wR0, l_nC, l_nM, nm_rel, nm_hS, l_onr, m_onr, cl_some, m_br, m_gd, m_nm, m_cl, cl_m, mapS, mapN, fcN_eq, fcI_eq, cwIk_eq, cwJk_eq, cwRk_eq, cnCk_eq, cnMk_eq]

def kcX2_takeRoyal (F : Nat) (h : Qs) (x0 : Nat) : Option (Int32 × Qs) := cl (kcX2_toldMan F h x0) fun o_1 => br (o_1.1 = (- 1 : Int32)) (kcX2_takeRoyal_35 F o_1.2) (cl (cR o_1.2 x0 1) fun r_3 => cl (kcX1_becomesOthers o_1.2 r_3 o_1.1) fun o_4 => br (o_4.1 = 0) (cl (cR o_4.2 x0 1) fun r_6 => br ((((cI o_4.2 r_6 12) >>> (o_1.1 &&& 31)) &&& (1 : Int32)) = 0) (cl (cR o_4.2 x0 1) fun r_8 => cwIk o_4.2 r_8 4 o_1.1 fun h_9 => cl (kcX2_advance F h_9 x0) fun o_10 => some ((1 : Int32) , o_10)) (kcX2_takeRoyal_35 F o_4.2)) (kcX2_takeRoyal_35 F o_4.2))
theorem e_X2_takeRoyal {u : Hp} {F : Nat} {h : Qs} {x0 : Nat}  : sX2_takeRoyal F (rel u h) (hS u + x0) = (kcX2_takeRoyal F h x0).map (rm2 u) := by
  simp only [sX2_takeRoyal, kcX2_takeRoyal, e_X2_toldMan, e_X2_takeRoyal_35, e_X1_becomesOthers, e_X2_advance, l_I, l_J, l_N, l_R, l_wI, l_wJ, l_wR, l_wR0, l_nC, l_nM, nm_rel, nm_hS, l_onr, m_onr, cl_some, m_br, m_gd, m_nm, m_cl, cl_m, mapS, mapN, fcN_eq, fcI_eq, cwIk_eq, cwJk_eq, cwRk_eq, cnCk_eq, cnMk_eq]

def kcX2_takeCastle_21 (F : Nat) (h : Qs) : Option (Int32 × Qs) := some ((0 : Int32) , h)
theorem e_X2_takeCastle_21 {u : Hp} {F : Nat} {h : Qs}  : sX2_takeCastle_21 F (rel u h) = (kcX2_takeCastle_21 F h).map (rm2 u) := by
  simp only [sX2_takeCastle_21, kcX2_takeCastle_21, l_I, l_J, l_N, l_R, l_wI, l_wJ, l_wR, l_wR0, l_nC, l_nM, nm_rel, nm_hS, l_onr, m_onr, cl_some, m_br, m_gd, m_nm, m_cl, cl_m, mapS, mapN, fcN_eq, fcI_eq, cwIk_eq, cwJk_eq, cwRk_eq, cnCk_eq, cnMk_eq]

def kcX2_takeCastle (F : Nat) (h : Qs) (x0 : Nat) : Option (Int32 × Qs) := cl (kcX2_toldMan F h x0) fun o_1 => br (o_1.1 = (- 1 : Int32)) (kcX2_takeCastle_21 F o_1.2) (cl (cR o_1.2 x0 1) fun r_3 => br (o_1.1 = (cI o_1.2 r_3 4)) (kcX2_takeCastle_21 F o_1.2) (cl (cR o_1.2 x0 1) fun r_5 => cwIk o_1.2 r_5 6 o_1.1 fun h_6 => cl (kcX2_advance F h_6 x0) fun o_7 => some ((1 : Int32) , o_7)))
theorem e_X2_takeCastle {u : Hp} {F : Nat} {h : Qs} {x0 : Nat}  : sX2_takeCastle F (rel u h) (hS u + x0) = (kcX2_takeCastle F h x0).map (rm2 u) := by
  simp only [sX2_takeCastle, kcX2_takeCastle, e_X2_toldMan, e_X2_takeCastle_21, e_X2_advance, l_I, l_J, l_N, l_R, l_wI, l_wJ, l_wR, l_wR0, l_nC, l_nM, nm_rel, nm_hS, l_onr, m_onr, cl_some, m_br, m_gd, m_nm, m_cl, cl_m, mapS, mapN, fcN_eq, fcI_eq, cwIk_eq, cwJk_eq, cwRk_eq, cnCk_eq, cnMk_eq]

def kcX2_takeBlast_81 (F : Nat) (h : Qs) : Option (Int32 × Qs) := some ((1 : Int32) , h)
theorem e_X2_takeBlast_81 {u : Hp} {F : Nat} {h : Qs}  : sX2_takeBlast_81 F (rel u h) = (kcX2_takeBlast_81 F h).map (rm2 u) := by
  simp only [sX2_takeBlast_81, kcX2_takeBlast_81, l_I, l_J, l_N, l_R, l_wI, l_wJ, l_wR, l_wR0, l_nC, l_nM, nm_rel, nm_hS, l_onr, m_onr, cl_some, m_br, m_gd, m_nm, m_cl, cl_m, mapS, mapN, fcN_eq, fcI_eq, cwIk_eq, cwJk_eq, cwRk_eq, cnCk_eq, cnMk_eq]

def kcX2_takeBlast_54 (F : Nat) (h : Qs) : Option (Int32 × Qs) := some ((0 : Int32) , h)
theorem e_X2_takeBlast_54 {u : Hp} {F : Nat} {h : Qs}  : sX2_takeBlast_54 F (rel u h) = (kcX2_takeBlast_54 F h).map (rm2 u) := by
  simp only [sX2_takeBlast_54, kcX2_takeBlast_54, l_I, l_J, l_N, l_R, l_wI, l_wJ, l_wR, l_wR0, l_nC, l_nM, nm_rel, nm_hS, l_onr, m_onr, cl_some, m_br, m_gd, m_nm, m_cl, cl_m, mapS, mapN, fcN_eq, fcI_eq, cwIk_eq, cwJk_eq, cwRk_eq, cnCk_eq, cnMk_eq]

def kcX2_takeBlast_16 (F : Nat) : Nat → Qs → Nat → Int32 → Option (Int32 × Qs)
  | 0, _, _, _ => none
  | f + 1, h, x0, x1 => br ((12 : Int32) ≤ x1) (kcX2_takeBlast_81 F h) (br ((cI h x0 4) = (1 : Int32)) (cl (kcX2_toldMan F h x0) fun o_3 => br (o_3.1 = (- 1 : Int32)) (kcX2_takeBlast_54 F o_3.2) (cl (cR o_3.2 x0 1) fun r_5 => br ((((cI o_3.2 r_5 11) >>> (o_3.1 &&& 31)) &&& (1 : Int32)) = 0) (cl (cR o_3.2 x0 1) fun r_7 => cwIk o_3.2 r_7 11 ((cI o_3.2 r_7 11) ||| ((1 : Int32) <<< (o_3.1 &&& 31))) fun h_8 => cl (kcX2_advance F h_8 x0) fun o_9 => fcI (x1 + (1 : Int32)) fun v_10 => kcX2_takeBlast_16 F f o_9 x0 v_10) (kcX2_takeBlast_54 F o_3.2))) (kcX2_takeBlast_81 F h))
theorem e_X2_takeBlast_16 {u : Hp} {F : Nat}  : ∀ (f : Nat) (h : Qs) (x0 : Nat) (x1 : Int32), sX2_takeBlast_16 F f (rel u h) (hS u + x0) x1 = (kcX2_takeBlast_16 F f h x0 x1).map (rm2 u) := by
  intro f
  induction f with
  | zero => intros; rfl
  | succ f ih =>
    intro h x0 x1
    simp only [sX2_takeBlast_16, kcX2_takeBlast_16, e_X2_takeBlast_81, e_X2_toldMan, e_X2_takeBlast_54, ih, e_X2_advance, l_I, l_J, l_N, l_R, l_wI, l_wJ, l_wR, l_wR0, l_nC, l_nM, nm_rel, nm_hS, l_onr, m_onr, cl_some, m_br, m_gd, m_nm, m_cl, cl_m, mapS, mapN, fcN_eq, fcI_eq, cwIk_eq, cwJk_eq, cwRk_eq, cnCk_eq, cnMk_eq]

def kcX2_takeBlast (F : Nat) (h : Qs) (x0 : Nat) : Option (Int32 × Qs) := cl (cR h x0 1) fun r_1 => cwIk h r_1 10 ((cI h r_1 10) ||| (8 : Int32)) fun h_2 => kcX2_takeBlast_16 F F h_2 x0 (0 : Int32)
theorem e_X2_takeBlast {u : Hp} {F : Nat} {h : Qs} {x0 : Nat}  : sX2_takeBlast F (rel u h) (hS u + x0) = (kcX2_takeBlast F h x0).map (rm2 u) := by
  simp only [sX2_takeBlast, kcX2_takeBlast, e_X2_takeBlast_16, l_I, l_J, l_N, l_R, l_wI, l_wJ, l_wR, l_wR0, l_nC, l_nM, nm_rel, nm_hS, l_onr, m_onr, cl_some, m_br, m_gd, m_nm, m_cl, cl_m, mapS, mapN, fcN_eq, fcI_eq, cwIk_eq, cwJk_eq, cwRk_eq, cnCk_eq, cnMk_eq]

def kcX2_takeChecks (F : Nat) (h : Qs) (x0 : Nat) : Option (Int32 × Qs) := cl (kcX2_isNumber h x0 (1 : Int32) (9 : Int32)) fun o_1 => br (o_1.1 = 0) (some ((0 : Int32) , o_1.2)) (cl (cR o_1.2 x0 1) fun r_3 => cwIk o_1.2 r_3 7 (cI o_1.2 x0 5) fun h_4 => cl (kcX2_advance F h_4 x0) fun o_5 => some ((1 : Int32) , o_5))
theorem e_X2_takeChecks {u : Hp} {F : Nat} {h : Qs} {x0 : Nat}  : sX2_takeChecks F (rel u h) (hS u + x0) = (kcX2_takeChecks F h x0).map (rm2 u) := by
  simp only [sX2_takeChecks, kcX2_takeChecks, e_X2_isNumber, e_X2_advance, l_I, l_J, l_N, l_R, l_wI, l_wJ, l_wR, l_wR0, l_nC, l_nM, nm_rel, nm_hS, l_onr, m_onr, cl_some, m_br, m_gd, m_nm, m_cl, cl_m, mapS, mapN, fcN_eq, fcI_eq, cwIk_eq, cwJk_eq, cwRk_eq, cnCk_eq, cnMk_eq]

def kcX2_takeHill_128 (F : Nat) (h : Qs) : Option (Int32 × Qs) := some ((1 : Int32) , h)
theorem e_X2_takeHill_128 {u : Hp} {F : Nat} {h : Qs}  : sX2_takeHill_128 F (rel u h) = (kcX2_takeHill_128 F h).map (rm2 u) := by
  simp only [sX2_takeHill_128, kcX2_takeHill_128, l_I, l_J, l_N, l_R, l_wI, l_wJ, l_wR, l_wR0, l_nC, l_nM, nm_rel, nm_hS, l_onr, m_onr, cl_some, m_br, m_gd, m_nm, m_cl, cl_m, mapS, mapN, fcN_eq, fcI_eq, cwIk_eq, cwJk_eq, cwRk_eq, cnCk_eq, cnMk_eq]

def kcX2_takeHill_44 (F : Nat) (h : Qs) : Option (Int32 × Qs) := some ((0 : Int32) , h)
theorem e_X2_takeHill_44 {u : Hp} {F : Nat} {h : Qs}  : sX2_takeHill_44 F (rel u h) = (kcX2_takeHill_44 F h).map (rm2 u) := by
  simp only [sX2_takeHill_44, kcX2_takeHill_44, l_I, l_J, l_N, l_R, l_wI, l_wJ, l_wR, l_wR0, l_nC, l_nM, nm_rel, nm_hS, l_onr, m_onr, cl_some, m_br, m_gd, m_nm, m_cl, cl_m, mapS, mapN, fcN_eq, fcI_eq, cwIk_eq, cwJk_eq, cwRk_eq, cnCk_eq, cnMk_eq]

def kcX2_takeHill_20 (F : Nat) (k_2 : Qs → Nat → Int32 → Option (Int32 × Qs)) (h : Qs) (x0 : Nat) (x1 : Int32) : Option (Int32 × Qs) := cl (kcX2_oneLetter h x0) fun o_1 => br (o_1.1 = (- 1 : Int32)) (kcX2_takeHill_44 F o_1.2) (cl (cR o_1.2 x0 1) fun r_3 => br ((o_1.1 - (97 : Int32)) < (cI o_1.2 r_3 0)) (cl (kcX2_advance F o_1.2 x0) fun o_5 => cl (cR o_5 x0 1) fun r_6 => cl (kcX2_isNumber o_5 x0 (1 : Int32) (cI o_5 r_6 1)) fun o_7 => br (o_7.1 = 0) (some ((0 : Int32) , o_7.2)) (cl (cR o_7.2 x0 1) fun r_9 => nm ((1 : Int64) <<< ((((((cI o_7.2 x0 5) - (1 : Int32)) * (cI o_7.2 r_9 0)) + o_1.1) - (97 : Int32)).toInt64 &&& 63)) fun v_10 => cl (cR o_7.2 x0 1) fun r_11 => br ((lg_cmp ((cJ o_7.2 r_11 13) &&& v_10) (0 : Int64)) = 0) (cl (cR o_7.2 x0 1) fun r_13 => cwJk o_7.2 r_13 13 ((cJ o_7.2 r_13 13) ||| v_10) fun h_14 => cl (kcX2_advance F h_14 x0) fun o_15 => fcI (x1 + (1 : Int32)) fun v_16 => k_2 o_15 x0 v_16) (some ((0 : Int32) , o_7.2)))) (kcX2_takeHill_44 F o_1.2))
theorem e_X2_takeHill_20 {u : Hp} {F : Nat} {k_2 : Hp → Nat → Int32 → Option (Int32 × Hp)} {k_2_ : Qs → Nat → Int32 → Option (Int32 × Qs)} {h : Qs} {x0 : Nat} {x1 : Int32} (hk_2 : ∀ (h : Qs) (x0 : Nat) (x1 : Int32), k_2 (rel u h) (hS u + x0) x1 = (k_2_ h x0 x1).map (rm2 u)) : sX2_takeHill_20 F k_2 (rel u h) (hS u + x0) x1 = (kcX2_takeHill_20 F k_2_ h x0 x1).map (rm2 u) := by
  simp only [sX2_takeHill_20, kcX2_takeHill_20, e_X2_oneLetter, e_X2_takeHill_44, e_X2_advance, e_X2_isNumber, hk_2, l_I, l_J, l_N, l_R, l_wI, l_wJ, l_wR, l_wR0, l_nC, l_nM, nm_rel, nm_hS, l_onr, m_onr, cl_some, m_br, m_gd, m_nm, m_cl, cl_m, mapS, mapN, fcN_eq, fcI_eq, cwIk_eq, cwJk_eq, cwRk_eq, cnCk_eq, cnMk_eq]

def kcX2_takeHill_2 (F : Nat) : Nat → Qs → Nat → Int32 → Option (Int32 × Qs)
  | 0, _, _, _ => none
  | f + 1, h, x0, x1 => br ((64 : Int32) < x1) (kcX2_takeHill_128 F h) (br (x1 = 0) (kcX2_takeHill_20 F (kcX2_takeHill_2 F f) h x0 x1) (br ((cI h x0 4) = (1 : Int32)) (kcX2_takeHill_20 F (kcX2_takeHill_2 F f) h x0 x1) (kcX2_takeHill_128 F h)))
theorem e_X2_takeHill_2 {u : Hp} {F : Nat}  : ∀ (f : Nat) (h : Qs) (x0 : Nat) (x1 : Int32), sX2_takeHill_2 F f (rel u h) (hS u + x0) x1 = (kcX2_takeHill_2 F f h x0 x1).map (rm2 u) := by
  intro f
  induction f with
  | zero => intros; rfl
  | succ f ih =>
    intro h x0 x1
    simp only [sX2_takeHill_2, kcX2_takeHill_2, e_X2_takeHill_128, (e_X2_takeHill_20 ih), l_I, l_J, l_N, l_R, l_wI, l_wJ, l_wR, l_wR0, l_nC, l_nM, nm_rel, nm_hS, l_onr, m_onr, cl_some, m_br, m_gd, m_nm, m_cl, cl_m, mapS, mapN, fcN_eq, fcI_eq, cwIk_eq, cwJk_eq, cwRk_eq, cnCk_eq, cnMk_eq]

def kcX2_takeHill (F : Nat) (h : Qs) (x0 : Nat) : Option (Int32 × Qs) := kcX2_takeHill_2 F F h x0 (0 : Int32)
theorem e_X2_takeHill {u : Hp} {F : Nat} {h : Qs} {x0 : Nat}  : sX2_takeHill F (rel u h) (hS u + x0) = (kcX2_takeHill F h x0).map (rm2 u) := by
  simp only [sX2_takeHill, kcX2_takeHill, e_X2_takeHill_2, l_I, l_J, l_N, l_R, l_wI, l_wJ, l_wR, l_wR0, l_nC, l_nM, nm_rel, nm_hS, l_onr, m_onr, cl_some, m_br, m_gd, m_nm, m_cl, cl_m, mapS, mapN, fcN_eq, fcI_eq, cwIk_eq, cwJk_eq, cwRk_eq, cnCk_eq, cnMk_eq]

def kcX2_wonOrLost_36 (F : Nat) (h : Qs) (x1 : Int32) : Option (Int32 × Qs) := some (x1 , h)
theorem e_X2_wonOrLost_36 {u : Hp} {F : Nat} {h : Qs} {x1 : Int32}  : sX2_wonOrLost_36 F (rel u h) x1 = (kcX2_wonOrLost_36 F h x1).map (rm2 u) := by
  simp only [sX2_wonOrLost_36, kcX2_wonOrLost_36, l_I, l_J, l_N, l_R, l_wI, l_wJ, l_wR, l_wR0, l_nC, l_nM, nm_rel, nm_hS, l_onr, m_onr, cl_some, m_br, m_gd, m_nm, m_cl, cl_m, mapS, mapN, fcN_eq, fcI_eq, cwIk_eq, cwJk_eq, cwRk_eq, cnCk_eq, cnMk_eq]

def kcX2_wonOrLost_27 (F : Nat) (h : Qs) (x0 : Nat) (t0 : Int32) : Option (Int32 × Qs) := br (t0 = 0) (kcX2_wonOrLost_36 F h t0) (cl (kcX2_advance F h x0) fun o_2 => kcX2_wonOrLost_36 F o_2 t0)
theorem e_X2_wonOrLost_27 {u : Hp} {F : Nat} {h : Qs} {x0 : Nat} {t0 : Int32}  : sX2_wonOrLost_27 F (rel u h) (hS u + x0) t0 = (kcX2_wonOrLost_27 F h x0 t0).map (rm2 u) := by
  simp only [sX2_wonOrLost_27, kcX2_wonOrLost_27, e_X2_wonOrLost_36, e_X2_advance, l_I, l_J, l_N, l_R, l_wI, l_wJ, l_wR, l_wR0, l_nC, l_nM, nm_rel, nm_hS, l_onr, m_onr, cl_some, m_br, m_gd, m_nm, m_cl, cl_m, mapS, mapN, fcN_eq, fcI_eq, cwIk_eq, cwJk_eq, cwRk_eq, cnCk_eq, cnMk_eq]

def kcX2_wonOrLost (F : Nat) (h : Qs) (x0 : Nat) : Option (Int32 × Qs) := cl (kcX2_isWord F h x0 24) fun o_1 => br (o_1.1 = 0) (cl (kcX2_isWord F o_1.2 x0 25) fun o_3 => br (o_3.1 = 0) (kcX2_wonOrLost_27 F o_3.2 x0 (0 : Int32)) (kcX2_wonOrLost_27 F o_3.2 x0 (2 : Int32))) (kcX2_wonOrLost_27 F o_1.2 x0 (1 : Int32))
theorem e_X2_wonOrLost {u : Hp} {F : Nat} {h : Qs} {x0 : Nat}  : sX2_wonOrLost F (rel u h) (hS u + x0) = (kcX2_wonOrLost F h x0).map (rm2 u) := by
  simp only [sX2_wonOrLost, kcX2_wonOrLost, e_X2_isWord, e_X2_wonOrLost_27, l_I, l_J, l_N, l_R, l_wI, l_wJ, l_wR, l_wR0, l_nC, l_nM, nm_rel, nm_hS, l_onr, m_onr, cl_some, m_br, m_gd, m_nm, m_cl, cl_m, mapS, mapN, fcN_eq, fcI_eq, cwIk_eq, cwJk_eq, cwRk_eq, cnCk_eq, cnMk_eq]

def kcX2_takeOnce_207 (F : Nat) (h : Qs) (t0 : Int32) : Option (Int32 × Qs) := gd (t0 &&& 1 = t0) <| some (t0 , h)
theorem e_X2_takeOnce_207 {u : Hp} {F : Nat} {h : Qs} {t0 : Int32}  : sX2_takeOnce_207 F (rel u h) t0 = (kcX2_takeOnce_207 F h t0).map (rm2 u) := by
  simp only [sX2_takeOnce_207, kcX2_takeOnce_207, l_I, l_J, l_N, l_R, l_wI, l_wJ, l_wR, l_wR0, l_nC, l_nM, nm_rel, nm_hS, l_onr, m_onr, cl_some, m_br, m_gd, m_nm, m_cl, cl_m, mapS, mapN, fcN_eq, fcI_eq, cwIk_eq, cwJk_eq, cwRk_eq, cnCk_eq, cnMk_eq]

def kcX2_takeOnce_180 (F : Nat) (h : Qs) (t0 : Int32) : Option (Int32 × Qs) := gd (t0 &&& 1 = t0) <| some (t0 , h)
theorem e_X2_takeOnce_180 {u : Hp} {F : Nat} {h : Qs} {t0 : Int32}  : sX2_takeOnce_180 F (rel u h) t0 = (kcX2_takeOnce_180 F h t0).map (rm2 u) := by
  simp only [sX2_takeOnce_180, kcX2_takeOnce_180, l_I, l_J, l_N, l_R, l_wI, l_wJ, l_wR, l_wR0, l_nC, l_nM, nm_rel, nm_hS, l_onr, m_onr, cl_some, m_br, m_gd, m_nm, m_cl, cl_m, mapS, mapN, fcN_eq, fcI_eq, cwIk_eq, cwJk_eq, cwRk_eq, cnCk_eq, cnMk_eq]

def kcX2_takeOnce (F : Nat) (h : Qs) (x0 : Nat) (x1 : Int32) : Option (Int32 × Qs) := br (x1 = (1 : Int32)) (cl (kcX2_takeRoyal F h x0) fun o_1 => gd (o_1.1 &&& 1 = o_1.1) <| some (o_1.1 , o_1.2)) (br (x1 = (2 : Int32)) (cl (kcX2_takeCastle F h x0) fun o_4 => gd (o_4.1 &&& 1 = o_4.1) <| some (o_4.1 , o_4.2)) (br (x1 = (4 : Int32)) (cl (cR h x0 1) fun r_7 => cwIk h r_7 10 ((cI h r_7 10) ||| (1 : Int32)) fun h_8 => some ((1 : Int32) , h_8)) (br (x1 = (8 : Int32)) (cl (cR h x0 1) fun r_10 => cwIk h r_10 10 ((cI h r_10 10) ||| (2 : Int32)) fun h_11 => some ((1 : Int32) , h_11)) (br (x1 = (16 : Int32)) (cl (cR h x0 1) fun r_13 => cwIk h r_13 10 ((cI h r_13 10) ||| (4 : Int32)) fun h_14 => some ((1 : Int32) , h_14)) (br (x1 = (32 : Int32)) (cl (kcX2_takeBlast F h x0) fun o_16 => gd (o_16.1 &&& 1 = o_16.1) <| some (o_16.1 , o_16.2)) (br (x1 = (64 : Int32)) (cl (kcX2_takeChecks F h x0) fun o_19 => gd (o_19.1 &&& 1 = o_19.1) <| some (o_19.1 , o_19.2)) (br (x1 = (128 : Int32)) (cl (kcX2_takeHill F h x0) fun o_22 => gd (o_22.1 &&& 1 = o_22.1) <| some (o_22.1 , o_22.2)) (br (x1 = (256 : Int32)) (cl (cR h x0 1) fun r_25 => cl (kcX2_wonOrLost F h x0) fun o_26 => cwIk o_26.2 r_25 8 o_26.1 fun h_27 => cl (cR h_27 x0 1) fun r_28 => br ((cI h_27 r_28 8) = 0) (kcX2_takeOnce_180 F h_27 (0 : Int32)) (kcX2_takeOnce_180 F h_27 (1 : Int32))) (cl (cR h x0 1) fun r_31 => cl (kcX2_wonOrLost F h x0) fun o_32 => cwIk o_32.2 r_31 9 o_32.1 fun h_33 => cl (cR h_33 x0 1) fun r_34 => br ((cI h_33 r_34 9) = 0) (kcX2_takeOnce_207 F h_33 (0 : Int32)) (kcX2_takeOnce_207 F h_33 (1 : Int32)))))))))))
theorem e_X2_takeOnce {u : Hp} {F : Nat} {h : Qs} {x0 : Nat} {x1 : Int32}  : sX2_takeOnce F (rel u h) (hS u + x0) x1 = (kcX2_takeOnce F h x0 x1).map (rm2 u) := by
  simp only [sX2_takeOnce, kcX2_takeOnce, e_X2_takeRoyal, e_X2_takeCastle, e_X2_takeBlast, e_X2_takeChecks, e_X2_takeHill, e_X2_wonOrLost, e_X2_takeOnce_180, e_X2_takeOnce_207, l_I, l_J, l_N, l_R, l_wI, l_wJ, l_wR, l_wR0, l_nC, l_nM, nm_rel, nm_hS, l_onr, m_onr, cl_some, m_br, m_gd, m_nm, m_cl, cl_m, mapS, mapN, fcN_eq, fcI_eq, cwIk_eq, cwJk_eq, cwRk_eq, cnCk_eq, cnMk_eq]

def kcX2_takeOther_44 (F : Nat) (h : Qs) : Option (Int32 × Qs) := some ((0 : Int32) , h)
theorem e_X2_takeOther_44 {u : Hp} {F : Nat} {h : Qs}  : sX2_takeOther_44 F (rel u h) = (kcX2_takeOther_44 F h).map (rm2 u) := by
  simp only [sX2_takeOther_44, kcX2_takeOther_44, l_I, l_J, l_N, l_R, l_wI, l_wJ, l_wR, l_wR0, l_nC, l_nM, nm_rel, nm_hS, l_onr, m_onr, cl_some, m_br, m_gd, m_nm, m_cl, cl_m, mapS, mapN, fcN_eq, fcI_eq, cwIk_eq, cwJk_eq, cwRk_eq, cnCk_eq, cnMk_eq]

def kcX2_takeOther_26 (F : Nat) (h : Qs) (x0 : Nat) (x1 : Int32) (t0 : Int32) : Option (Int32 × Qs) := br (x1 = 0) (kcX2_takeOther_44 F h) (br (t0 = 0) (br (((cI h x0 6) &&& x1) = 0) (cwIk h x0 6 ((cI h x0 6) ||| x1) fun h_4 => cl (kcX2_advance F h_4 x0) fun o_5 => cl (kcX2_takeOnce F o_5 x0 x1) fun o_6 => gd (o_6.1 &&& 1 = o_6.1) <| some (o_6.1 , o_6.2)) (kcX2_takeOther_44 F h)) (kcX2_takeOther_44 F h))
theorem e_X2_takeOther_26 {u : Hp} {F : Nat} {h : Qs} {x0 : Nat} {x1 : Int32} {t0 : Int32}  : sX2_takeOther_26 F (rel u h) (hS u + x0) x1 t0 = (kcX2_takeOther_26 F h x0 x1 t0).map (rm2 u) := by
  simp only [sX2_takeOther_26, kcX2_takeOther_26, e_X2_takeOther_44, e_X2_advance, e_X2_takeOnce, l_I, l_J, l_N, l_R, l_wI, l_wJ, l_wR, l_wR0, l_nC, l_nM, nm_rel, nm_hS, l_onr, m_onr, cl_some, m_br, m_gd, m_nm, m_cl, cl_m, mapS, mapN, fcN_eq, fcI_eq, cwIk_eq, cwJk_eq, cwRk_eq, cnCk_eq, cnMk_eq]

def kcX2_takeOther_25 (F : Nat) (h : Qs) (x0 : Nat) (x1 : Int32) : Option (Int32 × Qs) := kcX2_takeOther_26 F h x0 x1 (0 : Int32)
theorem e_X2_takeOther_25 {u : Hp} {F : Nat} {h : Qs} {x0 : Nat} {x1 : Int32}  : sX2_takeOther_25 F (rel u h) (hS u + x0) x1 = (kcX2_takeOther_25 F h x0 x1).map (rm2 u) := by
  simp only [sX2_takeOther_25, kcX2_takeOther_25, e_X2_takeOther_26, l_I, l_J, l_N, l_R, l_wI, l_wJ, l_wR, l_wR0, l_nC, l_nM, nm_rel, nm_hS, l_onr, m_onr, cl_some, m_br, m_gd, m_nm, m_cl, cl_m, mapS, mapN, fcN_eq, fcI_eq, cwIk_eq, cwJk_eq, cwRk_eq, cnCk_eq, cnMk_eq]

def kcX2_takeOther (F : Nat) (h : Qs) (x0 : Nat) : Option (Int32 × Qs) := cl (kcX2_onceWord F h x0) fun o_1 => br (o_1.1 = (2 : Int32)) (cl (cR o_1.2 x0 1) fun r_3 => br ((cI o_1.2 r_3 4) = (- 1 : Int32)) (kcX2_takeOther_26 F o_1.2 x0 o_1.1 (1 : Int32)) (kcX2_takeOther_25 F o_1.2 x0 o_1.1)) (kcX2_takeOther_25 F o_1.2 x0 o_1.1)
theorem e_X2_takeOther {u : Hp} {F : Nat} {h : Qs} {x0 : Nat}  : sX2_takeOther F (rel u h) (hS u + x0) = (kcX2_takeOther F h x0).map (rm2 u) := by
  simp only [sX2_takeOther, kcX2_takeOther, e_X2_onceWord, e_X2_takeOther_26, e_X2_takeOther_25, l_I, l_J, l_N, l_R, l_wI, l_wJ, l_wR, l_wR0, l_nC, l_nM, nm_rel, nm_hS, l_onr, m_onr, cl_some, m_br, m_gd, m_nm, m_cl, cl_m, mapS, mapN, fcN_eq, fcI_eq, cwIk_eq, cwJk_eq, cwRk_eq, cnCk_eq, cnMk_eq]

def kcX2_read_134 (F : Nat) (h : Qs) (t0 : Int32) : Option (Int32 × Qs) := gd (t0 &&& 1 = t0) <| some (t0 , h)
theorem e_X2_read_134 {u : Hp} {F : Nat} {h : Qs} {t0 : Int32}  : sX2_read_134 F (rel u h) t0 = (kcX2_read_134 F h t0).map (rm2 u) := by
  simp only [sX2_read_134, kcX2_read_134, l_I, l_J, l_N, l_R, l_wI, l_wJ, l_wR, l_wR0, l_nC, l_nM, nm_rel, nm_hS, l_onr, m_onr, cl_some, m_br, m_gd, m_nm, m_cl, cl_m, mapS, mapN, fcN_eq, fcI_eq, cwIk_eq, cwJk_eq, cwRk_eq, cnCk_eq, cnMk_eq]

def kcX2_read_133 (F : Nat) (h : Qs) : Option (Int32 × Qs) := kcX2_read_134 F h (0 : Int32)
theorem e_X2_read_133 {u : Hp} {F : Nat} {h : Qs}  : sX2_read_133 F (rel u h) = (kcX2_read_133 F h).map (rm2 u) := by
  simp only [sX2_read_133, kcX2_read_133, e_X2_read_134, l_I, l_J, l_N, l_R, l_wI, l_wJ, l_wR, l_wR0, l_nC, l_nM, nm_rel, nm_hS, l_onr, m_onr, cl_some, m_br, m_gd, m_nm, m_cl, cl_m, mapS, mapN, fcN_eq, fcI_eq, cwIk_eq, cwJk_eq, cwRk_eq, cnCk_eq, cnMk_eq]

def kcX2_read_118 (F : Nat) (h : Qs) (x0 : Nat) (x3 : Int32) : Option (Int32 × Qs) := br (x3 = 0) (kcX2_read_133 F h) (br ((cI h x0 4) = 0) (kcX2_read_134 F h (1 : Int32)) (kcX2_read_133 F h))
theorem e_X2_read_118 {u : Hp} {F : Nat} {h : Qs} {x0 : Nat} {x3 : Int32}  : sX2_read_118 F (rel u h) (hS u + x0) x3 = (kcX2_read_118 F h x0 x3).map (rm2 u) := by
  simp only [sX2_read_118, kcX2_read_118, e_X2_read_133, e_X2_read_134, l_I, l_J, l_N, l_R, l_wI, l_wJ, l_wR, l_wR0, l_nC, l_nM, nm_rel, nm_hS, l_onr, m_onr, cl_some, m_br, m_gd, m_nm, m_cl, cl_m, mapS, mapN, fcN_eq, fcI_eq, cwIk_eq, cwJk_eq, cwRk_eq, cnCk_eq, cnMk_eq]

def kcX2_read_111 (F : Nat) (k_39 : Qs → Nat → Int32 → Int32 → Option (Int32 × Qs)) (h : Qs) (x0 : Nat) (x4 : Int32) (t0 : Int32) : Option (Int32 × Qs) := fcI (x4 + (1 : Int32)) fun v_1 => k_39 h x0 t0 v_1
theorem e_X2_read_111 {u : Hp} {F : Nat} {k_39 : Hp → Nat → Int32 → Int32 → Option (Int32 × Hp)} {k_39_ : Qs → Nat → Int32 → Int32 → Option (Int32 × Qs)} {h : Qs} {x0 : Nat} {x4 : Int32} {t0 : Int32} (hk_39 : ∀ (h : Qs) (x0 : Nat) (x3 : Int32) (x4 : Int32), k_39 (rel u h) (hS u + x0) x3 x4 = (k_39_ h x0 x3 x4).map (rm2 u)) : sX2_read_111 F k_39 (rel u h) (hS u + x0) x4 t0 = (kcX2_read_111 F k_39_ h x0 x4 t0).map (rm2 u) := by
  simp only [sX2_read_111, kcX2_read_111, hk_39, l_I, l_J, l_N, l_R, l_wI, l_wJ, l_wR, l_wR0, l_nC, l_nM, nm_rel, nm_hS, l_onr, m_onr, cl_some, m_br, m_gd, m_nm, m_cl, cl_m, mapS, mapN, fcN_eq, fcI_eq, cwIk_eq, cwJk_eq, cwRk_eq, cnCk_eq, cnMk_eq]

def kcX2_read_110 (F : Nat) (k_39 : Qs → Nat → Int32 → Int32 → Option (Int32 × Qs)) (h : Qs) (x0 : Nat) (x4 : Int32) : Option (Int32 × Qs) := kcX2_read_111 F k_39 h x0 x4 (0 : Int32)
theorem e_X2_read_110 {u : Hp} {F : Nat} {k_39 : Hp → Nat → Int32 → Int32 → Option (Int32 × Hp)} {k_39_ : Qs → Nat → Int32 → Int32 → Option (Int32 × Qs)} {h : Qs} {x0 : Nat} {x4 : Int32} (hk_39 : ∀ (h : Qs) (x0 : Nat) (x3 : Int32) (x4 : Int32), k_39 (rel u h) (hS u + x0) x3 x4 = (k_39_ h x0 x3 x4).map (rm2 u)) : sX2_read_110 F k_39 (rel u h) (hS u + x0) x4 = (kcX2_read_110 F k_39_ h x0 x4).map (rm2 u) := by
  simp only [sX2_read_110, kcX2_read_110, (e_X2_read_111 hk_39), hk_39, l_I, l_J, l_N, l_R, l_wI, l_wJ, l_wR, l_wR0, l_nC, l_nM, nm_rel, nm_hS, l_onr, m_onr, cl_some, m_br, m_gd, m_nm, m_cl, cl_m, mapS, mapN, fcN_eq, fcI_eq, cwIk_eq, cwJk_eq, cwRk_eq, cnCk_eq, cnMk_eq]

def kcX2_read_94 (F : Nat) (k_39 : Qs → Nat → Int32 → Int32 → Option (Int32 × Qs)) (h : Qs) (x0 : Nat) (x4 : Int32) (t0 : Int32) : Option (Int32 × Qs) := br (t0 = 0) (kcX2_read_110 F k_39 h x0 x4) (cl (kcX2_takeEnd F h x0) fun o_2 => br (o_2.1 = 0) (kcX2_read_110 F k_39 o_2.2 x0 x4) (kcX2_read_111 F k_39 o_2.2 x0 x4 (1 : Int32)))
theorem e_X2_read_94 {u : Hp} {F : Nat} {k_39 : Hp → Nat → Int32 → Int32 → Option (Int32 × Hp)} {k_39_ : Qs → Nat → Int32 → Int32 → Option (Int32 × Qs)} {h : Qs} {x0 : Nat} {x4 : Int32} {t0 : Int32} (hk_39 : ∀ (h : Qs) (x0 : Nat) (x3 : Int32) (x4 : Int32), k_39 (rel u h) (hS u + x0) x3 x4 = (k_39_ h x0 x3 x4).map (rm2 u)) : sX2_read_94 F k_39 (rel u h) (hS u + x0) x4 t0 = (kcX2_read_94 F k_39_ h x0 x4 t0).map (rm2 u) := by
  simp only [sX2_read_94, kcX2_read_94, (e_X2_read_110 hk_39), e_X2_takeEnd, (e_X2_read_111 hk_39), hk_39, l_I, l_J, l_N, l_R, l_wI, l_wJ, l_wR, l_wR0, l_nC, l_nM, nm_rel, nm_hS, l_onr, m_onr, cl_some, m_br, m_gd, m_nm, m_cl, cl_m, mapS, mapN, fcN_eq, fcI_eq, cwIk_eq, cwJk_eq, cwRk_eq, cnCk_eq, cnMk_eq]

def kcX2_read_39 (F : Nat) : Nat → Qs → Nat → Int32 → Int32 → Option (Int32 × Qs)
  | 0, _, _, _, _ => none
  | f + 1, h, x0, x3, x4 => br ((1200 : Int32) ≤ x4) (kcX2_read_118 F h x0 x3) (br (x3 = 0) (kcX2_read_118 F h x0 x3) (br ((cI h x0 4) = 0) (kcX2_read_118 F h x0 x3) (cl (kcX2_isWord F h x0 4) fun o_4 => br (o_4.1 = 0) (cl (kcX2_isWord F o_4.2 x0 13) fun o_6 => br (o_6.1 = 0) (cl (kcX2_takeOther F o_6.2 x0) fun o_8 => kcX2_read_94 F (kcX2_read_39 F f) o_8.2 x0 x4 o_8.1) (cl (kcX2_takeBecomes F o_6.2 x0) fun o_9 => kcX2_read_94 F (kcX2_read_39 F f) o_9.2 x0 x4 o_9.1)) (cl (kcX2_takeMan F o_4.2 x0) fun o_10 => kcX2_read_94 F (kcX2_read_39 F f) o_10.2 x0 x4 o_10.1))))
theorem e_X2_read_39 {u : Hp} {F : Nat}  : ∀ (f : Nat) (h : Qs) (x0 : Nat) (x3 : Int32) (x4 : Int32), sX2_read_39 F f (rel u h) (hS u + x0) x3 x4 = (kcX2_read_39 F f h x0 x3 x4).map (rm2 u) := by
  intro f
  induction f with
  | zero => intros; rfl
  | succ f ih =>
    intro h x0 x3 x4
    simp only [sX2_read_39, kcX2_read_39, e_X2_read_118, e_X2_isWord, (e_X2_read_94 ih), e_X2_takeOther, e_X2_takeBecomes, e_X2_takeMan, l_I, l_J, l_N, l_R, l_wI, l_wJ, l_wR, l_wR0, l_nC, l_nM, nm_rel, nm_hS, l_onr, m_onr, cl_some, m_br, m_gd, m_nm, m_cl, cl_m, mapS, mapN, fcN_eq, fcI_eq, cwIk_eq, cwJk_eq, cwRk_eq, cnCk_eq, cnMk_eq]

def kcX2_read (F : Nat) (h : Qs) (x0 : Nat) (x1 : Nat) (x2 : Nat) : Option (Int32 × Qs) := cwRk h x0 0 (some x1) fun h_1 => cwRk h_1 x0 1 (some x2) fun h_2 => cl (cR h_2 x0 1) fun r_3 => cl (kcX1_clear F h_2 r_3) fun o_4 => cwIk o_4 x0 3 (0 : Int32) fun h_5 => cwIk h_5 x0 6 (0 : Int32) fun h_6 => cl (kcX2_advance F h_6 x0) fun o_7 => cl (kcX2_takeBoard F o_7 x0) fun o_8 => kcX2_read_39 F F o_8.2 x0 o_8.1 (0 : Int32)
theorem e_X2_read {u : Hp} {F : Nat} {h : Qs} {x0 : Nat} {x1 : Nat} {x2 : Nat}  : sX2_read F (rel u h) (hS u + x0) (hS u + x1) (hS u + x2) = (kcX2_read F h x0 x1 x2).map (rm2 u) := by
  simp only [sX2_read, kcX2_read, e_X2_read_39, e_X1_clear, e_X2_advance, e_X2_takeBoard, l_I, l_J, l_N, l_R, l_wI, l_wJ, l_wR, l_wR0, l_nC, l_nM, nm_rel, nm_hS, l_onr, m_onr, cl_some, m_br, m_gd, m_nm, m_cl, cl_m, mapS, mapN, fcN_eq, fcI_eq, cwIk_eq, cwJk_eq, cwRk_eq, cnCk_eq, cnMk_eq]

def kcX3_init_56 (F : Nat) (h : Qs) : Option (Qs) := some h
theorem e_X3_init_56 {u : Hp} {F : Nat} {h : Qs}  : sX3_init_56 F (rel u h) = (kcX3_init_56 F h).map (rm1 u) := by
  simp only [sX3_init_56, kcX3_init_56, l_I, l_J, l_N, l_R, l_wI, l_wJ, l_wR, l_wR0, l_nC, l_nM, nm_rel, nm_hS, l_onr, m_onr, cl_some, m_br, m_gd, m_nm, m_cl, cl_m, mapS, mapN, fcN_eq, fcI_eq, cwIk_eq, cwJk_eq, cwRk_eq, cnCk_eq, cnMk_eq]

def kcX3_init_48 (F : Nat) (h : Qs) (x0 : Nat) : Option (Qs) := cl (cR h x0 2) fun r_1 => cl (kcJ7_fill_53178 F h r_1 (- 1 : Int32)) fun o_2 => kcX3_init_56 F o_2
theorem e_X3_init_48 {u : Hp} {F : Nat} {h : Qs} {x0 : Nat}  : sX3_init_48 F (rel u h) (hS u + x0) = (kcX3_init_48 F h x0).map (rm1 u) := by
  simp only [sX3_init_48, kcX3_init_48, e_X3_init_56, e_J7_fill_53178, l_I, l_J, l_N, l_R, l_wI, l_wJ, l_wR, l_wR0, l_nC, l_nM, nm_rel, nm_hS, l_onr, m_onr, cl_some, m_br, m_gd, m_nm, m_cl, cl_m, mapS, mapN, fcN_eq, fcI_eq, cwIk_eq, cwJk_eq, cwRk_eq, cnCk_eq, cnMk_eq]

def kcX3_init_37 (F : Nat) (h : Qs) (x0 : Nat) (t0 : Nat) (t1 : Nat) : Option (Qs) := cwRk h t1 4 (some t0) fun h_1 => cl (cR h_1 x0 0) fun r_2 => cl (kcJ7_fill_031fb F h_1 r_2 (- 1 : Int32)) fun o_3 => kcX3_init_48 F o_3 x0
theorem e_X3_init_37 {u : Hp} {F : Nat} {h : Qs} {x0 : Nat} {t0 : Nat} {t1 : Nat}  : sX3_init_37 F (rel u h) (hS u + x0) (hS u + t0) (hS u + t1) = (kcX3_init_37 F h x0 t0 t1).map (rm1 u) := by
  simp only [sX3_init_37, kcX3_init_37, e_X3_init_48, e_J7_fill_031fb, l_I, l_J, l_N, l_R, l_wI, l_wJ, l_wR, l_wR0, l_nC, l_nM, nm_rel, nm_hS, l_onr, m_onr, cl_some, m_br, m_gd, m_nm, m_cl, cl_m, mapS, mapN, fcN_eq, fcI_eq, cwIk_eq, cwJk_eq, cwRk_eq, cnCk_eq, cnMk_eq]

def kcX3_init_30 (F : Nat) (h : Qs) (x0 : Nat) (t0 : Nat) (t1 : Nat) : Option (Qs) := cwRk h t1 3 (some t0) fun h_1 => fcN (cS h_1) fun a_2 => cnCk h_1 17 (2 : Int32).toNatClampNeg (2 : Int32).toNatClampNeg fun h_3 => kcX3_init_37 F h_3 x0 a_2 x0
theorem e_X3_init_30 {u : Hp} {F : Nat} {h : Qs} {x0 : Nat} {t0 : Nat} {t1 : Nat}  : sX3_init_30 F (rel u h) (hS u + x0) (hS u + t0) (hS u + t1) = (kcX3_init_30 F h x0 t0 t1).map (rm1 u) := by
  simp only [sX3_init_30, kcX3_init_30, e_X3_init_37, l_I, l_J, l_N, l_R, l_wI, l_wJ, l_wR, l_wR0, l_nC, l_nM, nm_rel, nm_hS, l_onr, m_onr, cl_some, m_br, m_gd, m_nm, m_cl, cl_m, mapS, mapN, fcN_eq, fcI_eq, cwIk_eq, cwJk_eq, cwRk_eq, cnCk_eq, cnMk_eq]

def kcX3_init_23 (F : Nat) (h : Qs) (x0 : Nat) (t0 : Nat) (t1 : Nat) : Option (Qs) := cwRk h t1 2 (some t0) fun h_1 => fcN (cS h_1) fun a_2 => cnCk h_1 18 (2 : Int32).toNatClampNeg (2 : Int32).toNatClampNeg fun h_3 => kcX3_init_30 F h_3 x0 a_2 x0
theorem e_X3_init_23 {u : Hp} {F : Nat} {h : Qs} {x0 : Nat} {t0 : Nat} {t1 : Nat}  : sX3_init_23 F (rel u h) (hS u + x0) (hS u + t0) (hS u + t1) = (kcX3_init_23 F h x0 t0 t1).map (rm1 u) := by
  simp only [sX3_init_23, kcX3_init_23, e_X3_init_30, l_I, l_J, l_N, l_R, l_wI, l_wJ, l_wR, l_wR0, l_nC, l_nM, nm_rel, nm_hS, l_onr, m_onr, cl_some, m_br, m_gd, m_nm, m_cl, cl_m, mapS, mapN, fcN_eq, fcI_eq, cwIk_eq, cwJk_eq, cwRk_eq, cnCk_eq, cnMk_eq]

def kcX3_init_16 (F : Nat) (h : Qs) (x0 : Nat) (t0 : Nat) (t1 : Nat) : Option (Qs) := cwRk h t1 1 (some t0) fun h_1 => fcN (cS h_1) fun a_2 => cnCk h_1 17 (2 : Int32).toNatClampNeg (2 : Int32).toNatClampNeg fun h_3 => kcX3_init_23 F h_3 x0 a_2 x0
theorem e_X3_init_16 {u : Hp} {F : Nat} {h : Qs} {x0 : Nat} {t0 : Nat} {t1 : Nat}  : sX3_init_16 F (rel u h) (hS u + x0) (hS u + t0) (hS u + t1) = (kcX3_init_16 F h x0 t0 t1).map (rm1 u) := by
  simp only [sX3_init_16, kcX3_init_16, e_X3_init_23, l_I, l_J, l_N, l_R, l_wI, l_wJ, l_wR, l_wR0, l_nC, l_nM, nm_rel, nm_hS, l_onr, m_onr, cl_some, m_br, m_gd, m_nm, m_cl, cl_m, mapS, mapN, fcN_eq, fcI_eq, cwIk_eq, cwJk_eq, cwRk_eq, cnCk_eq, cnMk_eq]

def kcX3_init_9 (F : Nat) (h : Qs) (x0 : Nat) (t0 : Nat) (t1 : Nat) : Option (Qs) := cwRk h t1 0 (some t0) fun h_1 => fcN (cS h_1) fun a_2 => cnCk h_1 18 (2 : Int32).toNatClampNeg (2 : Int32).toNatClampNeg fun h_3 => kcX3_init_16 F h_3 x0 a_2 x0
theorem e_X3_init_9 {u : Hp} {F : Nat} {h : Qs} {x0 : Nat} {t0 : Nat} {t1 : Nat}  : sX3_init_9 F (rel u h) (hS u + x0) (hS u + t0) (hS u + t1) = (kcX3_init_9 F h x0 t0 t1).map (rm1 u) := by
  simp only [sX3_init_9, kcX3_init_9, e_X3_init_16, l_I, l_J, l_N, l_R, l_wI, l_wJ, l_wR, l_wR0, l_nC, l_nM, nm_rel, nm_hS, l_onr, m_onr, cl_some, m_br, m_gd, m_nm, m_cl, cl_m, mapS, mapN, fcN_eq, fcI_eq, cwIk_eq, cwJk_eq, cwRk_eq, cnCk_eq, cnMk_eq]

def kcX3_init (F : Nat) (h : Qs) (x0 : Nat) : Option (Qs) := fcN (cS h) fun a_1 => cnCk h 16 (64 : Int32).toNatClampNeg (64 : Int32).toNatClampNeg fun h_2 => kcX3_init_9 F h_2 x0 a_1 x0
theorem e_X3_init {u : Hp} {F : Nat} {h : Qs} {x0 : Nat}  : sX3_init F (rel u h) (hS u + x0) = (kcX3_init F h x0).map (rm1 u) := by
  simp only [sX3_init, kcX3_init, e_X3_init_9, l_I, l_J, l_N, l_R, l_wI, l_wJ, l_wR, l_wR0, l_nC, l_nM, nm_rel, nm_hS, l_onr, m_onr, cl_some, m_br, m_gd, m_nm, m_cl, cl_m, mapS, mapN, fcN_eq, fcI_eq, cwIk_eq, cwJk_eq, cwRk_eq, cnCk_eq, cnMk_eq]

def kcX10_init_60 (h : Qs) (t0 : Nat) (t1 : Nat) : Option (Qs) := cwRk h t1 6 (some t0) fun h_1 => some h_1
theorem e_X10_init_60 {u : Hp} {h : Qs} {t0 : Nat} {t1 : Nat}  : sX10_init_60 (rel u h) (hS u + t0) (hS u + t1) = (kcX10_init_60 h t0 t1).map (rm1 u) := by
  simp only [sX10_init_60, kcX10_init_60, l_I, l_J, l_N, l_R, l_wI, l_wJ, l_wR, l_wR0, l_nC, l_nM, nm_rel, nm_hS, l_onr, m_onr, cl_some, m_br, m_gd, m_nm, m_cl, cl_m, mapS, mapN, fcN_eq, fcI_eq, cwIk_eq, cwJk_eq, cwRk_eq, cnCk_eq, cnMk_eq]

def kcX10_init_51 (h : Qs) (x0 : Nat) (t0 : Nat) (t1 : Nat) : Option (Qs) := cwRk h t1 5 (some t0) fun h_1 => fcN (cS h_1) fun a_2 => cnCk h_1 17 (512 : Int32).toNatClampNeg (512 : Int32).toNatClampNeg fun h_3 => kcX10_init_60 h_3 a_2 x0
theorem e_X10_init_51 {u : Hp} {h : Qs} {x0 : Nat} {t0 : Nat} {t1 : Nat}  : sX10_init_51 (rel u h) (hS u + x0) (hS u + t0) (hS u + t1) = (kcX10_init_51 h x0 t0 t1).map (rm1 u) := by
  simp only [sX10_init_51, kcX10_init_51, e_X10_init_60, l_I, l_J, l_N, l_R, l_wI, l_wJ, l_wR, l_wR0, l_nC, l_nM, nm_rel, nm_hS, l_onr, m_onr, cl_some, m_br, m_gd, m_nm, m_cl, cl_m, mapS, mapN, fcN_eq, fcI_eq, cwIk_eq, cwJk_eq, cwRk_eq, cnCk_eq, cnMk_eq]

def kcX10_init_43 (h : Qs) (x0 : Nat) (t0 : Nat) (t1 : Nat) : Option (Qs) := cwRk h t1 4 (some t0) fun h_1 => fcN (cS h_1) fun a_2 => cnCk h_1 18 (64 : Int32).toNatClampNeg (64 : Int32).toNatClampNeg fun h_3 => kcX10_init_51 h_3 x0 a_2 x0
theorem e_X10_init_43 {u : Hp} {h : Qs} {x0 : Nat} {t0 : Nat} {t1 : Nat}  : sX10_init_43 (rel u h) (hS u + x0) (hS u + t0) (hS u + t1) = (kcX10_init_43 h x0 t0 t1).map (rm1 u) := by
  simp only [sX10_init_43, kcX10_init_43, e_X10_init_51, l_I, l_J, l_N, l_R, l_wI, l_wJ, l_wR, l_wR0, l_nC, l_nM, nm_rel, nm_hS, l_onr, m_onr, cl_some, m_br, m_gd, m_nm, m_cl, cl_m, mapS, mapN, fcN_eq, fcI_eq, cwIk_eq, cwJk_eq, cwRk_eq, cnCk_eq, cnMk_eq]

def kcX10_init_34 (h : Qs) (x0 : Nat) (t0 : Nat) (t1 : Nat) : Option (Qs) := cwRk h t1 3 (some t0) fun h_1 => fcN (cS h_1) fun a_2 => cnCk h_1 18 (1536 : Int32).toNatClampNeg (1536 : Int32).toNatClampNeg fun h_3 => kcX10_init_43 h_3 x0 a_2 x0
theorem e_X10_init_34 {u : Hp} {h : Qs} {x0 : Nat} {t0 : Nat} {t1 : Nat}  : sX10_init_34 (rel u h) (hS u + x0) (hS u + t0) (hS u + t1) = (kcX10_init_34 h x0 t0 t1).map (rm1 u) := by
  simp only [sX10_init_34, kcX10_init_34, e_X10_init_43, l_I, l_J, l_N, l_R, l_wI, l_wJ, l_wR, l_wR0, l_nC, l_nM, nm_rel, nm_hS, l_onr, m_onr, cl_some, m_br, m_gd, m_nm, m_cl, cl_m, mapS, mapN, fcN_eq, fcI_eq, cwIk_eq, cwJk_eq, cwRk_eq, cnCk_eq, cnMk_eq]

def kcX10_init_25 (h : Qs) (x0 : Nat) (t0 : Nat) (t1 : Nat) : Option (Qs) := cwRk h t1 2 (some t0) fun h_1 => fcN (cS h_1) fun a_2 => cnCk h_1 18 (1536 : Int32).toNatClampNeg (1536 : Int32).toNatClampNeg fun h_3 => kcX10_init_34 h_3 x0 a_2 x0
theorem e_X10_init_25 {u : Hp} {h : Qs} {x0 : Nat} {t0 : Nat} {t1 : Nat}  : sX10_init_25 (rel u h) (hS u + x0) (hS u + t0) (hS u + t1) = (kcX10_init_25 h x0 t0 t1).map (rm1 u) := by
  simp only [sX10_init_25, kcX10_init_25, e_X10_init_34, l_I, l_J, l_N, l_R, l_wI, l_wJ, l_wR, l_wR0, l_nC, l_nM, nm_rel, nm_hS, l_onr, m_onr, cl_some, m_br, m_gd, m_nm, m_cl, cl_m, mapS, mapN, fcN_eq, fcI_eq, cwIk_eq, cwJk_eq, cwRk_eq, cnCk_eq, cnMk_eq]

def kcX10_init_17 (h : Qs) (x0 : Nat) (t0 : Nat) (t1 : Nat) : Option (Qs) := cwRk h t1 1 (some t0) fun h_1 => fcN (cS h_1) fun a_2 => cnCk h_1 18 (172032 : Int32).toNatClampNeg (172032 : Int32).toNatClampNeg fun h_3 => kcX10_init_25 h_3 x0 a_2 x0
theorem e_X10_init_17 {u : Hp} {h : Qs} {x0 : Nat} {t0 : Nat} {t1 : Nat}  : sX10_init_17 (rel u h) (hS u + x0) (hS u + t0) (hS u + t1) = (kcX10_init_17 h x0 t0 t1).map (rm1 u) := by
  simp only [sX10_init_17, kcX10_init_17, e_X10_init_25, l_I, l_J, l_N, l_R, l_wI, l_wJ, l_wR, l_wR0, l_nC, l_nM, nm_rel, nm_hS, l_onr, m_onr, cl_some, m_br, m_gd, m_nm, m_cl, cl_m, mapS, mapN, fcN_eq, fcI_eq, cwIk_eq, cwJk_eq, cwRk_eq, cnCk_eq, cnMk_eq]

def kcX10_init_9 (h : Qs) (x0 : Nat) (t0 : Nat) (t1 : Nat) : Option (Qs) := cwRk h t1 0 (some t0) fun h_1 => fcN (cS h_1) fun a_2 => cnCk h_1 17 (172032 : Int32).toNatClampNeg (172032 : Int32).toNatClampNeg fun h_3 => kcX10_init_17 h_3 x0 a_2 x0
theorem e_X10_init_9 {u : Hp} {h : Qs} {x0 : Nat} {t0 : Nat} {t1 : Nat}  : sX10_init_9 (rel u h) (hS u + x0) (hS u + t0) (hS u + t1) = (kcX10_init_9 h x0 t0 t1).map (rm1 u) := by
  simp only [sX10_init_9, kcX10_init_9, e_X10_init_17, l_I, l_J, l_N, l_R, l_wI, l_wJ, l_wR, l_wR0, l_nC, l_nM, nm_rel, nm_hS, l_onr, m_onr, cl_some, m_br, m_gd, m_nm, m_cl, cl_m, mapS, mapN, fcN_eq, fcI_eq, cwIk_eq, cwJk_eq, cwRk_eq, cnCk_eq, cnMk_eq]

def kcX10_init (h : Qs) (x0 : Nat) : Option (Qs) := fcN (cS h) fun a_1 => cnCk h 17 (98305 : Int32).toNatClampNeg (98305 : Int32).toNatClampNeg fun h_2 => kcX10_init_9 h_2 x0 a_1 x0
theorem e_X10_init {u : Hp} {h : Qs} {x0 : Nat}  : sX10_init (rel u h) (hS u + x0) = (kcX10_init h x0).map (rm1 u) := by
  simp only [sX10_init, kcX10_init, e_X10_init_9, l_I, l_J, l_N, l_R, l_wI, l_wJ, l_wR, l_wR0, l_nC, l_nM, nm_rel, nm_hS, l_onr, m_onr, cl_some, m_br, m_gd, m_nm, m_cl, cl_m, mapS, mapN, fcN_eq, fcI_eq, cwIk_eq, cwJk_eq, cwRk_eq, cnCk_eq, cnMk_eq]

def kcX14_init_73 (h : Qs) (t0 : Nat) (t1 : Nat) : Option (Qs) := cwRk h t1 14 (some t0) fun h_1 => some h_1
theorem e_X14_init_73 {u : Hp} {h : Qs} {t0 : Nat} {t1 : Nat}  : sX14_init_73 (rel u h) (hS u + t0) (hS u + t1) = (kcX14_init_73 h t0 t1).map (rm1 u) := by
  simp only [sX14_init_73, kcX14_init_73, l_I, l_J, l_N, l_R, l_wI, l_wJ, l_wR, l_wR0, l_nC, l_nM, nm_rel, nm_hS, l_onr, m_onr, cl_some, m_br, m_gd, m_nm, m_cl, cl_m, mapS, mapN, fcN_eq, fcI_eq, cwIk_eq, cwJk_eq, cwRk_eq, cnCk_eq, cnMk_eq]

def kcX14_init_65 (h : Qs) (x0 : Nat) (t0 : Nat) (t1 : Nat) : Option (Qs) := cwRk h t1 13 (some t0) fun h_1 => fcN (cS h_1) fun a_2 => cnCk h_1 17 (12 : Int32).toNatClampNeg (12 : Int32).toNatClampNeg fun h_3 => kcX14_init_73 h_3 a_2 x0
theorem e_X14_init_65 {u : Hp} {h : Qs} {x0 : Nat} {t0 : Nat} {t1 : Nat}  : sX14_init_65 (rel u h) (hS u + x0) (hS u + t0) (hS u + t1) = (kcX14_init_65 h x0 t0 t1).map (rm1 u) := by
  simp only [sX14_init_65, kcX14_init_65, e_X14_init_73, l_I, l_J, l_N, l_R, l_wI, l_wJ, l_wR, l_wR0, l_nC, l_nM, nm_rel, nm_hS, l_onr, m_onr, cl_some, m_br, m_gd, m_nm, m_cl, cl_m, mapS, mapN, fcN_eq, fcI_eq, cwIk_eq, cwJk_eq, cwRk_eq, cnCk_eq, cnMk_eq]

def kcX14_init_57 (h : Qs) (x0 : Nat) (t0 : Nat) (t1 : Nat) : Option (Qs) := cwRk h t1 9 (some t0) fun h_1 => fcN (cS h_1) fun a_2 => cnCk h_1 17 (72 : Int32).toNatClampNeg (72 : Int32).toNatClampNeg fun h_3 => kcX14_init_65 h_3 x0 a_2 x0
theorem e_X14_init_57 {u : Hp} {h : Qs} {x0 : Nat} {t0 : Nat} {t1 : Nat}  : sX14_init_57 (rel u h) (hS u + x0) (hS u + t0) (hS u + t1) = (kcX14_init_57 h x0 t0 t1).map (rm1 u) := by
  simp only [sX14_init_57, kcX14_init_57, e_X14_init_65, l_I, l_J, l_N, l_R, l_wI, l_wJ, l_wR, l_wR0, l_nC, l_nM, nm_rel, nm_hS, l_onr, m_onr, cl_some, m_br, m_gd, m_nm, m_cl, cl_m, mapS, mapN, fcN_eq, fcI_eq, cwIk_eq, cwJk_eq, cwRk_eq, cnCk_eq, cnMk_eq]

def kcX14_init_49 (h : Qs) (x0 : Nat) (t0 : Nat) (t1 : Nat) : Option (Qs) := cwRk h t1 8 (some t0) fun h_1 => fcN (cS h_1) fun a_2 => cnCk h_1 17 (96 : Int32).toNatClampNeg (96 : Int32).toNatClampNeg fun h_3 => kcX14_init_57 h_3 x0 a_2 x0
theorem e_X14_init_49 {u : Hp} {h : Qs} {x0 : Nat} {t0 : Nat} {t1 : Nat}  : sX14_init_49 (rel u h) (hS u + x0) (hS u + t0) (hS u + t1) = (kcX14_init_49 h x0 t0 t1).map (rm1 u) := by
  simp only [sX14_init_49, kcX14_init_49, e_X14_init_57, l_I, l_J, l_N, l_R, l_wI, l_wJ, l_wR, l_wR0, l_nC, l_nM, nm_rel, nm_hS, l_onr, m_onr, cl_some, m_br, m_gd, m_nm, m_cl, cl_m, mapS, mapN, fcN_eq, fcI_eq, cwIk_eq, cwJk_eq, cwRk_eq, cnCk_eq, cnMk_eq]

def kcX14_init_41 (h : Qs) (x0 : Nat) (t0 : Nat) (t1 : Nat) : Option (Qs) := cwRk h t1 7 (some t0) fun h_1 => fcN (cS h_1) fun a_2 => cnCk h_1 17 (96 : Int32).toNatClampNeg (96 : Int32).toNatClampNeg fun h_3 => kcX14_init_49 h_3 x0 a_2 x0
theorem e_X14_init_41 {u : Hp} {h : Qs} {x0 : Nat} {t0 : Nat} {t1 : Nat}  : sX14_init_41 (rel u h) (hS u + x0) (hS u + t0) (hS u + t1) = (kcX14_init_41 h x0 t0 t1).map (rm1 u) := by
  simp only [sX14_init_41, kcX14_init_41, e_X14_init_49, l_I, l_J, l_N, l_R, l_wI, l_wJ, l_wR, l_wR0, l_nC, l_nM, nm_rel, nm_hS, l_onr, m_onr, cl_some, m_br, m_gd, m_nm, m_cl, cl_m, mapS, mapN, fcN_eq, fcI_eq, cwIk_eq, cwJk_eq, cwRk_eq, cnCk_eq, cnMk_eq]

def kcX14_init_33 (h : Qs) (x0 : Nat) (t0 : Nat) (t1 : Nat) : Option (Qs) := cwRk h t1 6 (some t0) fun h_1 => fcN (cS h_1) fun a_2 => cnCk h_1 17 (96 : Int32).toNatClampNeg (96 : Int32).toNatClampNeg fun h_3 => kcX14_init_41 h_3 x0 a_2 x0
theorem e_X14_init_33 {u : Hp} {h : Qs} {x0 : Nat} {t0 : Nat} {t1 : Nat}  : sX14_init_33 (rel u h) (hS u + x0) (hS u + t0) (hS u + t1) = (kcX14_init_33 h x0 t0 t1).map (rm1 u) := by
  simp only [sX14_init_33, kcX14_init_33, e_X14_init_41, l_I, l_J, l_N, l_R, l_wI, l_wJ, l_wR, l_wR0, l_nC, l_nM, nm_rel, nm_hS, l_onr, m_onr, cl_some, m_br, m_gd, m_nm, m_cl, cl_m, mapS, mapN, fcN_eq, fcI_eq, cwIk_eq, cwJk_eq, cwRk_eq, cnCk_eq, cnMk_eq]

def kcX14_init_25 (h : Qs) (x0 : Nat) (t0 : Nat) (t1 : Nat) : Option (Qs) := cwRk h t1 5 (some t0) fun h_1 => fcN (cS h_1) fun a_2 => cnCk h_1 17 (96 : Int32).toNatClampNeg (96 : Int32).toNatClampNeg fun h_3 => kcX14_init_33 h_3 x0 a_2 x0
theorem e_X14_init_25 {u : Hp} {h : Qs} {x0 : Nat} {t0 : Nat} {t1 : Nat}  : sX14_init_25 (rel u h) (hS u + x0) (hS u + t0) (hS u + t1) = (kcX14_init_25 h x0 t0 t1).map (rm1 u) := by
  simp only [sX14_init_25, kcX14_init_25, e_X14_init_33, l_I, l_J, l_N, l_R, l_wI, l_wJ, l_wR, l_wR0, l_nC, l_nM, nm_rel, nm_hS, l_onr, m_onr, cl_some, m_br, m_gd, m_nm, m_cl, cl_m, mapS, mapN, fcN_eq, fcI_eq, cwIk_eq, cwJk_eq, cwRk_eq, cnCk_eq, cnMk_eq]

def kcX14_init_17 (h : Qs) (x0 : Nat) (t0 : Nat) (t1 : Nat) : Option (Qs) := cwRk h t1 4 (some t0) fun h_1 => fcN (cS h_1) fun a_2 => cnCk h_1 17 (96 : Int32).toNatClampNeg (96 : Int32).toNatClampNeg fun h_3 => kcX14_init_25 h_3 x0 a_2 x0
theorem e_X14_init_17 {u : Hp} {h : Qs} {x0 : Nat} {t0 : Nat} {t1 : Nat}  : sX14_init_17 (rel u h) (hS u + x0) (hS u + t0) (hS u + t1) = (kcX14_init_17 h x0 t0 t1).map (rm1 u) := by
  simp only [sX14_init_17, kcX14_init_17, e_X14_init_25, l_I, l_J, l_N, l_R, l_wI, l_wJ, l_wR, l_wR0, l_nC, l_nM, nm_rel, nm_hS, l_onr, m_onr, cl_some, m_br, m_gd, m_nm, m_cl, cl_m, mapS, mapN, fcN_eq, fcI_eq, cwIk_eq, cwJk_eq, cwRk_eq, cnCk_eq, cnMk_eq]

def kcX14_init_9 (h : Qs) (x0 : Nat) (t0 : Nat) (t1 : Nat) : Option (Qs) := cwRk h t1 3 (some t0) fun h_1 => fcN (cS h_1) fun a_2 => cnCk h_1 17 (12 : Int32).toNatClampNeg (12 : Int32).toNatClampNeg fun h_3 => kcX14_init_17 h_3 x0 a_2 x0
theorem e_X14_init_9 {u : Hp} {h : Qs} {x0 : Nat} {t0 : Nat} {t1 : Nat}  : sX14_init_9 (rel u h) (hS u + x0) (hS u + t0) (hS u + t1) = (kcX14_init_9 h x0 t0 t1).map (rm1 u) := by
  simp only [sX14_init_9, kcX14_init_9, e_X14_init_17, l_I, l_J, l_N, l_R, l_wI, l_wJ, l_wR, l_wR0, l_nC, l_nM, nm_rel, nm_hS, l_onr, m_onr, cl_some, m_br, m_gd, m_nm, m_cl, cl_m, mapS, mapN, fcN_eq, fcI_eq, cwIk_eq, cwJk_eq, cwRk_eq, cnCk_eq, cnMk_eq]

def kcX14_init (h : Qs) (x0 : Nat) : Option (Qs) := fcN (cS h) fun a_1 => cnCk h 17 (12 : Int32).toNatClampNeg (12 : Int32).toNatClampNeg fun h_2 => kcX14_init_9 h_2 x0 a_1 x0
theorem e_X14_init {u : Hp} {h : Qs} {x0 : Nat}  : sX14_init (rel u h) (hS u + x0) = (kcX14_init h x0).map (rm1 u) := by
  simp only [sX14_init, kcX14_init, e_X14_init_9, l_I, l_J, l_N, l_R, l_wI, l_wJ, l_wR, l_wR0, l_nC, l_nM, nm_rel, nm_hS, l_onr, m_onr, cl_some, m_br, m_gd, m_nm, m_cl, cl_m, mapS, mapN, fcN_eq, fcI_eq, cwIk_eq, cwJk_eq, cwRk_eq, cnCk_eq, cnMk_eq]

def kcX12_init_32 (h : Qs) (t0 : Nat) (t1 : Nat) : Option (Qs) := cwRk h t1 6 (some t0) fun h_1 => some h_1
theorem e_X12_init_32 {u : Hp} {h : Qs} {t0 : Nat} {t1 : Nat}  : sX12_init_32 (rel u h) (hS u + t0) (hS u + t1) = (kcX12_init_32 h t0 t1).map (rm1 u) := by
  simp only [sX12_init_32, kcX12_init_32, l_I, l_J, l_N, l_R, l_wI, l_wJ, l_wR, l_wR0, l_nC, l_nM, nm_rel, nm_hS, l_onr, m_onr, cl_some, m_br, m_gd, m_nm, m_cl, cl_m, mapS, mapN, fcN_eq, fcI_eq, cwIk_eq, cwJk_eq, cwRk_eq, cnCk_eq, cnMk_eq]

def kcX12_init_25 (h : Qs) (x0 : Nat) (t0 : Nat) (t1 : Nat) : Option (Qs) := cwRk h t1 5 (some t0) fun h_1 => fcN (cS h_1) fun a_2 => cnCk h_1 17 (2 : Int32).toNatClampNeg (2 : Int32).toNatClampNeg fun h_3 => kcX12_init_32 h_3 a_2 x0
theorem e_X12_init_25 {u : Hp} {h : Qs} {x0 : Nat} {t0 : Nat} {t1 : Nat}  : sX12_init_25 (rel u h) (hS u + x0) (hS u + t0) (hS u + t1) = (kcX12_init_25 h x0 t0 t1).map (rm1 u) := by
  simp only [sX12_init_25, kcX12_init_25, e_X12_init_32, l_I, l_J, l_N, l_R, l_wI, l_wJ, l_wR, l_wR0, l_nC, l_nM, nm_rel, nm_hS, l_onr, m_onr, cl_some, m_br, m_gd, m_nm, m_cl, cl_m, mapS, mapN, fcN_eq, fcI_eq, cwIk_eq, cwJk_eq, cwRk_eq, cnCk_eq, cnMk_eq]

def kcX12_init_17 (h : Qs) (x0 : Nat) (t0 : Nat) (t1 : Nat) : Option (Qs) := cwRk h t1 4 (some t0) fun h_1 => fcN (cS h_1) fun a_2 => cnCk h_1 17 (24 : Int32).toNatClampNeg (24 : Int32).toNatClampNeg fun h_3 => kcX12_init_25 h_3 x0 a_2 x0
theorem e_X12_init_17 {u : Hp} {h : Qs} {x0 : Nat} {t0 : Nat} {t1 : Nat}  : sX12_init_17 (rel u h) (hS u + x0) (hS u + t0) (hS u + t1) = (kcX12_init_17 h x0 t0 t1).map (rm1 u) := by
  simp only [sX12_init_17, kcX12_init_17, e_X12_init_25, l_I, l_J, l_N, l_R, l_wI, l_wJ, l_wR, l_wR0, l_nC, l_nM, nm_rel, nm_hS, l_onr, m_onr, cl_some, m_br, m_gd, m_nm, m_cl, cl_m, mapS, mapN, fcN_eq, fcI_eq, cwIk_eq, cwJk_eq, cwRk_eq, cnCk_eq, cnMk_eq]

def kcX12_init_9 (h : Qs) (x0 : Nat) (t0 : Nat) (t1 : Nat) : Option (Qs) := cwRk h t1 0 (some t0) fun h_1 => fcN (cS h_1) fun a_2 => cnCk h_1 17 (64 : Int32).toNatClampNeg (64 : Int32).toNatClampNeg fun h_3 => kcX12_init_17 h_3 x0 a_2 x0
theorem e_X12_init_9 {u : Hp} {h : Qs} {x0 : Nat} {t0 : Nat} {t1 : Nat}  : sX12_init_9 (rel u h) (hS u + x0) (hS u + t0) (hS u + t1) = (kcX12_init_9 h x0 t0 t1).map (rm1 u) := by
  simp only [sX12_init_9, kcX12_init_9, e_X12_init_17, l_I, l_J, l_N, l_R, l_wI, l_wJ, l_wR, l_wR0, l_nC, l_nM, nm_rel, nm_hS, l_onr, m_onr, cl_some, m_br, m_gd, m_nm, m_cl, cl_m, mapS, mapN, fcN_eq, fcI_eq, cwIk_eq, cwJk_eq, cwRk_eq, cnCk_eq, cnMk_eq]

def kcX12_init (h : Qs) (x0 : Nat) : Option (Qs) := fcN (cS h) fun a_1 => cnCk h 17 (64 : Int32).toNatClampNeg (64 : Int32).toNatClampNeg fun h_2 => kcX12_init_9 h_2 x0 a_1 x0
theorem e_X12_init {u : Hp} {h : Qs} {x0 : Nat}  : sX12_init (rel u h) (hS u + x0) = (kcX12_init h x0).map (rm1 u) := by
  simp only [sX12_init, kcX12_init, e_X12_init_9, l_I, l_J, l_N, l_R, l_wI, l_wJ, l_wR, l_wR0, l_nC, l_nM, nm_rel, nm_hS, l_onr, m_onr, cl_some, m_br, m_gd, m_nm, m_cl, cl_m, mapS, mapN, fcN_eq, fcI_eq, cwIk_eq, cwJk_eq, cwRk_eq, cnCk_eq, cnMk_eq]

def kcX13_init_64 (h : Qs) (t0 : Nat) (t1 : Nat) : Option (Qs) := cwRk h t1 7 (some t0) fun h_1 => some h_1
theorem e_X13_init_64 {u : Hp} {h : Qs} {t0 : Nat} {t1 : Nat}  : sX13_init_64 (rel u h) (hS u + t0) (hS u + t1) = (kcX13_init_64 h t0 t1).map (rm1 u) := by
  simp only [sX13_init_64, kcX13_init_64, l_I, l_J, l_N, l_R, l_wI, l_wJ, l_wR, l_wR0, l_nC, l_nM, nm_rel, nm_hS, l_onr, m_onr, cl_some, m_br, m_gd, m_nm, m_cl, cl_m, mapS, mapN, fcN_eq, fcI_eq, cwIk_eq, cwJk_eq, cwRk_eq, cnCk_eq, cnMk_eq]

def kcX13_init_55 (h : Qs) (x0 : Nat) (t0 : Nat) (t1 : Nat) : Option (Qs) := cwRk h t1 6 (some t0) fun h_1 => fcN (cS h_1) fun a_2 => cnCk h_1 17 (3000 : Int32).toNatClampNeg (3000 : Int32).toNatClampNeg fun h_3 => kcX13_init_64 h_3 a_2 x0
theorem e_X13_init_55 {u : Hp} {h : Qs} {x0 : Nat} {t0 : Nat} {t1 : Nat}  : sX13_init_55 (rel u h) (hS u + x0) (hS u + t0) (hS u + t1) = (kcX13_init_55 h x0 t0 t1).map (rm1 u) := by
  simp only [sX13_init_55, kcX13_init_55, e_X13_init_64, l_I, l_J, l_N, l_R, l_wI, l_wJ, l_wR, l_wR0, l_nC, l_nM, nm_rel, nm_hS, l_onr, m_onr, cl_some, m_br, m_gd, m_nm, m_cl, cl_m, mapS, mapN, fcN_eq, fcI_eq, cwIk_eq, cwJk_eq, cwRk_eq, cnCk_eq, cnMk_eq]

def kcX13_init_46 (h : Qs) (x0 : Nat) (t0 : Nat) (t1 : Nat) : Option (Qs) := cwRk h t1 5 (some t0) fun h_1 => fcN (cS h_1) fun a_2 => cnCk h_1 17 (3000 : Int32).toNatClampNeg (3000 : Int32).toNatClampNeg fun h_3 => kcX13_init_55 h_3 x0 a_2 x0
theorem e_X13_init_46 {u : Hp} {h : Qs} {x0 : Nat} {t0 : Nat} {t1 : Nat}  : sX13_init_46 (rel u h) (hS u + x0) (hS u + t0) (hS u + t1) = (kcX13_init_46 h x0 t0 t1).map (rm1 u) := by
  simp only [sX13_init_46, kcX13_init_46, e_X13_init_55, l_I, l_J, l_N, l_R, l_wI, l_wJ, l_wR, l_wR0, l_nC, l_nM, nm_rel, nm_hS, l_onr, m_onr, cl_some, m_br, m_gd, m_nm, m_cl, cl_m, mapS, mapN, fcN_eq, fcI_eq, cwIk_eq, cwJk_eq, cwRk_eq, cnCk_eq, cnMk_eq]

def kcX13_init_37 (h : Qs) (x0 : Nat) (t0 : Nat) (t1 : Nat) : Option (Qs) := cwRk h t1 4 (some t0) fun h_1 => fcN (cS h_1) fun a_2 => cnCk h_1 17 (3000 : Int32).toNatClampNeg (3000 : Int32).toNatClampNeg fun h_3 => kcX13_init_46 h_3 x0 a_2 x0
theorem e_X13_init_37 {u : Hp} {h : Qs} {x0 : Nat} {t0 : Nat} {t1 : Nat}  : sX13_init_37 (rel u h) (hS u + x0) (hS u + t0) (hS u + t1) = (kcX13_init_37 h x0 t0 t1).map (rm1 u) := by
  simp only [sX13_init_37, kcX13_init_37, e_X13_init_46, l_I, l_J, l_N, l_R, l_wI, l_wJ, l_wR, l_wR0, l_nC, l_nM, nm_rel, nm_hS, l_onr, m_onr, cl_some, m_br, m_gd, m_nm, m_cl, cl_m, mapS, mapN, fcN_eq, fcI_eq, cwIk_eq, cwJk_eq, cwRk_eq, cnCk_eq, cnMk_eq]

def kcX13_init_28 (h : Qs) (x0 : Nat) (t0 : Nat) (t1 : Nat) : Option (Qs) := cwRk h t1 3 (some t0) fun h_1 => fcN (cS h_1) fun a_2 => cnCk h_1 17 (3000 : Int32).toNatClampNeg (3000 : Int32).toNatClampNeg fun h_3 => kcX13_init_37 h_3 x0 a_2 x0
theorem e_X13_init_28 {u : Hp} {h : Qs} {x0 : Nat} {t0 : Nat} {t1 : Nat}  : sX13_init_28 (rel u h) (hS u + x0) (hS u + t0) (hS u + t1) = (kcX13_init_28 h x0 t0 t1).map (rm1 u) := by
  simp only [sX13_init_28, kcX13_init_28, e_X13_init_37, l_I, l_J, l_N, l_R, l_wI, l_wJ, l_wR, l_wR0, l_nC, l_nM, nm_rel, nm_hS, l_onr, m_onr, cl_some, m_br, m_gd, m_nm, m_cl, cl_m, mapS, mapN, fcN_eq, fcI_eq, cwIk_eq, cwJk_eq, cwRk_eq, cnCk_eq, cnMk_eq]

def kcX13_init_19 (h : Qs) (x0 : Nat) (t0 : Nat) (t1 : Nat) : Option (Qs) := cwRk h t1 2 (some t0) fun h_1 => fcN (cS h_1) fun a_2 => cnCk h_1 17 (3000 : Int32).toNatClampNeg (3000 : Int32).toNatClampNeg fun h_3 => kcX13_init_28 h_3 x0 a_2 x0
theorem e_X13_init_19 {u : Hp} {h : Qs} {x0 : Nat} {t0 : Nat} {t1 : Nat}  : sX13_init_19 (rel u h) (hS u + x0) (hS u + t0) (hS u + t1) = (kcX13_init_19 h x0 t0 t1).map (rm1 u) := by
  simp only [sX13_init_19, kcX13_init_19, e_X13_init_28, l_I, l_J, l_N, l_R, l_wI, l_wJ, l_wR, l_wR0, l_nC, l_nM, nm_rel, nm_hS, l_onr, m_onr, cl_some, m_br, m_gd, m_nm, m_cl, cl_m, mapS, mapN, fcN_eq, fcI_eq, cwIk_eq, cwJk_eq, cwRk_eq, cnCk_eq, cnMk_eq]

def kcX13_init_10 (h : Qs) (x0 : Nat) (t0 : Nat) (t1 : Nat) : Option (Qs) := cwRk h t1 1 (some t0) fun h_1 => fcN (cS h_1) fun a_2 => cnCk h_1 17 (3000 : Int32).toNatClampNeg (3000 : Int32).toNatClampNeg fun h_3 => kcX13_init_19 h_3 x0 a_2 x0
theorem e_X13_init_10 {u : Hp} {h : Qs} {x0 : Nat} {t0 : Nat} {t1 : Nat}  : sX13_init_10 (rel u h) (hS u + x0) (hS u + t0) (hS u + t1) = (kcX13_init_10 h x0 t0 t1).map (rm1 u) := by
  simp only [sX13_init_10, kcX13_init_10, e_X13_init_19, l_I, l_J, l_N, l_R, l_wI, l_wJ, l_wR, l_wR0, l_nC, l_nM, nm_rel, nm_hS, l_onr, m_onr, cl_some, m_br, m_gd, m_nm, m_cl, cl_m, mapS, mapN, fcN_eq, fcI_eq, cwIk_eq, cwJk_eq, cwRk_eq, cnCk_eq, cnMk_eq]

def kcX13_init (h : Qs) (x0 : Nat) : Option (Qs) := fcN (cS h) fun a_1 => cnCk h 17 (3000 : Int32).toNatClampNeg (3000 : Int32).toNatClampNeg fun h_2 => kcX13_init_10 h_2 x0 a_1 x0
theorem e_X13_init {u : Hp} {h : Qs} {x0 : Nat}  : sX13_init (rel u h) (hS u + x0) = (kcX13_init h x0).map (rm1 u) := by
  simp only [sX13_init, kcX13_init, e_X13_init_10, l_I, l_J, l_N, l_R, l_wI, l_wJ, l_wR, l_wR0, l_nC, l_nM, nm_rel, nm_hS, l_onr, m_onr, cl_some, m_br, m_gd, m_nm, m_cl, cl_m, mapS, mapN, fcN_eq, fcI_eq, cwIk_eq, cwJk_eq, cwRk_eq, cnCk_eq, cnMk_eq]

def kcX14_clear_22 (F : Nat) : Nat → Qs → Nat → Int32 → Option (Qs)
  | 0, _, _, _ => none
  | f + 1, h, x0, x1 => br ((12 : Int32) ≤ x1) (cwIk h x0 15 (0 : Int32) fun h_2 => cwIk h_2 x0 16 (0 : Int32) fun h_3 => cwIk h_3 x0 17 (0 : Int32) fun h_4 => cwIk h_4 x0 18 (0 : Int32) fun h_5 => cwIk h_5 x0 19 (0 : Int32) fun h_6 => cwIk h_6 x0 20 (0 : Int32) fun h_7 => cwJk h_7 x0 21 (0 : Int64) fun h_8 => cwIk h_8 x0 22 (0 : Int32) fun h_9 => cwIk h_9 x0 23 (0 : Int32) fun h_10 => some h_10) (cl (cR h x0 4) fun r_11 => gd (inB x1 (cN h r_11)) <| cwIk h r_11 x1.toNatClampNeg (0 : Int32) fun h_13 => cl (cR h_13 x0 14) fun r_14 => gd (inB x1 (cN h_13 r_14)) <| cwIk h_13 r_14 x1.toNatClampNeg (0 : Int32) fun h_16 => fcI (x1 + (1 : Int32)) fun v_17 => kcX14_clear_22 F f h_16 x0 v_17)
theorem e_X14_clear_22 {u : Hp} {F : Nat}  : ∀ (f : Nat) (h : Qs) (x0 : Nat) (x1 : Int32), sX14_clear_22 F f (rel u h) (hS u + x0) x1 = (kcX14_clear_22 F f h x0 x1).map (rm1 u) := by
  intro f
  induction f with
  | zero => intros; rfl
  | succ f ih =>
    intro h x0 x1
    simp only [sX14_clear_22, kcX14_clear_22, ih, l_I, l_J, l_N, l_R, l_wI, l_wJ, l_wR, l_wR0, l_nC, l_nM, nm_rel, nm_hS, l_onr, m_onr, cl_some, m_br, m_gd, m_nm, m_cl, cl_m, mapS, mapN, fcN_eq, fcI_eq, cwIk_eq, cwJk_eq, cwRk_eq, cnCk_eq, cnMk_eq]

