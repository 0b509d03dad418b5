def kcX15_isCastle_41 (F : Nat) (h : Qs) : Option (Int32 × Qs) := some ((0 : Int32) , h)
theorem e_X15_isCastle_41 {u : Hp} {F : Nat} {h : Qs}  : sX15_isCastle_41 F (rel u h) = (kcX15_isCastle_41 F h).map (rm2 u) := by
  simp only [sX15_isCastle_41, kcX15_isCastle_41, l_I, l_J, l_N, l_R, l_wI, l_wJ, l_wR, l_wR0, l_nC, l_nM, nm_rel, nm_hS, l_onr, m_onr, cl_some, m_br, m_gd, m_nm, m_cl, cl_m, mapS, mapN, fcN_eq, fcI_eq, cwIk_eq, cwJk_eq, cwRk_eq, cnCk_eq, cnMk_eq]

def kcX15_isCastle (F : Nat) (h : Qs) (x0 : Nat) (x1 : Nat) (x2 : Int32) : Option (Int32 × Qs) := cl (cR h x0 5) fun r_1 => br ((cI h r_1 10) = (- 1 : Int32)) (some ((0 : Int32) , h)) (cl (kcX15_nextToken F h x0 x1 x2) fun o_3 => cl (kcX15_manAt F o_3 x0 x1) fun o_4 => br (o_4.1 = (- 1 : Int32)) (kcX15_isCastle_41 F o_4.2) (cl (cR o_4.2 x0 5) fun r_6 => br (o_4.1 = (cI o_4.2 r_6 10)) (kcX15_isCastle_41 F o_4.2) (cl (cR o_4.2 x0 5) fun r_8 => cwIk o_4.2 r_8 12 o_4.1 fun h_9 => cl (kcX15_goesOn F h_9 x0 x1 x2) fun o_10 => gd (o_10.1 &&& 1 = o_10.1) <| some (o_10.1 , o_10.2))))
theorem e_X15_isCastle {u : Hp} {F : Nat} {h : Qs} {x0 : Nat} {x1 : Nat} {x2 : Int32}  : sX15_isCastle F (rel u h) (hS u + x0) (hS u + x1) x2 = (kcX15_isCastle F h x0 x1 x2).map (rm2 u) := by
  simp only [sX15_isCastle, kcX15_isCastle, e_X15_nextToken, e_X15_manAt, e_X15_isCastle_41, e_X15_goesOn, l_I, l_J, l_N, l_R, l_wI, l_wJ, l_wR, l_wR0, l_nC, l_nM, nm_rel, nm_hS, l_onr, m_onr, cl_some, m_br, m_gd, m_nm, m_cl, cl_m, mapS, mapN, fcN_eq, fcI_eq, cwIk_eq, cwJk_eq, cwRk_eq, cnCk_eq, cnMk_eq]

def kcX15_isBlast_40 (F : Nat) (h : Qs) : Option (Int32 × Qs) := some ((0 : Int32) , h)
theorem e_X15_isBlast_40 {u : Hp} {F : Nat} {h : Qs}  : sX15_isBlast_40 F (rel u h) = (kcX15_isBlast_40 F h).map (rm2 u) := by
  simp only [sX15_isBlast_40, kcX15_isBlast_40, l_I, l_J, l_N, l_R, l_wI, l_wJ, l_wR, l_wR0, l_nC, l_nM, nm_rel, nm_hS, l_onr, m_onr, cl_some, m_br, m_gd, m_nm, m_cl, cl_m, mapS, mapN, fcN_eq, fcI_eq, cwIk_eq, cwJk_eq, cwRk_eq, cnCk_eq, cnMk_eq]

def kcX15_isBlast_6 (F : Nat) : Nat → Qs → Nat → Nat → Int32 → Option (Int32 × Qs)
  | 0, _, _, _, _ => none
  | f + 1, h, x0, x1, x2 => br ((cI h x0 6) = (1 : Int32)) (cl (kcX15_manAt F h x0 x1) fun o_2 => br (o_2.1 = (- 1 : Int32)) (kcX15_isBlast_40 F o_2.2) (cl (cR o_2.2 x0 5) fun r_4 => br ((((cI o_2.2 r_4 19) >>> (o_2.1 &&& 31)) &&& (1 : Int32)) = (1 : Int32)) (kcX15_isBlast_40 F o_2.2) (cl (cR o_2.2 x0 5) fun r_6 => cwIk o_2.2 r_6 19 ((cI o_2.2 r_6 19) ||| ((1 : Int32) <<< (o_2.1 &&& 31))) fun h_7 => cl (kcX15_nextToken F h_7 x0 x1 x2) fun o_8 => kcX15_isBlast_6 F f o_8 x0 x1 x2))) (some ((1 : Int32) , h))
theorem e_X15_isBlast_6 {u : Hp} {F : Nat}  : ∀ (f : Nat) (h : Qs) (x0 : Nat) (x1 : Nat) (x2 : Int32), sX15_isBlast_6 F f (rel u h) (hS u + x0) (hS u + x1) x2 = (kcX15_isBlast_6 F f h x0 x1 x2).map (rm2 u) := by
  intro f
  induction f with
  | zero => intros; rfl
  | succ f ih =>
    intro h x0 x1 x2
    simp only [sX15_isBlast_6, kcX15_isBlast_6, e_X15_manAt, e_X15_isBlast_40, ih, e_X15_nextToken, l_I, l_J, l_N, l_R, l_wI, l_wJ, l_wR, l_wR0, l_nC, l_nM, nm_rel, nm_hS, l_onr, m_onr, cl_some, m_br, m_gd, m_nm, m_cl, cl_m, mapS, mapN, fcN_eq, fcI_eq, cwIk_eq, cwJk_eq, cwRk_eq, cnCk_eq, cnMk_eq]

def kcX15_isBlast (F : Nat) (h : Qs) (x0 : Nat) (x1 : Nat) (x2 : Int32) : Option (Int32 × Qs) := cl (kcX15_nextToken F h x0 x1 x2) fun o_1 => kcX15_isBlast_6 F F o_1 x0 x1 x2
theorem e_X15_isBlast {u : Hp} {F : Nat} {h : Qs} {x0 : Nat} {x1 : Nat} {x2 : Int32}  : sX15_isBlast F (rel u h) (hS u + x0) (hS u + x1) x2 = (kcX15_isBlast F h x0 x1 x2).map (rm2 u) := by
  simp only [sX15_isBlast, kcX15_isBlast, e_X15_isBlast_6, e_X15_nextToken, l_I, l_J, l_N, l_R, l_wI, l_wJ, l_wR, l_wR0, l_nC, l_nM, nm_rel, nm_hS, l_onr, m_onr, cl_some, m_br, m_gd, m_nm, m_cl, cl_m, mapS, mapN, fcN_eq, fcI_eq, cwIk_eq, cwJk_eq, cwRk_eq, cnCk_eq, cnMk_eq]

def kcX15_isChecks (F : Nat) (h : Qs) (x0 : Nat) (x1 : Nat) (x2 : Int32) : Option (Int32 × Qs) := cl (kcX15_nextToken F h x0 x1 x2) fun o_1 => cl (kcX15_isNumber o_1 x0 (1 : Int32) (9 : Int32)) fun o_2 => br (o_2.1 = 0) (some ((0 : Int32) , o_2.2)) (cl (cR o_2.2 x0 5) fun r_4 => cwIk o_2.2 r_4 20 (cI o_2.2 x0 9) fun h_5 => cl (kcX15_goesOn F h_5 x0 x1 x2) fun o_6 => gd (o_6.1 &&& 1 = o_6.1) <| some (o_6.1 , o_6.2))
theorem e_X15_isChecks {u : Hp} {F : Nat} {h : Qs} {x0 : Nat} {x1 : Nat} {x2 : Int32}  : sX15_isChecks F (rel u h) (hS u + x0) (hS u + x1) x2 = (kcX15_isChecks F h x0 x1 x2).map (rm2 u) := by
  simp only [sX15_isChecks, kcX15_isChecks, e_X15_nextToken, e_X15_isNumber, e_X15_goesOn, l_I, l_J, l_N, l_R, l_wI, l_wJ, l_wR, l_wR0, l_nC, l_nM, nm_rel, nm_hS, l_onr, m_onr, cl_some, m_br, m_gd, m_nm, m_cl, cl_m, mapS, mapN, fcN_eq, fcI_eq, cwIk_eq, cwJk_eq, cwRk_eq, cnCk_eq, cnMk_eq]

def kcX15_isHill_62 (F : Nat) (h : Qs) : Option (Int32 × Qs) := some ((0 : Int32) , h)
theorem e_X15_isHill_62 {u : Hp} {F : Nat} {h : Qs}  : sX15_isHill_62 F (rel u h) = (kcX15_isHill_62 F h).map (rm2 u) := by
  simp only [sX15_isHill_62, kcX15_isHill_62, l_I, l_J, l_N, l_R, l_wI, l_wJ, l_wR, l_wR0, l_nC, l_nM, nm_rel, nm_hS, l_onr, m_onr, cl_some, m_br, m_gd, m_nm, m_cl, cl_m, mapS, mapN, fcN_eq, fcI_eq, cwIk_eq, cwJk_eq, cwRk_eq, cnCk_eq, cnMk_eq]

def kcX15_isHill_128 (F : Nat) (h : Qs) : Option (Int32 × Qs) := some ((0 : Int32) , h)
theorem e_X15_isHill_128 {u : Hp} {F : Nat} {h : Qs}  : sX15_isHill_128 F (rel u h) = (kcX15_isHill_128 F h).map (rm2 u) := by
  simp only [sX15_isHill_128, kcX15_isHill_128, l_I, l_J, l_N, l_R, l_wI, l_wJ, l_wR, l_wR0, l_nC, l_nM, nm_rel, nm_hS, l_onr, m_onr, cl_some, m_br, m_gd, m_nm, m_cl, cl_m, mapS, mapN, fcN_eq, fcI_eq, cwIk_eq, cwJk_eq, cwRk_eq, cnCk_eq, cnMk_eq]

def kcX15_isHill_22 (F : Nat) (k_8 : Qs → Nat → Nat → Int32 → Int32 → Option (Int32 × Qs)) (h : Qs) (x0 : Nat) (x1 : Nat) (x2 : Int32) : Option (Int32 × Qs) := br ((cI h x0 6) = (1 : Int32)) (br ((cI h x0 8) = ((cI h x0 7) + (1 : Int32))) (gd (inB (cI h x0 7) (cN h x1)) <| cl (cR h x0 5) fun r_4 => br (((cI h x1 (cI h x0 7).toNatClampNeg) - (97 : Int32)) < (cI h r_4 0)) (gd (inB (cI h x0 7) (cN h x1)) <| fcI ((cI h x1 (cI h x0 7).toNatClampNeg) - (97 : Int32)) fun v_7 => cl (kcX15_nextToken F h x0 x1 x2) fun o_8 => cl (cR o_8 x0 5) fun r_9 => cl (kcX15_isNumber o_8 x0 (1 : Int32) (cI o_8 r_9 1)) fun o_10 => br (o_10.1 = 0) (kcX15_isHill_128 F o_10.2) (cl (cR o_10.2 x0 5) fun r_12 => cl (cR o_10.2 x0 5) fun r_13 => br ((lg_cmp (((cJ o_10.2 r_12 21) >>> (((((cI o_10.2 x0 9) - (1 : Int32)) * (cI o_10.2 r_13 0)) + v_7).toInt64 &&& 63)) &&& (1 : Int64)) (1 : Int64)) = 0) (kcX15_isHill_128 F o_10.2) (cl (cR o_10.2 x0 5) fun r_15 => cl (cR o_10.2 x0 5) fun r_16 => cwJk o_10.2 r_15 21 ((cJ o_10.2 r_15 21) ||| ((1 : Int64) <<< (((((cI o_10.2 x0 9) - (1 : Int32)) * (cI o_10.2 r_16 0)) + v_7).toInt64 &&& 63))) fun h_17 => cl (kcX15_nextToken F h_17 x0 x1 x2) fun o_18 => k_8 o_18 x0 x1 x2 (1 : Int32)))) (kcX15_isHill_62 F h)) (kcX15_isHill_62 F h)) (kcX15_isHill_62 F h)
theorem e_X15_isHill_22 {u : Hp} {F : Nat} {k_8 : Hp → Nat → Nat → Int32 → Int32 → Option (Int32 × Hp)} {k_8_ : Qs → Nat → Nat → Int32 → Int32 → Option (Int32 × Qs)} {h : Qs} {x0 : Nat} {x1 : Nat} {x2 : Int32} (hk_8 : ∀ (h : Qs) (x0 : Nat) (x1 : Nat) (x2 : Int32) (x3 : Int32), k_8 (rel u h) (hS u + x0) (hS u + x1) x2 x3 = (k_8_ h x0 x1 x2 x3).map (rm2 u)) : sX15_isHill_22 F k_8 (rel u h) (hS u + x0) (hS u + x1) x2 = (kcX15_isHill_22 F k_8_ h x0 x1 x2).map (rm2 u) := by
  simp only [sX15_isHill_22, kcX15_isHill_22, e_X15_nextToken, e_X15_isNumber, e_X15_isHill_128, e_X15_isHill_62, hk_8, l_I, l_J, l_N, l_R, l_wI, l_wJ, l_wR, l_wR0, l_nC, l_nM, nm_rel, nm_hS, l_onr, m_onr, cl_some, m_br, m_gd, m_nm, m_cl, cl_m, mapS, mapN, fcN_eq, fcI_eq, cwIk_eq, cwJk_eq, cwRk_eq, cnCk_eq, cnMk_eq]

def kcX15_isHill_8 (F : Nat) : Nat → Qs → Nat → Nat → Int32 → Int32 → Option (Int32 × Qs)
  | 0, _, _, _, _, _ => none
  | f + 1, h, x0, x1, x2, x3 => br (x3 = 0) (kcX15_isHill_22 F (kcX15_isHill_8 F f) h x0 x1 x2) (cl (kcX15_isSign h x0 x1 (59 : Int32)) fun o_2 => br (o_2.1 = 0) (kcX15_isHill_22 F (kcX15_isHill_8 F f) o_2.2 x0 x1 x2) (some ((1 : Int32) , o_2.2)))
theorem e_X15_isHill_8 {u : Hp} {F : Nat}  : ∀ (f : Nat) (h : Qs) (x0 : Nat) (x1 : Nat) (x2 : Int32) (x3 : Int32), sX15_isHill_8 F f (rel u h) (hS u + x0) (hS u + x1) x2 x3 = (kcX15_isHill_8 F f h x0 x1 x2 x3).map (rm2 u) := by
  intro f
  induction f with
  | zero => intros; rfl
  | succ f ih =>
    intro h x0 x1 x2 x3
    simp only [sX15_isHill_8, kcX15_isHill_8, (e_X15_isHill_22 ih), e_X15_isSign, l_I, l_J, l_N, l_R, l_wI, l_wJ, l_wR, l_wR0, l_nC, l_nM, nm_rel, nm_hS, l_onr, m_onr, cl_some, m_br, m_gd, m_nm, m_cl, cl_m, mapS, mapN, fcN_eq, fcI_eq, cwIk_eq, cwJk_eq, cwRk_eq, cnCk_eq, cnMk_eq]

def kcX15_isHill (F : Nat) (h : Qs) (x0 : Nat) (x1 : Nat) (x2 : Int32) : Option (Int32 × Qs) := cl (kcX15_nextToken F h x0 x1 x2) fun o_1 => kcX15_isHill_8 F F o_1 x0 x1 x2 (0 : Int32)
theorem e_X15_isHill {u : Hp} {F : Nat} {h : Qs} {x0 : Nat} {x1 : Nat} {x2 : Int32}  : sX15_isHill F (rel u h) (hS u + x0) (hS u + x1) x2 = (kcX15_isHill F h x0 x1 x2).map (rm2 u) := by
  simp only [sX15_isHill, kcX15_isHill, e_X15_isHill_8, e_X15_nextToken, l_I, l_J, l_N, l_R, l_wI, l_wJ, l_wR, l_wR0, l_nC, l_nM, nm_rel, nm_hS, l_onr, m_onr, cl_some, m_br, m_gd, m_nm, m_cl, cl_m, mapS, mapN, fcN_eq, fcI_eq, cwIk_eq, cwJk_eq, cwRk_eq, cnCk_eq, cnMk_eq]

def kcX15_isOutcome_69 (F : Nat) (h : Qs) (x0 : Nat) (x1 : Nat) (x2 : Int32) : Option (Int32 × Qs) := cl (kcX15_goesOn F h x0 x1 x2) fun o_1 => gd (o_1.1 &&& 1 = o_1.1) <| some (o_1.1 , o_1.2)
theorem e_X15_isOutcome_69 {u : Hp} {F : Nat} {h : Qs} {x0 : Nat} {x1 : Nat} {x2 : Int32}  : sX15_isOutcome_69 F (rel u h) (hS u + x0) (hS u + x1) x2 = (kcX15_isOutcome_69 F h x0 x1 x2).map (rm2 u) := by
  simp only [sX15_isOutcome_69, kcX15_isOutcome_69, e_X15_goesOn, l_I, l_J, l_N, l_R, l_wI, l_wJ, l_wR, l_wR0, l_nC, l_nM, nm_rel, nm_hS, l_onr, m_onr, cl_some, m_br, m_gd, m_nm, m_cl, cl_m, mapS, mapN, fcN_eq, fcI_eq, cwIk_eq, cwJk_eq, cwRk_eq, cnCk_eq, cnMk_eq]

def kcX15_isOutcome_35 (F : Nat) (h : Qs) (x0 : Nat) (x1 : Nat) (x2 : Int32) (x3 : Int32) (t0 : Int32) : Option (Int32 × Qs) := br (t0 = 0) (some ((0 : Int32) , h)) (br (x3 = 0) (cl (cR h x0 5) fun r_3 => cwIk h r_3 23 t0 fun h_4 => kcX15_isOutcome_69 F h_4 x0 x1 x2) (cl (cR h x0 5) fun r_5 => cwIk h r_5 22 t0 fun h_6 => kcX15_isOutcome_69 F h_6 x0 x1 x2))
theorem e_X15_isOutcome_35 {u : Hp} {F : Nat} {h : Qs} {x0 : Nat} {x1 : Nat} {x2 : Int32} {x3 : Int32} {t0 : Int32}  : sX15_isOutcome_35 F (rel u h) (hS u + x0) (hS u + x1) x2 x3 t0 = (kcX15_isOutcome_35 F h x0 x1 x2 x3 t0).map (rm2 u) := by
  simp only [sX15_isOutcome_35, kcX15_isOutcome_35, e_X15_isOutcome_69, l_I, l_J, l_N, l_R, l_wI, l_wJ, l_wR, l_wR0, l_nC, l_nM, nm_rel, nm_hS, l_onr, m_onr, cl_some, m_br, m_gd, m_nm, m_cl, cl_m, mapS, mapN, fcN_eq, fcI_eq, cwIk_eq, cwJk_eq, cwRk_eq, cnCk_eq, cnMk_eq]

def kcX15_isOutcome (F : Nat) (h : Qs) (x0 : Nat) (x1 : Nat) (x2 : Int32) (x3 : Int32) : Option (Int32 × Qs) := cl (kcX15_nextToken F h x0 x1 x2) fun o_1 => cl (kcX15_isWord F o_1 x0 x1 49) fun o_2 => br (o_2.1 = 0) (cl (kcX15_isWord F o_2.2 x0 x1 50) fun o_4 => br (o_4.1 = 0) (kcX15_isOutcome_35 F o_4.2 x0 x1 x2 x3 (0 : Int32)) (kcX15_isOutcome_35 F o_4.2 x0 x1 x2 x3 (2 : Int32))) (kcX15_isOutcome_35 F o_2.2 x0 x1 x2 x3 (1 : Int32))
theorem e_X15_isOutcome {u : Hp} {F : Nat} {h : Qs} {x0 : Nat} {x1 : Nat} {x2 : Int32} {x3 : Int32}  : sX15_isOutcome F (rel u h) (hS u + x0) (hS u + x1) x2 x3 = (kcX15_isOutcome F h x0 x1 x2 x3).map (rm2 u) := by
  simp only [sX15_isOutcome, kcX15_isOutcome, e_X15_nextToken, e_X15_isWord, e_X15_isOutcome_35, l_I, l_J, l_N, l_R, l_wI, l_wJ, l_wR, l_wR0, l_nC, l_nM, nm_rel, nm_hS, l_onr, m_onr, cl_some, m_br, m_gd, m_nm, m_cl, cl_m, mapS, mapN, fcN_eq, fcI_eq, cwIk_eq, cwJk_eq, cwRk_eq, cnCk_eq, cnMk_eq]

def kcX15_isSentence_401 (F : Nat) (h : Qs) (t0 : Int32) : Option (Int32 × Qs) := gd (t0 &&& 1 = t0) <| some (t0 , h)
theorem e_X15_isSentence_401 {u : Hp} {F : Nat} {h : Qs} {t0 : Int32}  : sX15_isSentence_401 F (rel u h) t0 = (kcX15_isSentence_401 F h t0).map (rm2 u) := by
  simp only [sX15_isSentence_401, kcX15_isSentence_401, l_I, l_J, l_N, l_R, l_wI, l_wJ, l_wR, l_wR0, l_nC, l_nM, nm_rel, nm_hS, l_onr, m_onr, cl_some, m_br, m_gd, m_nm, m_cl, cl_m, mapS, mapN, fcN_eq, fcI_eq, cwIk_eq, cwJk_eq, cwRk_eq, cnCk_eq, cnMk_eq]

def kcX15_isSentence_400 (F : Nat) (h : Qs) : Option (Int32 × Qs) := kcX15_isSentence_401 F h (0 : Int32)
theorem e_X15_isSentence_400 {u : Hp} {F : Nat} {h : Qs}  : sX15_isSentence_400 F (rel u h) = (kcX15_isSentence_400 F h).map (rm2 u) := by
  simp only [sX15_isSentence_400, kcX15_isSentence_400, e_X15_isSentence_401, l_I, l_J, l_N, l_R, l_wI, l_wJ, l_wR, l_wR0, l_nC, l_nM, nm_rel, nm_hS, l_onr, m_onr, cl_some, m_br, m_gd, m_nm, m_cl, cl_m, mapS, mapN, fcN_eq, fcI_eq, cwIk_eq, cwJk_eq, cwRk_eq, cnCk_eq, cnMk_eq]

def kcX15_isSentence_366 (F : Nat) (h : Qs) (t0 : Int32) : Option (Int32 × Qs) := gd (t0 &&& 1 = t0) <| some (t0 , h)
theorem e_X15_isSentence_366 {u : Hp} {F : Nat} {h : Qs} {t0 : Int32}  : sX15_isSentence_366 F (rel u h) t0 = (kcX15_isSentence_366 F h t0).map (rm2 u) := by
  simp only [sX15_isSentence_366, kcX15_isSentence_366, l_I, l_J, l_N, l_R, l_wI, l_wJ, l_wR, l_wR0, l_nC, l_nM, nm_rel, nm_hS, l_onr, m_onr, cl_some, m_br, m_gd, m_nm, m_cl, cl_m, mapS, mapN, fcN_eq, fcI_eq, cwIk_eq, cwJk_eq, cwRk_eq, cnCk_eq, cnMk_eq]

def kcX15_isSentence_365 (F : Nat) (h : Qs) : Option (Int32 × Qs) := kcX15_isSentence_366 F h (0 : Int32)
theorem e_X15_isSentence_365 {u : Hp} {F : Nat} {h : Qs}  : sX15_isSentence_365 F (rel u h) = (kcX15_isSentence_365 F h).map (rm2 u) := by
  simp only [sX15_isSentence_365, kcX15_isSentence_365, e_X15_isSentence_366, l_I, l_J, l_N, l_R, l_wI, l_wJ, l_wR, l_wR0, l_nC, l_nM, nm_rel, nm_hS, l_onr, m_onr, cl_some, m_br, m_gd, m_nm, m_cl, cl_m, mapS, mapN, fcN_eq, fcI_eq, cwIk_eq, cwJk_eq, cwRk_eq, cnCk_eq, cnMk_eq]

def kcX15_isSentence_331 (F : Nat) (h : Qs) (t0 : Int32) : Option (Int32 × Qs) := gd (t0 &&& 1 = t0) <| some (t0 , h)
theorem e_X15_isSentence_331 {u : Hp} {F : Nat} {h : Qs} {t0 : Int32}  : sX15_isSentence_331 F (rel u h) t0 = (kcX15_isSentence_331 F h t0).map (rm2 u) := by
  simp only [sX15_isSentence_331, kcX15_isSentence_331, l_I, l_J, l_N, l_R, l_wI, l_wJ, l_wR, l_wR0, l_nC, l_nM, nm_rel, nm_hS, l_onr, m_onr, cl_some, m_br, m_gd, m_nm, m_cl, cl_m, mapS, mapN, fcN_eq, fcI_eq, cwIk_eq, cwJk_eq, cwRk_eq, cnCk_eq, cnMk_eq]

def kcX15_isSentence_330 (F : Nat) (h : Qs) : Option (Int32 × Qs) := kcX15_isSentence_331 F h (0 : Int32)
theorem e_X15_isSentence_330 {u : Hp} {F : Nat} {h : Qs}  : sX15_isSentence_330 F (rel u h) = (kcX15_isSentence_330 F h).map (rm2 u) := by
  simp only [sX15_isSentence_330, kcX15_isSentence_330, e_X15_isSentence_331, l_I, l_J, l_N, l_R, l_wI, l_wJ, l_wR, l_wR0, l_nC, l_nM, nm_rel, nm_hS, l_onr, m_onr, cl_some, m_br, m_gd, m_nm, m_cl, cl_m, mapS, mapN, fcN_eq, fcI_eq, cwIk_eq, cwJk_eq, cwRk_eq, cnCk_eq, cnMk_eq]

def kcX15_isSentence_297 (F : Nat) (h : Qs) (t0 : Int32) : Option (Int32 × Qs) := gd (t0 &&& 1 = t0) <| some (t0 , h)
theorem e_X15_isSentence_297 {u : Hp} {F : Nat} {h : Qs} {t0 : Int32}  : sX15_isSentence_297 F (rel u h) t0 = (kcX15_isSentence_297 F h t0).map (rm2 u) := by
  simp only [sX15_isSentence_297, kcX15_isSentence_297, l_I, l_J, l_N, l_R, l_wI, l_wJ, l_wR, l_wR0, l_nC, l_nM, nm_rel, nm_hS, l_onr, m_onr, cl_some, m_br, m_gd, m_nm, m_cl, cl_m, mapS, mapN, fcN_eq, fcI_eq, cwIk_eq, cwJk_eq, cwRk_eq, cnCk_eq, cnMk_eq]

def kcX15_isSentence_296 (F : Nat) (h : Qs) : Option (Int32 × Qs) := kcX15_isSentence_297 F h (0 : Int32)
theorem e_X15_isSentence_296 {u : Hp} {F : Nat} {h : Qs}  : sX15_isSentence_296 F (rel u h) = (kcX15_isSentence_296 F h).map (rm2 u) := by
  simp only [sX15_isSentence_296, kcX15_isSentence_296, e_X15_isSentence_297, l_I, l_J, l_N, l_R, l_wI, l_wJ, l_wR, l_wR0, l_nC, l_nM, nm_rel, nm_hS, l_onr, m_onr, cl_some, m_br, m_gd, m_nm, m_cl, cl_m, mapS, mapN, fcN_eq, fcI_eq, cwIk_eq, cwJk_eq, cwRk_eq, cnCk_eq, cnMk_eq]

def kcX15_isSentence_263 (F : Nat) (h : Qs) (t0 : Int32) : Option (Int32 × Qs) := gd (t0 &&& 1 = t0) <| some (t0 , h)
theorem e_X15_isSentence_263 {u : Hp} {F : Nat} {h : Qs} {t0 : Int32}  : sX15_isSentence_263 F (rel u h) t0 = (kcX15_isSentence_263 F h t0).map (rm2 u) := by
  simp only [sX15_isSentence_263, kcX15_isSentence_263, l_I, l_J, l_N, l_R, l_wI, l_wJ, l_wR, l_wR0, l_nC, l_nM, nm_rel, nm_hS, l_onr, m_onr, cl_some, m_br, m_gd, m_nm, m_cl, cl_m, mapS, mapN, fcN_eq, fcI_eq, cwIk_eq, cwJk_eq, cwRk_eq, cnCk_eq, cnMk_eq]

def kcX15_isSentence_262 (F : Nat) (h : Qs) : Option (Int32 × Qs) := kcX15_isSentence_263 F h (0 : Int32)
theorem e_X15_isSentence_262 {u : Hp} {F : Nat} {h : Qs}  : sX15_isSentence_262 F (rel u h) = (kcX15_isSentence_262 F h).map (rm2 u) := by
  simp only [sX15_isSentence_262, kcX15_isSentence_262, e_X15_isSentence_263, l_I, l_J, l_N, l_R, l_wI, l_wJ, l_wR, l_wR0, l_nC, l_nM, nm_rel, nm_hS, l_onr, m_onr, cl_some, m_br, m_gd, m_nm, m_cl, cl_m, mapS, mapN, fcN_eq, fcI_eq, cwIk_eq, cwJk_eq, cwRk_eq, cnCk_eq, cnMk_eq]

def kcX15_isSentence_222 (F : Nat) (h : Qs) (t0 : Int32) : Option (Int32 × Qs) := gd (t0 &&& 1 = t0) <| some (t0 , h)
theorem e_X15_isSentence_222 {u : Hp} {F : Nat} {h : Qs} {t0 : Int32}  : sX15_isSentence_222 F (rel u h) t0 = (kcX15_isSentence_222 F h t0).map (rm2 u) := by
  simp only [sX15_isSentence_222, kcX15_isSentence_222, l_I, l_J, l_N, l_R, l_wI, l_wJ, l_wR, l_wR0, l_nC, l_nM, nm_rel, nm_hS, l_onr, m_onr, cl_some, m_br, m_gd, m_nm, m_cl, cl_m, mapS, mapN, fcN_eq, fcI_eq, cwIk_eq, cwJk_eq, cwRk_eq, cnCk_eq, cnMk_eq]

def kcX15_isSentence_221 (F : Nat) (h : Qs) : Option (Int32 × Qs) := kcX15_isSentence_222 F h (0 : Int32)
theorem e_X15_isSentence_221 {u : Hp} {F : Nat} {h : Qs}  : sX15_isSentence_221 F (rel u h) = (kcX15_isSentence_221 F h).map (rm2 u) := by
  simp only [sX15_isSentence_221, kcX15_isSentence_221, e_X15_isSentence_222, l_I, l_J, l_N, l_R, l_wI, l_wJ, l_wR, l_wR0, l_nC, l_nM, nm_rel, nm_hS, l_onr, m_onr, cl_some, m_br, m_gd, m_nm, m_cl, cl_m, mapS, mapN, fcN_eq, fcI_eq, cwIk_eq, cwJk_eq, cwRk_eq, cnCk_eq, cnMk_eq]

def kcX15_isSentence_181 (F : Nat) (h : Qs) (t0 : Int32) : Option (Int32 × Qs) := gd (t0 &&& 1 = t0) <| some (t0 , h)
theorem e_X15_isSentence_181 {u : Hp} {F : Nat} {h : Qs} {t0 : Int32}  : sX15_isSentence_181 F (rel u h) t0 = (kcX15_isSentence_181 F h t0).map (rm2 u) := by
  simp only [sX15_isSentence_181, kcX15_isSentence_181, l_I, l_J, l_N, l_R, l_wI, l_wJ, l_wR, l_wR0, l_nC, l_nM, nm_rel, nm_hS, l_onr, m_onr, cl_some, m_br, m_gd, m_nm, m_cl, cl_m, mapS, mapN, fcN_eq, fcI_eq, cwIk_eq, cwJk_eq, cwRk_eq, cnCk_eq, cnMk_eq]

def kcX15_isSentence_180 (F : Nat) (h : Qs) : Option (Int32 × Qs) := kcX15_isSentence_181 F h (0 : Int32)
theorem e_X15_isSentence_180 {u : Hp} {F : Nat} {h : Qs}  : sX15_isSentence_180 F (rel u h) = (kcX15_isSentence_180 F h).map (rm2 u) := by
  simp only [sX15_isSentence_180, kcX15_isSentence_180, e_X15_isSentence_181, l_I, l_J, l_N, l_R, l_wI, l_wJ, l_wR, l_wR0, l_nC, l_nM, nm_rel, nm_hS, l_onr, m_onr, cl_some, m_br, m_gd, m_nm, m_cl, cl_m, mapS, mapN, fcN_eq, fcI_eq, cwIk_eq, cwJk_eq, cwRk_eq, cnCk_eq, cnMk_eq]

def kcX15_isSentence_140 (F : Nat) (h : Qs) (t0 : Int32) : Option (Int32 × Qs) := gd (t0 &&& 1 = t0) <| some (t0 , h)
theorem e_X15_isSentence_140 {u : Hp} {F : Nat} {h : Qs} {t0 : Int32}  : sX15_isSentence_140 F (rel u h) t0 = (kcX15_isSentence_140 F h t0).map (rm2 u) := by
  simp only [sX15_isSentence_140, kcX15_isSentence_140, l_I, l_J, l_N, l_R, l_wI, l_wJ, l_wR, l_wR0, l_nC, l_nM, nm_rel, nm_hS, l_onr, m_onr, cl_some, m_br, m_gd, m_nm, m_cl, cl_m, mapS, mapN, fcN_eq, fcI_eq, cwIk_eq, cwJk_eq, cwRk_eq, cnCk_eq, cnMk_eq]

def kcX15_isSentence_139 (F : Nat) (h : Qs) : Option (Int32 × Qs) := kcX15_isSentence_140 F h (0 : Int32)
theorem e_X15_isSentence_139 {u : Hp} {F : Nat} {h : Qs}  : sX15_isSentence_139 F (rel u h) = (kcX15_isSentence_139 F h).map (rm2 u) := by
  simp only [sX15_isSentence_139, kcX15_isSentence_139, e_X15_isSentence_140, l_I, l_J, l_N, l_R, l_wI, l_wJ, l_wR, l_wR0, l_nC, l_nM, nm_rel, nm_hS, l_onr, m_onr, cl_some, m_br, m_gd, m_nm, m_cl, cl_m, mapS, mapN, fcN_eq, fcI_eq, cwIk_eq, cwJk_eq, cwRk_eq, cnCk_eq, cnMk_eq]

def kcX15_isSentence_99 (F : Nat) (h : Qs) (t0 : Int32) : Option (Int32 × Qs) := gd (t0 &&& 1 = t0) <| some (t0 , h)
theorem e_X15_isSentence_99 {u : Hp} {F : Nat} {h : Qs} {t0 : Int32}  : sX15_isSentence_99 F (rel u h) t0 = (kcX15_isSentence_99 F h t0).map (rm2 u) := by
  simp only [sX15_isSentence_99, kcX15_isSentence_99, l_I, l_J, l_N, l_R, l_wI, l_wJ, l_wR, l_wR0, l_nC, l_nM, nm_rel, nm_hS, l_onr, m_onr, cl_some, m_br, m_gd, m_nm, m_cl, cl_m, mapS, mapN, fcN_eq, fcI_eq, cwIk_eq, cwJk_eq, cwRk_eq, cnCk_eq, cnMk_eq]

def kcX15_isSentence_98 (F : Nat) (h : Qs) : Option (Int32 × Qs) := kcX15_isSentence_99 F h (0 : Int32)
theorem e_X15_isSentence_98 {u : Hp} {F : Nat} {h : Qs}  : sX15_isSentence_98 F (rel u h) = (kcX15_isSentence_98 F h).map (rm2 u) := by
  simp only [sX15_isSentence_98, kcX15_isSentence_98, e_X15_isSentence_99, l_I, l_J, l_N, l_R, l_wI, l_wJ, l_wR, l_wR0, l_nC, l_nM, nm_rel, nm_hS, l_onr, m_onr, cl_some, m_br, m_gd, m_nm, m_cl, cl_m, mapS, mapN, fcN_eq, fcI_eq, cwIk_eq, cwJk_eq, cwRk_eq, cnCk_eq, cnMk_eq]

def kcX15_isSentence_66 (F : Nat) (h : Qs) (t0 : Int32) : Option (Int32 × Qs) := gd (t0 &&& 1 = t0) <| some (t0 , h)
theorem e_X15_isSentence_66 {u : Hp} {F : Nat} {h : Qs} {t0 : Int32}  : sX15_isSentence_66 F (rel u h) t0 = (kcX15_isSentence_66 F h t0).map (rm2 u) := by
  simp only [sX15_isSentence_66, kcX15_isSentence_66, l_I, l_J, l_N, l_R, l_wI, l_wJ, l_wR, l_wR0, l_nC, l_nM, nm_rel, nm_hS, l_onr, m_onr, cl_some, m_br, m_gd, m_nm, m_cl, cl_m, mapS, mapN, fcN_eq, fcI_eq, cwIk_eq, cwJk_eq, cwRk_eq, cnCk_eq, cnMk_eq]

def kcX15_isSentence_65 (F : Nat) (h : Qs) : Option (Int32 × Qs) := kcX15_isSentence_66 F h (0 : Int32)
theorem e_X15_isSentence_65 {u : Hp} {F : Nat} {h : Qs}  : sX15_isSentence_65 F (rel u h) = (kcX15_isSentence_65 F h).map (rm2 u) := by
  simp only [sX15_isSentence_65, kcX15_isSentence_65, e_X15_isSentence_66, l_I, l_J, l_N, l_R, l_wI, l_wJ, l_wR, l_wR0, l_nC, l_nM, nm_rel, nm_hS, l_onr, m_onr, cl_some, m_br, m_gd, m_nm, m_cl, cl_m, mapS, mapN, fcN_eq, fcI_eq, cwIk_eq, cwJk_eq, cwRk_eq, cnCk_eq, cnMk_eq]

def kcX15_isSentence (F : Nat) (h : Qs) (x0 : Nat) (x1 : Nat) (x2 : Int32) : Option (Int32 × Qs) := cl (kcX15_isWord F h x0 x1 30) fun o_1 => br (o_1.1 = 0) (cl (kcX15_isWord F o_1.2 x0 x1 39) fun o_3 => br (o_3.1 = 0) (cl (kcX15_isWord F o_3.2 x0 x1 40) fun o_5 => br (o_5.1 = 0) (cl (kcX15_isWord F o_5.2 x0 x1 41) fun o_7 => br (o_7.1 = 0) (cl (kcX15_isWord F o_7.2 x0 x1 42) fun o_9 => br (o_9.1 = 0) (cl (kcX15_isWord F o_9.2 x0 x1 43) fun o_11 => br (o_11.1 = 0) (cl (kcX15_isWord F o_11.2 x0 x1 44) fun o_13 => br (o_13.1 = 0) (cl (kcX15_isWord F o_13.2 x0 x1 45) fun o_15 => br (o_15.1 = 0) (cl (kcX15_isWord F o_15.2 x0 x1 46) fun o_17 => br (o_17.1 = 0) (cl (kcX15_isWord F o_17.2 x0 x1 47) fun o_19 => br (o_19.1 = 0) (cl (kcX15_isWord F o_19.2 x0 x1 48) fun o_21 => br (o_21.1 = 0) (cl (kcX15_isWord F o_21.2 x0 x1 51) fun o_23 => br (o_23.1 = 0) (kcX15_isSentence_400 F o_23.2) (cl (kcX15_isOnce o_23.2 x0 (9 : Int32)) fun o_25 => br (o_25.1 = 0) (kcX15_isSentence_400 F o_25.2) (cl (kcX15_isOutcome F o_25.2 x0 x1 x2 (0 : Int32)) fun o_27 => br (o_27.1 = 0) (kcX15_isSentence_400 F o_27.2) (kcX15_isSentence_401 F o_27.2 (1 : Int32))))) (cl (kcX15_isOnce o_21.2 x0 (8 : Int32)) fun o_29 => br (o_29.1 = 0) (kcX15_isSentence_365 F o_29.2) (cl (kcX15_isOutcome F o_29.2 x0 x1 x2 (1 : Int32)) fun o_31 => br (o_31.1 = 0) (kcX15_isSentence_365 F o_31.2) (kcX15_isSentence_366 F o_31.2 (1 : Int32))))) (cl (kcX15_isOnce o_19.2 x0 (7 : Int32)) fun o_33 => br (o_33.1 = 0) (kcX15_isSentence_330 F o_33.2) (cl (kcX15_isHill F o_33.2 x0 x1 x2) fun o_35 => br (o_35.1 = 0) (kcX15_isSentence_330 F o_35.2) (kcX15_isSentence_331 F o_35.2 (1 : Int32))))) (cl (kcX15_isOnce o_17.2 x0 (6 : Int32)) fun o_37 => br (o_37.1 = 0) (kcX15_isSentence_296 F o_37.2) (cl (kcX15_isChecks F o_37.2 x0 x1 x2) fun o_39 => br (o_39.1 = 0) (kcX15_isSentence_296 F o_39.2) (kcX15_isSentence_297 F o_39.2 (1 : Int32))))) (cl (cR o_15.2 x0 5) fun r_41 => cwIk o_15.2 r_41 18 (1 : Int32) fun h_42 => cl (kcX15_isOnce h_42 x0 (5 : Int32)) fun o_43 => br (o_43.1 = 0) (kcX15_isSentence_262 F o_43.2) (cl (kcX15_isBlast F o_43.2 x0 x1 x2) fun o_45 => br (o_45.1 = 0) (kcX15_isSentence_262 F o_45.2) (kcX15_isSentence_263 F o_45.2 (1 : Int32))))) (cl (cR o_13.2 x0 5) fun r_47 => cwIk o_13.2 r_47 17 (1 : Int32) fun h_48 => cl (kcX15_isOnce h_48 x0 (4 : Int32)) fun o_49 => br (o_49.1 = 0) (kcX15_isSentence_221 F o_49.2) (cl (kcX15_goesOn F o_49.2 x0 x1 x2) fun o_51 => br (o_51.1 = 0) (kcX15_isSentence_221 F o_51.2) (kcX15_isSentence_222 F o_51.2 (1 : Int32))))) (cl (cR o_11.2 x0 5) fun r_53 => cwIk o_11.2 r_53 16 (1 : Int32) fun h_54 => cl (kcX15_isOnce h_54 x0 (3 : Int32)) fun o_55 => br (o_55.1 = 0) (kcX15_isSentence_180 F o_55.2) (cl (kcX15_goesOn F o_55.2 x0 x1 x2) fun o_57 => br (o_57.1 = 0) (kcX15_isSentence_180 F o_57.2) (kcX15_isSentence_181 F o_57.2 (1 : Int32))))) (cl (cR o_9.2 x0 5) fun r_59 => cwIk o_9.2 r_59 15 (1 : Int32) fun h_60 => cl (kcX15_isOnce h_60 x0 (2 : Int32)) fun o_61 => br (o_61.1 = 0) (kcX15_isSentence_139 F o_61.2) (cl (kcX15_goesOn F o_61.2 x0 x1 x2) fun o_63 => br (o_63.1 = 0) (kcX15_isSentence_139 F o_63.2) (kcX15_isSentence_140 F o_63.2 (1 : Int32))))) (cl (kcX15_isOnce o_7.2 x0 (1 : Int32)) fun o_65 => br (o_65.1 = 0) (kcX15_isSentence_98 F o_65.2) (cl (kcX15_isCastle F o_65.2 x0 x1 x2) fun o_67 => br (o_67.1 = 0) (kcX15_isSentence_98 F o_67.2) (kcX15_isSentence_99 F o_67.2 (1 : Int32))))) (cl (kcX15_isOnce o_5.2 x0 (0 : Int32)) fun o_69 => br (o_69.1 = 0) (kcX15_isSentence_65 F o_69.2) (cl (kcX15_isRoyal F o_69.2 x0 x1 x2) fun o_71 => br (o_71.1 = 0) (kcX15_isSentence_65 F o_71.2) (kcX15_isSentence_66 F o_71.2 (1 : Int32))))) (cl (kcX15_isBecoming F o_3.2 x0 x1 x2) fun o_73 => gd (o_73.1 &&& 1 = o_73.1) <| some (o_73.1 , o_73.2))) (cl (kcX15_isMan F o_1.2 x0 x1 x2) fun o_75 => gd (o_75.1 &&& 1 = o_75.1) <| some (o_75.1 , o_75.2))
theorem e_X15_isSentence {u : Hp} {F : Nat} {h : Qs} {x0 : Nat} {x1 : Nat} {x2 : Int32}  : sX15_isSentence F (rel u h) (hS u + x0) (hS u + x1) x2 = (kcX15_isSentence F h x0 x1 x2).map (rm2 u) := by
  simp only [sX15_isSentence, kcX15_isSentence, e_X15_isWord, e_X15_isSentence_400, e_X15_isOnce, e_X15_isOutcome, e_X15_isSentence_401, e_X15_isSentence_365, e_X15_isSentence_366, e_X15_isSentence_330, e_X15_isHill, e_X15_isSentence_331, e_X15_isSentence_296, e_X15_isChecks, e_X15_isSentence_297, e_X15_isSentence_262, e_X15_isBlast, e_X15_isSentence_263, e_X15_isSentence_221, e_X15_goesOn, e_X15_isSentence_222, e_X15_isSentence_180, e_X15_isSentence_181, e_X15_isSentence_139, e_X15_isSentence_140, e_X15_isSentence_98, e_X15_isCastle, e_X15_isSentence_99, e_X15_isSentence_65, e_X15_isRoyal, e_X15_isSentence_66, e_X15_isBecoming, e_X15_isMan, l_I, l_J, l_N, l_R, l_wI, l_wJ, l_wR, l_wR0, l_nC, l_nM, nm_rel, nm_hS, l_onr, m_onr, cl_some, m_br, m_gd, m_nm, m_cl, cl_m, mapS, mapN, fcN_eq, fcI_eq, cwIk_eq, cwJk_eq, cwRk_eq, cnCk_eq, cnMk_eq]

def kcX15_isRules_144 (F : Nat) (h : Qs) : Option (Int32 × Qs) := some ((0 : Int32) , h)
theorem e_X15_isRules_144 {u : Hp} {F : Nat} {h : Qs}  : sX15_isRules_144 F (rel u h) = (kcX15_isRules_144 F h).map (rm2 u) := by
  simp only [sX15_isRules_144, kcX15_isRules_144, l_I, l_J, l_N, l_R, l_wI, l_wJ, l_wR, l_wR0, l_nC, l_nM, nm_rel, nm_hS, l_onr, m_onr, cl_some, m_br, m_gd, m_nm, m_cl, cl_m, mapS, mapN, fcN_eq, fcI_eq, cwIk_eq, cwJk_eq, cwRk_eq, cnCk_eq, cnMk_eq]

def kcX15_isRules_117 (F : Nat) : Nat → Qs → Nat → Nat → Int32 → Option (Int32 × Qs)
  | 0, _, _, _, _ => none
  | f + 1, h, x0, x1, x2 => br ((cI h x0 6) = (4 : Int32)) (some ((1 : Int32) , h)) (cl (kcX15_isSentence F h x0 x1 x2) fun o_2 => br (o_2.1 = 0) (kcX15_isRules_144 F o_2.2) (cl (kcX15_isSign o_2.2 x0 x1 (59 : Int32)) fun o_4 => br (o_4.1 = 0) (kcX15_isRules_144 F o_4.2) (cl (kcX15_nextToken F o_4.2 x0 x1 x2) fun o_6 => kcX15_isRules_117 F f o_6 x0 x1 x2)))
theorem e_X15_isRules_117 {u : Hp} {F : Nat}  : ∀ (f : Nat) (h : Qs) (x0 : Nat) (x1 : Nat) (x2 : Int32), sX15_isRules_117 F f (rel u h) (hS u + x0) (hS u + x1) x2 = (kcX15_isRules_117 F f h x0 x1 x2).map (rm2 u) := by
  intro f
  induction f with
  | zero => intros; rfl
  | succ f ih =>
    intro h x0 x1 x2
    simp only [sX15_isRules_117, kcX15_isRules_117, e_X15_isSentence, e_X15_isRules_144, e_X15_isSign, ih, e_X15_nextToken, l_I, l_J, l_N, l_R, l_wI, l_wJ, l_wR, l_wR0, l_nC, l_nM, nm_rel, nm_hS, l_onr, m_onr, cl_some, m_br, m_gd, m_nm, m_cl, cl_m, mapS, mapN, fcN_eq, fcI_eq, cwIk_eq, cwJk_eq, cwRk_eq, cnCk_eq, cnMk_eq]

def kcX15_isRules (F : Nat) (h : Qs) (x0 : Nat) (x1 : Nat) (x2 : Int32) : Option (Int32 × Qs) := cl (cR h x0 5) fun r_1 => cl (kcX14_clear F h r_1) fun o_2 => cwIk o_2 x0 10 (0 : Int32) fun h_3 => cwIk h_3 x0 8 (0 : Int32) fun h_4 => cl (kcX15_nextToken F h_4 x0 x1 x2) fun o_5 => cl (kcX15_isWord F o_5 x0 x1 29) fun o_6 => br (o_6.1 = 0) (some ((0 : Int32) , o_6.2)) (cl (kcX15_nextToken F o_6.2 x0 x1 x2) fun o_8 => cl (kcX15_isNumber o_8 x0 (3 : Int32) (8 : Int32)) fun o_9 => br (o_9.1 = 0) (some ((0 : Int32) , o_9.2)) (cl (cR o_9.2 x0 5) fun r_11 => cwIk o_9.2 r_11 0 (cI o_9.2 x0 9) fun h_12 => cl (kcX15_nextToken F h_12 x0 x1 x2) fun o_13 => cl (kcX15_isNumber o_13 x0 (3 : Int32) (8 : Int32)) fun o_14 => br (o_14.1 = 0) (some ((0 : Int32) , o_14.2)) (cl (cR o_14.2 x0 5) fun r_16 => cwIk o_14.2 r_16 1 (cI o_14.2 x0 9) fun h_17 => cl (kcX15_nextToken F h_17 x0 x1 x2) fun o_18 => cl (kcX15_isSign o_18 x0 x1 (59 : Int32)) fun o_19 => br (o_19.1 = 0) (some ((0 : Int32) , o_19.2)) (cl (kcX15_nextToken F o_19.2 x0 x1 x2) fun o_21 => kcX15_isRules_117 F F o_21 x0 x1 x2))))
theorem e_X15_isRules {u : Hp} {F : Nat} {h : Qs} {x0 : Nat} {x1 : Nat} {x2 : Int32}  : sX15_isRules F (rel u h) (hS u + x0) (hS u + x1) x2 = (kcX15_isRules F h x0 x1 x2).map (rm2 u) := by
  simp only [sX15_isRules, kcX15_isRules, e_X14_clear, e_X15_nextToken, e_X15_isWord, e_X15_isNumber, e_X15_isSign, e_X15_isRules_117, l_I, l_J, l_N, l_R, l_wI, l_wJ, l_wR, l_wR0, l_nC, l_nM, nm_rel, nm_hS, l_onr, m_onr, cl_some, m_br, m_gd, m_nm, m_cl, cl_m, mapS, mapN, fcN_eq, fcI_eq, cwIk_eq, cwJk_eq, cwRk_eq, cnCk_eq, cnMk_eq]

def kcX15_take (h : Qs) (x0 : Nat) : Option (Qs) := cl (cR h x0 4) fun r_1 => cl (cR h x0 5) fun r_2 => cwRk h x0 4 (some r_2) fun h_3 => cwRk h_3 x0 5 (some r_1) fun h_4 => cl (cR h_4 x0 4) fun r_5 => cwIk h_4 x0 11 (cI h_4 r_5 0) fun h_6 => cl (cR h_6 x0 4) fun r_7 => cwIk h_6 x0 12 (cI h_6 r_7 1) fun h_8 => cwIk h_8 x0 13 ((cI h_8 x0 11) * (cI h_8 x0 12)) fun h_9 => some h_9
theorem e_X15_take {u : Hp} {h : Qs} {x0 : Nat}  : sX15_take (rel u h) (hS u + x0) = (kcX15_take h x0).map (rm1 u) := by
  simp only [sX15_take, kcX15_take, l_I, l_J, l_N, l_R, l_wI, l_wJ, l_wR, l_wR0, l_nC, l_nM, nm_rel, nm_hS, l_onr, m_onr, cl_some, m_br, m_gd, m_nm, m_cl, cl_m, mapS, mapN, fcN_eq, fcI_eq, cwIk_eq, cwJk_eq, cwRk_eq, cnCk_eq, cnMk_eq]

def kcX15_init_448 (F : Nat) : Nat → Qs → Nat → Int32 → Option (Qs)
  | 0, _, _, _ => none
  | f + 1, h, x0, x3 => br ((60 : Int32) ≤ x3) (some h) (cl (cR h x0 15) fun r_2 => gd (inB x3 (cN h r_2)) <| cwIk h r_2 x3.toNatClampNeg (0 : Int32) fun h_4 => fcI (x3 + (1 : Int32)) fun v_5 => kcX15_init_448 F f h_4 x0 v_5)
theorem e_X15_init_448 {u : Hp} {F : Nat}  : ∀ (f : Nat) (h : Qs) (x0 : Nat) (x3 : Int32), sX15_init_448 F f (rel u h) (hS u + x0) x3 = (kcX15_init_448 F f h x0 x3).map (rm1 u) := by
  intro f
  induction f with
  | zero => intros; rfl
  | succ f ih =>
    intro h x0 x3
    simp only [sX15_init_448, kcX15_init_448, ih, l_I, l_J, l_N, l_R, l_wI, l_wJ, l_wR, l_wR0, l_nC, l_nM, nm_rel, nm_hS, l_onr, m_onr, cl_some, m_br, m_gd, m_nm, m_cl, cl_m, mapS, mapN, fcN_eq, fcI_eq, cwIk_eq, cwJk_eq, cwRk_eq, cnCk_eq, cnMk_eq]

def kcX15_init_446 (F : Nat) (h : Qs) (x0 : Nat) : Option (Qs) := kcX15_init_448 F F h x0 (0 : Int32)
theorem e_X15_init_446 {u : Hp} {F : Nat} {h : Qs} {x0 : Nat}  : sX15_init_446 F (rel u h) (hS u + x0) = (kcX15_init_446 F h x0).map (rm1 u) := by
  simp only [sX15_init_446, kcX15_init_446, e_X15_init_448, l_I, l_J, l_N, l_R, l_wI, l_wJ, l_wR, l_wR0, l_nC, l_nM, nm_rel, nm_hS, l_onr, m_onr, cl_some, m_br, m_gd, m_nm, m_cl, cl_m, mapS, mapN, fcN_eq, fcI_eq, cwIk_eq, cwJk_eq, cwRk_eq, cnCk_eq, cnMk_eq]

def kcX15_init_441 (F : Nat) (h : Qs) (x0 : Nat) (t0 : Int32) : Option (Qs) := cl (kcX15_take h x0) fun o_1 => kcX15_init_446 F o_1 x0
theorem e_X15_init_441 {u : Hp} {F : Nat} {h : Qs} {x0 : Nat} {t0 : Int32}  : sX15_init_441 F (rel u h) (hS u + x0) t0 = (kcX15_init_441 F h x0 t0).map (rm1 u) := by
  simp only [sX15_init_441, kcX15_init_441, e_X15_init_446, e_X15_take, l_I, l_J, l_N, l_R, l_wI, l_wJ, l_wR, l_wR0, l_nC, l_nM, nm_rel, nm_hS, l_onr, m_onr, cl_some, m_br, m_gd, m_nm, m_cl, cl_m, mapS, mapN, fcN_eq, fcI_eq, cwIk_eq, cwJk_eq, cwRk_eq, cnCk_eq, cnMk_eq]

def kcX15_init_426 (F : Nat) (k_411 : Qs → Nat → Nat → Int32 → Option (Qs)) (h : Qs) (x0 : Nat) (x1 : Nat) (x2 : Int32) (t0 : Int32) (t1 : Int32) (t2 : Nat) : Option (Qs) := gd (inB t1 (cN h t2)) <| cwIk h t2 t1.toNatClampNeg (vp_nar .byte t0.toInt8.toInt32) fun h_2 => fcI (x2 + (1 : Int32)) fun v_3 => k_411 h_2 x0 x1 v_3
theorem e_X15_init_426 {u : Hp} {F : Nat} {k_411 : Hp → Nat → Nat → Int32 → Option (Hp)} {k_411_ : Qs → Nat → Nat → Int32 → Option (Qs)} {h : Qs} {x0 : Nat} {x1 : Nat} {x2 : Int32} {t0 : Int32} {t1 : Int32} {t2 : Nat} (hk_411 : ∀ (h : Qs) (x0 : Nat) (x1 : Nat) (x2 : Int32), k_411 (rel u h) (hS u + x0) (hS u + x1) x2 = (k_411_ h x0 x1 x2).map (rm1 u)) : sX15_init_426 F k_411 (rel u h) (hS u + x0) (hS u + x1) x2 t0 t1 (hS u + t2) = (kcX15_init_426 F k_411_ h x0 x1 x2 t0 t1 t2).map (rm1 u) := by
  simp only [sX15_init_426, kcX15_init_426, hk_411, l_I, l_J, l_N, l_R, l_wI, l_wJ, l_wR, l_wR0, l_nC, l_nM, nm_rel, nm_hS, l_onr, m_onr, cl_some, m_br, m_gd, m_nm, m_cl, cl_m, mapS, mapN, fcN_eq, fcI_eq, cwIk_eq, cwJk_eq, cwRk_eq, cnCk_eq, cnMk_eq]

def kcX15_init_411 (F : Nat) : Nat → Qs → Nat → Nat → Int32 → Option (Qs)
  | 0, _, _, _, _ => none
  | f + 1, h, x0, x1, x2 => br ((nI (cN h x1)) ≤ x2) (cl (kcX15_isRules F h x0 x1 (nI (cN h x1))) fun o_2 => kcX15_init_441 F o_2.2 x0 o_2.1) (gd (inB x2 (lB 28).length) <| kcX15_init_426 F (kcX15_init_411 F f) h x0 x1 x2 (schr 28 x2) x2 x1)
theorem e_X15_init_411 {u : Hp} {F : Nat}  : ∀ (f : Nat) (h : Qs) (x0 : Nat) (x1 : Nat) (x2 : Int32), sX15_init_411 F f (rel u h) (hS u + x0) (hS u + x1) x2 = (kcX15_init_411 F f h x0 x1 x2).map (rm1 u) := by
  intro f
  induction f with
  | zero => intros; rfl
  | succ f ih =>
    intro h x0 x1 x2
    simp only [sX15_init_411, kcX15_init_411, e_X15_init_441, e_X15_isRules, (e_X15_init_426 ih), l_I, l_J, l_N, l_R, l_wI, l_wJ, l_wR, l_wR0, l_nC, l_nM, nm_rel, nm_hS, l_onr, m_onr, cl_some, m_br, m_gd, m_nm, m_cl, cl_m, mapS, mapN, fcN_eq, fcI_eq, cwIk_eq, cwJk_eq, cwRk_eq, cnCk_eq, cnMk_eq]

def kcX15_init_408 (F : Nat) (h : Qs) (x0 : Nat) (t0 : Nat) : Option (Qs) := kcX15_init_411 F F h x0 t0 (0 : Int32)
theorem e_X15_init_408 {u : Hp} {F : Nat} {h : Qs} {x0 : Nat} {t0 : Nat}  : sX15_init_408 F (rel u h) (hS u + x0) (hS u + t0) = (kcX15_init_408 F h x0 t0).map (rm1 u) := by
  simp only [sX15_init_408, kcX15_init_408, e_X15_init_411, l_I, l_J, l_N, l_R, l_wI, l_wJ, l_wR, l_wR0, l_nC, l_nM, nm_rel, nm_hS, l_onr, m_onr, cl_some, m_br, m_gd, m_nm, m_cl, cl_m, mapS, mapN, fcN_eq, fcI_eq, cwIk_eq, cwJk_eq, cwRk_eq, cnCk_eq, cnMk_eq]

def kcX15_init_406 (F : Nat) (h : Qs) (x0 : Nat) (t0 : Int32) : Option (Qs) := gd (¬ t0 < 0) <| gd (t0.toNatClampNeg ≤ 1000000) <| fcN (cS h) fun a_1 => cnCk h 16 t0.toNatClampNeg t0.toNatClampNeg fun h_2 => kcX15_init_408 F h_2 x0 a_1
theorem e_X15_init_406 {u : Hp} {F : Nat} {h : Qs} {x0 : Nat} {t0 : Int32}  : sX15_init_406 F (rel u h) (hS u + x0) t0 = (kcX15_init_406 F h x0 t0).map (rm1 u) := by
  simp only [sX15_init_406, kcX15_init_406, e_X15_init_408, l_I, l_J, l_N, l_R, l_wI, l_wJ, l_wR, l_wR0, l_nC, l_nM, nm_rel, nm_hS, l_onr, m_onr, cl_some, m_br, m_gd, m_nm, m_cl, cl_m, mapS, mapN, fcN_eq, fcI_eq, cwIk_eq, cwJk_eq, cwRk_eq, cnCk_eq, cnMk_eq]

def kcX15_init_397 (F : Nat) (h : Qs) (x0 : Nat) (t0 : Nat) (t1 : Nat) : Option (Qs) := cwRk h t1 69 (some t0) fun h_1 => kcX15_init_406 F h_1 x0 (nI (lB 28).length)
theorem e_X15_init_397 {u : Hp} {F : Nat} {h : Qs} {x0 : Nat} {t0 : Nat} {t1 : Nat}  : sX15_init_397 F (rel u h) (hS u + x0) (hS u + t0) (hS u + t1) = (kcX15_init_397 F h x0 t0 t1).map (rm1 u) := by
  simp only [sX15_init_397, kcX15_init_397, e_X15_init_406, l_I, l_J, l_N, l_R, l_wI, l_wJ, l_wR, l_wR0, l_nC, l_nM, nm_rel, nm_hS, l_onr, m_onr, cl_some, m_br, m_gd, m_nm, m_cl, cl_m, mapS, mapN, fcN_eq, fcI_eq, cwIk_eq, cwJk_eq, cwRk_eq, cnCk_eq, cnMk_eq]

def kcX15_init_388 (F : Nat) (h : Qs) (x0 : Nat) (t0 : Nat) (t1 : Nat) : Option (Qs) := cwRk h t1 61 (some t0) fun h_1 => fcN (cS h_1) fun a_2 => cnCk h_1 17 (3000 : Int32).toNatClampNeg (3000 : Int32).toNatClampNeg fun h_3 => kcX15_init_397 F h_3 x0 a_2 x0
theorem e_X15_init_388 {u : Hp} {F : Nat} {h : Qs} {x0 : Nat} {t0 : Nat} {t1 : Nat}  : sX15_init_388 F (rel u h) (hS u + x0) (hS u + t0) (hS u + t1) = (kcX15_init_388 F h x0 t0 t1).map (rm1 u) := by
  simp only [sX15_init_388, kcX15_init_388, e_X15_init_397, l_I, l_J, l_N, l_R, l_wI, l_wJ, l_wR, l_wR0, l_nC, l_nM, nm_rel, nm_hS, l_onr, m_onr, cl_some, m_br, m_gd, m_nm, m_cl, cl_m, mapS, mapN, fcN_eq, fcI_eq, cwIk_eq, cwJk_eq, cwRk_eq, cnCk_eq, cnMk_eq]

def kcX15_init_381 (F : Nat) (h : Qs) (x0 : Nat) (t0 : Nat) (t1 : Nat) : Option (Qs) := cwRk h t1 60 (some t0) fun h_1 => fcN (cS h_1) fun a_2 => cnCk h_1 17 (5 : Int32).toNatClampNeg (5 : Int32).toNatClampNeg fun h_3 => kcX15_init_388 F h_3 x0 a_2 x0
theorem e_X15_init_381 {u : Hp} {F : Nat} {h : Qs} {x0 : Nat} {t0 : Nat} {t1 : Nat}  : sX15_init_381 F (rel u h) (hS u + x0) (hS u + t0) (hS u + t1) = (kcX15_init_381 F h x0 t0 t1).map (rm1 u) := by
  simp only [sX15_init_381, kcX15_init_381, e_X15_init_388, l_I, l_J, l_N, l_R, l_wI, l_wJ, l_wR, l_wR0, l_nC, l_nM, nm_rel, nm_hS, l_onr, m_onr, cl_some, m_br, m_gd, m_nm, m_cl, cl_m, mapS, mapN, fcN_eq, fcI_eq, cwIk_eq, cwJk_eq, cwRk_eq, cnCk_eq, cnMk_eq]

def kcX15_init_377 (F : Nat) (h : Qs) (x0 : Nat) (t0 : Nat) (t1 : Nat) : Option (Qs) := cl (kcX12_init h t0) fun o_1 => kcX15_init_381 F o_1 x0 t0 t1
theorem e_X15_init_377 {u : Hp} {F : Nat} {h : Qs} {x0 : Nat} {t0 : Nat} {t1 : Nat}  : sX15_init_377 F (rel u h) (hS u + x0) (hS u + t0) (hS u + t1) = (kcX15_init_377 F h x0 t0 t1).map (rm1 u) := by
  simp only [sX15_init_377, kcX15_init_377, e_X15_init_381, e_X12_init, l_I, l_J, l_N, l_R, l_wI, l_wJ, l_wR, l_wR0, l_nC, l_nM, nm_rel, nm_hS, l_onr, m_onr, cl_some, m_br, m_gd, m_nm, m_cl, cl_m, mapS, mapN, fcN_eq, fcI_eq, cwIk_eq, cwJk_eq, cwRk_eq, cnCk_eq, cnMk_eq]

def kcX15_init_370 (F : Nat) (h : Qs) (x0 : Nat) (t0 : Nat) (t1 : Nat) : Option (Qs) := cwRk h t1 58 (some t0) fun h_1 => fcN (cS h_1) fun a_2 => cnCk h_1 12 0 8 fun h_3 => kcX15_init_377 F h_3 x0 a_2 x0
theorem e_X15_init_370 {u : Hp} {F : Nat} {h : Qs} {x0 : Nat} {t0 : Nat} {t1 : Nat}  : sX15_init_370 F (rel u h) (hS u + x0) (hS u + t0) (hS u + t1) = (kcX15_init_370 F h x0 t0 t1).map (rm1 u) := by
  simp only [sX15_init_370, kcX15_init_370, e_X15_init_377, l_I, l_J, l_N, l_R, l_wI, l_wJ, l_wR, l_wR0, l_nC, l_nM, nm_rel, nm_hS, l_onr, m_onr, cl_some, m_br, m_gd, m_nm, m_cl, cl_m, mapS, mapN, fcN_eq, fcI_eq, cwIk_eq, cwJk_eq, cwRk_eq, cnCk_eq, cnMk_eq]

def kcX15_init_362 (F : Nat) (h : Qs) (x0 : Nat) (t0 : Nat) (t1 : Nat) : Option (Qs) := cwRk h t1 57 (some t0) fun h_1 => fcN (cS h_1) fun a_2 => cnCk h_1 17 (6 : Int32).toNatClampNeg (6 : Int32).toNatClampNeg fun h_3 => kcX15_init_370 F h_3 x0 a_2 x0
theorem e_X15_init_362 {u : Hp} {F : Nat} {h : Qs} {x0 : Nat} {t0 : Nat} {t1 : Nat}  : sX15_init_362 F (rel u h) (hS u + x0) (hS u + t0) (hS u + t1) = (kcX15_init_362 F h x0 t0 t1).map (rm1 u) := by
  simp only [sX15_init_362, kcX15_init_362, e_X15_init_370, l_I, l_J, l_N, l_R, l_wI, l_wJ, l_wR, l_wR0, l_nC, l_nM, nm_rel, nm_hS, l_onr, m_onr, cl_some, m_br, m_gd, m_nm, m_cl, cl_m, mapS, mapN, fcN_eq, fcI_eq, cwIk_eq, cwJk_eq, cwRk_eq, cnCk_eq, cnMk_eq]

def kcX15_init_354 (F : Nat) (h : Qs) (x0 : Nat) (t0 : Nat) (t1 : Nat) : Option (Qs) := cwRk h t1 56 (some t0) fun h_1 => fcN (cS h_1) fun a_2 => cnCk h_1 17 (6 : Int32).toNatClampNeg (6 : Int32).toNatClampNeg fun h_3 => kcX15_init_362 F h_3 x0 a_2 x0
theorem e_X15_init_354 {u : Hp} {F : Nat} {h : Qs} {x0 : Nat} {t0 : Nat} {t1 : Nat}  : sX15_init_354 F (rel u h) (hS u + x0) (hS u + t0) (hS u + t1) = (kcX15_init_354 F h x0 t0 t1).map (rm1 u) := by
  simp only [sX15_init_354, kcX15_init_354, e_X15_init_362, l_I, l_J, l_N, l_R, l_wI, l_wJ, l_wR, l_wR0, l_nC, l_nM, nm_rel, nm_hS, l_onr, m_onr, cl_some, m_br, m_gd, m_nm, m_cl, cl_m, mapS, mapN, fcN_eq, fcI_eq, cwIk_eq, cwJk_eq, cwRk_eq, cnCk_eq, cnMk_eq]

def kcX15_init_345 (F : Nat) (h : Qs) (x0 : Nat) (t0 : Nat) (t1 : Nat) : Option (Qs) := cwRk h t1 55 (some t0) fun h_1 => fcN (cS h_1) fun a_2 => cnCk h_1 17 (16384 : Int32).toNatClampNeg (16384 : Int32).toNatClampNeg fun h_3 => kcX15_init_354 F h_3 x0 a_2 x0
theorem e_X15_init_345 {u : Hp} {F : Nat} {h : Qs} {x0 : Nat} {t0 : Nat} {t1 : Nat}  : sX15_init_345 F (rel u h) (hS u + x0) (hS u + t0) (hS u + t1) = (kcX15_init_345 F h x0 t0 t1).map (rm1 u) := by
  simp only [sX15_init_345, kcX15_init_345, e_X15_init_354, l_I, l_J, l_N, l_R, l_wI, l_wJ, l_wR, l_wR0, l_nC, l_nM, nm_rel, nm_hS, l_onr, m_onr, cl_some, m_br, m_gd, m_nm, m_cl, cl_m, mapS, mapN, fcN_eq, fcI_eq, cwIk_eq, cwJk_eq, cwRk_eq, cnCk_eq, cnMk_eq]

def kcX15_init_336 (F : Nat) (h : Qs) (x0 : Nat) (t0 : Nat) (t1 : Nat) : Option (Qs) := cwRk h t1 54 (some t0) fun h_1 => fcN (cS h_1) fun a_2 => cnCk h_1 17 (16384 : Int32).toNatClampNeg (16384 : Int32).toNatClampNeg fun h_3 => kcX15_init_345 F h_3 x0 a_2 x0
theorem e_X15_init_336 {u : Hp} {F : Nat} {h : Qs} {x0 : Nat} {t0 : Nat} {t1 : Nat}  : sX15_init_336 F (rel u h) (hS u + x0) (hS u + t0) (hS u + t1) = (kcX15_init_336 F h x0 t0 t1).map (rm1 u) := by
  simp only [sX15_init_336, kcX15_init_336, e_X15_init_345, l_I, l_J, l_N, l_R, l_wI, l_wJ, l_wR, l_wR0, l_nC, l_nM, nm_rel, nm_hS, l_onr, m_onr, cl_some, m_br, m_gd, m_nm, m_cl, cl_m, mapS, mapN, fcN_eq, fcI_eq, cwIk_eq, cwJk_eq, cwRk_eq, cnCk_eq, cnMk_eq]

def kcX15_init_327 (F : Nat) (h : Qs) (x0 : Nat) (t0 : Nat) (t1 : Nat) : Option (Qs) := cwRk h t1 53 (some t0) fun h_1 => fcN (cS h_1) fun a_2 => cnCk h_1 18 (9376 : Int32).toNatClampNeg (9376 : Int32).toNatClampNeg fun h_3 => kcX15_init_336 F h_3 x0 a_2 x0
theorem e_X15_init_327 {u : Hp} {F : Nat} {h : Qs} {x0 : Nat} {t0 : Nat} {t1 : Nat}  : sX15_init_327 F (rel u h) (hS u + x0) (hS u + t0) (hS u + t1) = (kcX15_init_327 F h x0 t0 t1).map (rm1 u) := by
  simp only [sX15_init_327, kcX15_init_327, e_X15_init_336, l_I, l_J, l_N, l_R, l_wI, l_wJ, l_wR, l_wR0, l_nC, l_nM, nm_rel, nm_hS, l_onr, m_onr, cl_some, m_br, m_gd, m_nm, m_cl, cl_m, mapS, mapN, fcN_eq, fcI_eq, cwIk_eq, cwJk_eq, cwRk_eq, cnCk_eq, cnMk_eq]

def kcX15_init_318 (F : Nat) (h : Qs) (x0 : Nat) (t0 : Nat) (t1 : Nat) : Option (Qs) := cwRk h t1 51 (some t0) fun h_1 => fcN (cS h_1) fun a_2 => cnCk h_1 17 (4096 : Int32).toNatClampNeg (4096 : Int32).toNatClampNeg fun h_3 => kcX15_init_327 F h_3 x0 a_2 x0
theorem e_X15_init_318 {u : Hp} {F : Nat} {h : Qs} {x0 : Nat} {t0 : Nat} {t1 : Nat}  : sX15_init_318 F (rel u h) (hS u + x0) (hS u + t0) (hS u + t1) = (kcX15_init_318 F h x0 t0 t1).map (rm1 u) := by
  simp only [sX15_init_318, kcX15_init_318, e_X15_init_327, l_I, l_J, l_N, l_R, l_wI, l_wJ, l_wR, l_wR0, l_nC, l_nM, nm_rel, nm_hS, l_onr, m_onr, cl_some, m_br, m_gd, m_nm, m_cl, cl_m, mapS, mapN, fcN_eq, fcI_eq, cwIk_eq, cwJk_eq, cwRk_eq, cnCk_eq, cnMk_eq]

def kcX15_init_309 (F : Nat) (h : Qs) (x0 : Nat) (t0 : Nat) (t1 : Nat) : Option (Qs) := cwRk h t1 48 (some t0) fun h_1 => fcN (cS h_1) fun a_2 => cnCk h_1 17 (600000 : Int32).toNatClampNeg (600000 : Int32).toNatClampNeg fun h_3 => kcX15_init_318 F h_3 x0 a_2 x0
theorem e_X15_init_309 {u : Hp} {F : Nat} {h : Qs} {x0 : Nat} {t0 : Nat} {t1 : Nat}  : sX15_init_309 F (rel u h) (hS u + x0) (hS u + t0) (hS u + t1) = (kcX15_init_309 F h x0 t0 t1).map (rm1 u) := by
  simp only [sX15_init_309, kcX15_init_309, e_X15_init_318, l_I, l_J, l_N, l_R, l_wI, l_wJ, l_wR, l_wR0, l_nC, l_nM, nm_rel, nm_hS, l_onr, m_onr, cl_some, m_br, m_gd, m_nm, m_cl, cl_m, mapS, mapN, fcN_eq, fcI_eq, cwIk_eq, cwJk_eq, cwRk_eq, cnCk_eq, cnMk_eq]

def kcX15_init_300 (F : Nat) (h : Qs) (x0 : Nat) (t0 : Nat) (t1 : Nat) : Option (Qs) := cwRk h t1 47 (some t0) fun h_1 => fcN (cS h_1) fun a_2 => cnCk h_1 17 (4096 : Int32).toNatClampNeg (4096 : Int32).toNatClampNeg fun h_3 => kcX15_init_309 F h_3 x0 a_2 x0
theorem e_X15_init_300 {u : Hp} {F : Nat} {h : Qs} {x0 : Nat} {t0 : Nat} {t1 : Nat}  : sX15_init_300 F (rel u h) (hS u + x0) (hS u + t0) (hS u + t1) = (kcX15_init_300 F h x0 t0 t1).map (rm1 u) := by
  simp only [sX15_init_300, kcX15_init_300, e_X15_init_309, l_I, l_J, l_N, l_R, l_wI, l_wJ, l_wR, l_wR0, l_nC, l_nM, nm_rel, nm_hS, l_onr, m_onr, cl_some, m_br, m_gd, m_nm, m_cl, cl_m, mapS, mapN, fcN_eq, fcI_eq, cwIk_eq, cwJk_eq, cwRk_eq, cnCk_eq, cnMk_eq]

def kcX15_init_291 (F : Nat) (h : Qs) (x0 : Nat) (t0 : Nat) (t1 : Nat) : Option (Qs) := cwRk h t1 46 (some t0) fun h_1 => fcN (cS h_1) fun a_2 => cnCk h_1 17 (20480 : Int32).toNatClampNeg (20480 : Int32).toNatClampNeg fun h_3 => kcX15_init_300 F h_3 x0 a_2 x0
theorem e_X15_init_291 {u : Hp} {F : Nat} {h : Qs} {x0 : Nat} {t0 : Nat} {t1 : Nat}  : sX15_init_291 F (rel u h) (hS u + x0) (hS u + t0) (hS u + t1) = (kcX15_init_291 F h x0 t0 t1).map (rm1 u) := by
  simp only [sX15_init_291, kcX15_init_291, e_X15_init_300, l_I, l_J, l_N, l_R, l_wI, l_wJ, l_wR, l_wR0, l_nC, l_nM, nm_rel, nm_hS, l_onr, m_onr, cl_some, m_br, m_gd, m_nm, m_cl, cl_m, mapS, mapN, fcN_eq, fcI_eq, cwIk_eq, cwJk_eq, cwRk_eq, cnCk_eq, cnMk_eq]

def kcX15_init_282 (F : Nat) (h : Qs) (x0 : Nat) (t0 : Nat) (t1 : Nat) : Option (Qs) := cwRk h t1 45 (some t0) fun h_1 => fcN (cS h_1) fun a_2 => cnCk h_1 17 (4096 : Int32).toNatClampNeg (4096 : Int32).toNatClampNeg fun h_3 => kcX15_init_291 F h_3 x0 a_2 x0
theorem e_X15_init_282 {u : Hp} {F : Nat} {h : Qs} {x0 : Nat} {t0 : Nat} {t1 : Nat}  : sX15_init_282 F (rel u h) (hS u + x0) (hS u + t0) (hS u + t1) = (kcX15_init_282 F h x0 t0 t1).map (rm1 u) := by
  simp only [sX15_init_282, kcX15_init_282, e_X15_init_291, l_I, l_J, l_N, l_R, l_wI, l_wJ, l_wR, l_wR0, l_nC, l_nM, nm_rel, nm_hS, l_onr, m_onr, cl_some, m_br, m_gd, m_nm, m_cl, cl_m, mapS, mapN, fcN_eq, fcI_eq, cwIk_eq, cwJk_eq, cwRk_eq, cnCk_eq, cnMk_eq]

def kcX15_init_278 (F : Nat) (h : Qs) (x0 : Nat) (t0 : Nat) (t1 : Nat) : Option (Qs) := cl (kcX12_init h t0) fun o_1 => kcX15_init_282 F o_1 x0 t0 t1
theorem e_X15_init_278 {u : Hp} {F : Nat} {h : Qs} {x0 : Nat} {t0 : Nat} {t1 : Nat}  : sX15_init_278 F (rel u h) (hS u + x0) (hS u + t0) (hS u + t1) = (kcX15_init_278 F h x0 t0 t1).map (rm1 u) := by
  simp only [sX15_init_278, kcX15_init_278, e_X15_init_282, e_X12_init, l_I, l_J, l_N, l_R, l_wI, l_wJ, l_wR, l_wR0, l_nC, l_nM, nm_rel, nm_hS, l_onr, m_onr, cl_some, m_br, m_gd, m_nm, m_cl, cl_m, mapS, mapN, fcN_eq, fcI_eq, cwIk_eq, cwJk_eq, cwRk_eq, cnCk_eq, cnMk_eq]

def kcX15_init_271 (F : Nat) (h : Qs) (x0 : Nat) (t0 : Nat) (t1 : Nat) : Option (Qs) := cwRk h t1 43 (some t0) fun h_1 => fcN (cS h_1) fun a_2 => cnCk h_1 12 0 8 fun h_3 => kcX15_init_278 F h_3 x0 a_2 x0
theorem e_X15_init_271 {u : Hp} {F : Nat} {h : Qs} {x0 : Nat} {t0 : Nat} {t1 : Nat}  : sX15_init_271 F (rel u h) (hS u + x0) (hS u + t0) (hS u + t1) = (kcX15_init_271 F h x0 t0 t1).map (rm1 u) := by
  simp only [sX15_init_271, kcX15_init_271, e_X15_init_278, l_I, l_J, l_N, l_R, l_wI, l_wJ, l_wR, l_wR0, l_nC, l_nM, nm_rel, nm_hS, l_onr, m_onr, cl_some, m_br, m_gd, m_nm, m_cl, cl_m, mapS, mapN, fcN_eq, fcI_eq, cwIk_eq, cwJk_eq, cwRk_eq, cnCk_eq, cnMk_eq]

def kcX15_init_262 (F : Nat) (h : Qs) (x0 : Nat) (t0 : Nat) (t1 : Nat) : Option (Qs) := cwRk h t1 42 (some t0) fun h_1 => fcN (cS h_1) fun a_2 => cnCk h_1 16 (256 : Int32).toNatClampNeg (256 : Int32).toNatClampNeg fun h_3 => kcX15_init_271 F h_3 x0 a_2 x0
theorem e_X15_init_262 {u : Hp} {F : Nat} {h : Qs} {x0 : Nat} {t0 : Nat} {t1 : Nat}  : sX15_init_262 F (rel u h) (hS u + x0) (hS u + t0) (hS u + t1) = (kcX15_init_262 F h x0 t0 t1).map (rm1 u) := by
  simp only [sX15_init_262, kcX15_init_262, e_X15_init_271, l_I, l_J, l_N, l_R, l_wI, l_wJ, l_wR, l_wR0, l_nC, l_nM, nm_rel, nm_hS, l_onr, m_onr, cl_some, m_br, m_gd, m_nm, m_cl, cl_m, mapS, mapN, fcN_eq, fcI_eq, cwIk_eq, cwJk_eq, cwRk_eq, cnCk_eq, cnMk_eq]

def kcX15_init_253 (F : Nat) (h : Qs) (x0 : Nat) (t0 : Nat) (t1 : Nat) : Option (Qs) := cwRk h t1 41 (some t0) fun h_1 => fcN (cS h_1) fun a_2 => cnCk h_1 17 (3000 : Int32).toNatClampNeg (3000 : Int32).toNatClampNeg fun h_3 => kcX15_init_262 F h_3 x0 a_2 x0
theorem e_X15_init_253 {u : Hp} {F : Nat} {h : Qs} {x0 : Nat} {t0 : Nat} {t1 : Nat}  : sX15_init_253 F (rel u h) (hS u + x0) (hS u + t0) (hS u + t1) = (kcX15_init_253 F h x0 t0 t1).map (rm1 u) := by
  simp only [sX15_init_253, kcX15_init_253, e_X15_init_262, l_I, l_J, l_N, l_R, l_wI, l_wJ, l_wR, l_wR0, l_nC, l_nM, nm_rel, nm_hS, l_onr, m_onr, cl_some, m_br, m_gd, m_nm, m_cl, cl_m, mapS, mapN, fcN_eq, fcI_eq, cwIk_eq, cwJk_eq, cwRk_eq, cnCk_eq, cnMk_eq]

def kcX15_init_244 (F : Nat) (h : Qs) (x0 : Nat) (t0 : Nat) (t1 : Nat) : Option (Qs) := cwRk h t1 40 (some t0) fun h_1 => fcN (cS h_1) fun a_2 => cnCk h_1 16 (288000 : Int32).toNatClampNeg (288000 : Int32).toNatClampNeg fun h_3 => kcX15_init_253 F h_3 x0 a_2 x0
theorem e_X15_init_244 {u : Hp} {F : Nat} {h : Qs} {x0 : Nat} {t0 : Nat} {t1 : Nat}  : sX15_init_244 F (rel u h) (hS u + x0) (hS u + t0) (hS u + t1) = (kcX15_init_244 F h x0 t0 t1).map (rm1 u) := by
  simp only [sX15_init_244, kcX15_init_244, e_X15_init_253, l_I, l_J, l_N, l_R, l_wI, l_wJ, l_wR, l_wR0, l_nC, l_nM, nm_rel, nm_hS, l_onr, m_onr, cl_some, m_br, m_gd, m_nm, m_cl, cl_m, mapS, mapN, fcN_eq, fcI_eq, cwIk_eq, cwJk_eq, cwRk_eq, cnCk_eq, cnMk_eq]

def kcX15_init_200 (F : Nat) (h : Qs) (x0 : Nat) (t0 : Nat) (t1 : Nat) : Option (Qs) := gd (inB (0 : Int32) (cN h t0)) <| cwIk h t0 (0 : Int32).toNatClampNeg (- 1 : Int32) fun h_2 => gd (inB (1 : Int32) (cN h_2 t0)) <| cwIk h_2 t0 (1 : Int32).toNatClampNeg (- 1 : Int32) fun h_4 => gd (inB (2 : Int32) (cN h_4 t0)) <| cwIk h_4 t0 (2 : Int32).toNatClampNeg (- 1 : Int32) fun h_6 => gd (inB (3 : Int32) (cN h_6 t0)) <| cwIk h_6 t0 (3 : Int32).toNatClampNeg (- 1 : Int32) fun h_8 => gd (inB (4 : Int32) (cN h_8 t0)) <| cwIk h_8 t0 (4 : Int32).toNatClampNeg (- 1 : Int32) fun h_10 => gd (inB (5 : Int32) (cN h_10 t0)) <| cwIk h_10 t0 (5 : Int32).toNatClampNeg (- 1 : Int32) fun h_12 => gd (inB (6 : Int32) (cN h_12 t0)) <| cwIk h_12 t0 (6 : Int32).toNatClampNeg (- 1 : Int32) fun h_14 => gd (inB (7 : Int32) (cN h_14 t0)) <| cwIk h_14 t0 (7 : Int32).toNatClampNeg (- 1 : Int32) fun h_16 => cwRk h_16 t1 39 (some t0) fun h_17 => fcN (cS h_17) fun a_18 => cnCk h_17 21 (3000 : Int32).toNatClampNeg (3000 : Int32).toNatClampNeg fun h_19 => kcX15_init_244 F h_19 x0 a_18 x0
theorem e_X15_init_200 {u : Hp} {F : Nat} {h : Qs} {x0 : Nat} {t0 : Nat} {t1 : Nat}  : sX15_init_200 F (rel u h) (hS u + x0) (hS u + t0) (hS u + t1) = (kcX15_init_200 F h x0 t0 t1).map (rm1 u) := by
  simp only [sX15_init_200, kcX15_init_200, e_X15_init_244, l_I, l_J, l_N, l_R, l_wI, l_wJ, l_wR, l_wR0, l_nC, l_nM, nm_rel, nm_hS, l_onr, m_onr, cl_some, m_br, m_gd, m_nm, m_cl, cl_m, mapS, mapN, fcN_eq, fcI_eq, cwIk_eq, cwJk_eq, cwRk_eq, cnCk_eq, cnMk_eq]

def kcX15_init_192 (F : Nat) (h : Qs) (x0 : Nat) (t0 : Nat) (t1 : Nat) : Option (Qs) := cwRk h t1 38 (some t0) fun h_1 => fcN (cS h_1) fun a_2 => cnCk h_1 17 (8 : Int32).toNatClampNeg (8 : Int32).toNatClampNeg fun h_3 => kcX15_init_200 F h_3 x0 a_2 x0
theorem e_X15_init_192 {u : Hp} {F : Nat} {h : Qs} {x0 : Nat} {t0 : Nat} {t1 : Nat}  : sX15_init_192 F (rel u h) (hS u + x0) (hS u + t0) (hS u + t1) = (kcX15_init_192 F h x0 t0 t1).map (rm1 u) := by
  simp only [sX15_init_192, kcX15_init_192, e_X15_init_200, l_I, l_J, l_N, l_R, l_wI, l_wJ, l_wR, l_wR0, l_nC, l_nM, nm_rel, nm_hS, l_onr, m_onr, cl_some, m_br, m_gd, m_nm, m_cl, cl_m, mapS, mapN, fcN_eq, fcI_eq, cwIk_eq, cwJk_eq, cwRk_eq, cnCk_eq, cnMk_eq]

def kcX15_init_183 (F : Nat) (h : Qs) (x0 : Nat) (t0 : Nat) (t1 : Nat) : Option (Qs) := cwRk h t1 37 (some t0) fun h_1 => fcN (cS h_1) fun a_2 => cnCk h_1 17 (2408 : Int32).toNatClampNeg (2408 : Int32).toNatClampNeg fun h_3 => kcX15_init_192 F h_3 x0 a_2 x0
theorem e_X15_init_183 {u : Hp} {F : Nat} {h : Qs} {x0 : Nat} {t0 : Nat} {t1 : Nat}  : sX15_init_183 F (rel u h) (hS u + x0) (hS u + t0) (hS u + t1) = (kcX15_init_183 F h x0 t0 t1).map (rm1 u) := by
  simp only [sX15_init_183, kcX15_init_183, e_X15_init_192, l_I, l_J, l_N, l_R, l_wI, l_wJ, l_wR, l_wR0, l_nC, l_nM, nm_rel, nm_hS, l_onr, m_onr, cl_some, m_br, m_gd, m_nm, m_cl, cl_m, mapS, mapN, fcN_eq, fcI_eq, cwIk_eq, cwJk_eq, cwRk_eq, cnCk_eq, cnMk_eq]

def kcX15_init_173 (F : Nat) (h : Qs) (x0 : Nat) (t0 : Nat) (t1 : Nat) : Option (Qs) := cwRk h t1 35 (some t0) fun h_1 => fcN (cS h_1) fun a_2 => cnCk h_1 21 (2408 : Int32).toNatClampNeg (2408 : Int32).toNatClampNeg fun h_3 => kcX15_init_183 F h_3 x0 a_2 x0
theorem e_X15_init_173 {u : Hp} {F : Nat} {h : Qs} {x0 : Nat} {t0 : Nat} {t1 : Nat}  : sX15_init_173 F (rel u h) (hS u + x0) (hS u + t0) (hS u + t1) = (kcX15_init_173 F h x0 t0 t1).map (rm1 u) := by
  simp only [sX15_init_173, kcX15_init_173, e_X15_init_183, l_I, l_J, l_N, l_R, l_wI, l_wJ, l_wR, l_wR0, l_nC, l_nM, nm_rel, nm_hS, l_onr, m_onr, cl_some, m_br, m_gd, m_nm, m_cl, cl_m, mapS, mapN, fcN_eq, fcI_eq, cwIk_eq, cwJk_eq, cwRk_eq, cnCk_eq, cnMk_eq]

def kcX15_init_169 (F : Nat) (h : Qs) (x0 : Nat) (t0 : Nat) (t1 : Nat) : Option (Qs) := cl (kcX12_init h t0) fun o_1 => kcX15_init_173 F o_1 x0 t0 t1
theorem e_X15_init_169 {u : Hp} {F : Nat} {h : Qs} {x0 : Nat} {t0 : Nat} {t1 : Nat}  : sX15_init_169 F (rel u h) (hS u + x0) (hS u + t0) (hS u + t1) = (kcX15_init_169 F h x0 t0 t1).map (rm1 u) := by
  simp only [sX15_init_169, kcX15_init_169, e_X15_init_173, e_X12_init, l_I, l_J, l_N, l_R, l_wI, l_wJ, l_wR, l_wR0, l_nC, l_nM, nm_rel, nm_hS, l_onr, m_onr, cl_some, m_br, m_gd, m_nm, m_cl, cl_m, mapS, mapN, fcN_eq, fcI_eq, cwIk_eq, cwJk_eq, cwRk_eq, cnCk_eq, cnMk_eq]

def kcX15_init_162 (F : Nat) (h : Qs) (x0 : Nat) (t0 : Nat) (t1 : Nat) : Option (Qs) := cwRk h t1 34 (some t0) fun h_1 => fcN (cS h_1) fun a_2 => cnCk h_1 12 0 8 fun h_3 => kcX15_init_169 F h_3 x0 a_2 x0
theorem e_X15_init_162 {u : Hp} {F : Nat} {h : Qs} {x0 : Nat} {t0 : Nat} {t1 : Nat}  : sX15_init_162 F (rel u h) (hS u + x0) (hS u + t0) (hS u + t1) = (kcX15_init_162 F h x0 t0 t1).map (rm1 u) := by
  simp only [sX15_init_162, kcX15_init_162, e_X15_init_169, l_I, l_J, l_N, l_R, l_wI, l_wJ, l_wR, l_wR0, l_nC, l_nM, nm_rel, nm_hS, l_onr, m_onr, cl_some, m_br, m_gd, m_nm, m_cl, cl_m, mapS, mapN, fcN_eq, fcI_eq, cwIk_eq, cwJk_eq, cwRk_eq, cnCk_eq, cnMk_eq]

def kcX15_init_153 (F : Nat) (h : Qs) (x0 : Nat) (t0 : Nat) (t1 : Nat) : Option (Qs) := cwRk h t1 33 (some t0) fun h_1 => fcN (cS h_1) fun a_2 => cnCk h_1 22 (10 : Int32).toNatClampNeg (10 : Int32).toNatClampNeg fun h_3 => kcX15_init_162 F h_3 x0 a_2 x0
theorem e_X15_init_153 {u : Hp} {F : Nat} {h : Qs} {x0 : Nat} {t0 : Nat} {t1 : Nat}  : sX15_init_153 F (rel u h) (hS u + x0) (hS u + t0) (hS u + t1) = (kcX15_init_153 F h x0 t0 t1).map (rm1 u) := by
  simp only [sX15_init_153, kcX15_init_153, e_X15_init_162, l_I, l_J, l_N, l_R, l_wI, l_wJ, l_wR, l_wR0, l_nC, l_nM, nm_rel, nm_hS, l_onr, m_onr, cl_some, m_br, m_gd, m_nm, m_cl, cl_m, mapS, mapN, fcN_eq, fcI_eq, cwIk_eq, cwJk_eq, cwRk_eq, cnCk_eq, cnMk_eq]

def kcX15_init_144 (F : Nat) (h : Qs) (x0 : Nat) (t0 : Nat) (t1 : Nat) : Option (Qs) := cwRk h t1 32 (some t0) fun h_1 => fcN (cS h_1) fun a_2 => cnCk h_1 21 (10 : Int32).toNatClampNeg (10 : Int32).toNatClampNeg fun h_3 => kcX15_init_153 F h_3 x0 a_2 x0
theorem e_X15_init_144 {u : Hp} {F : Nat} {h : Qs} {x0 : Nat} {t0 : Nat} {t1 : Nat}  : sX15_init_144 F (rel u h) (hS u + x0) (hS u + t0) (hS u + t1) = (kcX15_init_144 F h x0 t0 t1).map (rm1 u) := by
  simp only [sX15_init_144, kcX15_init_144, e_X15_init_153, l_I, l_J, l_N, l_R, l_wI, l_wJ, l_wR, l_wR0, l_nC, l_nM, nm_rel, nm_hS, l_onr, m_onr, cl_some, m_br, m_gd, m_nm, m_cl, cl_m, mapS, mapN, fcN_eq, fcI_eq, cwIk_eq, cwJk_eq, cwRk_eq, cnCk_eq, cnMk_eq]

def kcX15_init_140 (F : Nat) (h : Qs) (x0 : Nat) (t0 : Nat) (t1 : Nat) : Option (Qs) := cl (kcX12_init h t0) fun o_1 => kcX15_init_144 F o_1 x0 t0 t1
theorem e_X15_init_140 {u : Hp} {F : Nat} {h : Qs} {x0 : Nat} {t0 : Nat} {t1 : Nat}  : sX15_init_140 F (rel u h) (hS u + x0) (hS u + t0) (hS u + t1) = (kcX15_init_140 F h x0 t0 t1).map (rm1 u) := by
  simp only [sX15_init_140, kcX15_init_140, e_X15_init_144, e_X12_init, l_I, l_J, l_N, l_R, l_wI, l_wJ, l_wR, l_wR0, l_nC, l_nM, nm_rel, nm_hS, l_onr, m_onr, cl_some, m_br, m_gd, m_nm, m_cl, cl_m, mapS, mapN, fcN_eq, fcI_eq, cwIk_eq, cwJk_eq, cwRk_eq, cnCk_eq, cnMk_eq]

def kcX15_init_133 (F : Nat) (h : Qs) (x0 : Nat) (t0 : Nat) (t1 : Nat) : Option (Qs) := cwRk h t1 31 (some t0) fun h_1 => fcN (cS h_1) fun a_2 => cnCk h_1 12 0 8 fun h_3 => kcX15_init_140 F h_3 x0 a_2 x0
theorem e_X15_init_133 {u : Hp} {F : Nat} {h : Qs} {x0 : Nat} {t0 : Nat} {t1 : Nat}  : sX15_init_133 F (rel u h) (hS u + x0) (hS u + t0) (hS u + t1) = (kcX15_init_133 F h x0 t0 t1).map (rm1 u) := by
  simp only [sX15_init_133, kcX15_init_133, e_X15_init_140, l_I, l_J, l_N, l_R, l_wI, l_wJ, l_wR, l_wR0, l_nC, l_nM, nm_rel, nm_hS, l_onr, m_onr, cl_some, m_br, m_gd, m_nm, m_cl, cl_m, mapS, mapN, fcN_eq, fcI_eq, cwIk_eq, cwJk_eq, cwRk_eq, cnCk_eq, cnMk_eq]

def kcX15_init_129 (F : Nat) (h : Qs) (x0 : Nat) (t0 : Nat) (t1 : Nat) : Option (Qs) := cl (kcX13_init h t0) fun o_1 => kcX15_init_133 F o_1 x0 t0 t1
theorem e_X15_init_129 {u : Hp} {F : Nat} {h : Qs} {x0 : Nat} {t0 : Nat} {t1 : Nat}  : sX15_init_129 F (rel u h) (hS u + x0) (hS u + t0) (hS u + t1) = (kcX15_init_129 F h x0 t0 t1).map (rm1 u) := by
  simp only [sX15_init_129, kcX15_init_129, e_X15_init_133, e_X13_init, l_I, l_J, l_N, l_R, l_wI, l_wJ, l_wR, l_wR0, l_nC, l_nM, nm_rel, nm_hS, l_onr, m_onr, cl_some, m_br, m_gd, m_nm, m_cl, cl_m, mapS, mapN, fcN_eq, fcI_eq, cwIk_eq, cwJk_eq, cwRk_eq, cnCk_eq, cnMk_eq]

def kcX15_init_122 (F : Nat) (h : Qs) (x0 : Nat) (t0 : Nat) (t1 : Nat) : Option (Qs) := cwRk h t1 30 (some t0) fun h_1 => fcN (cS h_1) fun a_2 => cnCk h_1 13 0 8 fun h_3 => kcX15_init_129 F h_3 x0 a_2 x0
theorem e_X15_init_122 {u : Hp} {F : Nat} {h : Qs} {x0 : Nat} {t0 : Nat} {t1 : Nat}  : sX15_init_122 F (rel u h) (hS u + x0) (hS u + t0) (hS u + t1) = (kcX15_init_122 F h x0 t0 t1).map (rm1 u) := by
  simp only [sX15_init_122, kcX15_init_122, e_X15_init_129, l_I, l_J, l_N, l_R, l_wI, l_wJ, l_wR, l_wR0, l_nC, l_nM, nm_rel, nm_hS, l_onr, m_onr, cl_some, m_br, m_gd, m_nm, m_cl, cl_m, mapS, mapN, fcN_eq, fcI_eq, cwIk_eq, cwJk_eq, cwRk_eq, cnCk_eq, cnMk_eq]

def kcX15_init_118 (F : Nat) (h : Qs) (x0 : Nat) (t0 : Nat) (t1 : Nat) : Option (Qs) := cl (kcX13_init h t0) fun o_1 => kcX15_init_122 F o_1 x0 t0 t1
theorem e_X15_init_118 {u : Hp} {F : Nat} {h : Qs} {x0 : Nat} {t0 : Nat} {t1 : Nat}  : sX15_init_118 F (rel u h) (hS u + x0) (hS u + t0) (hS u + t1) = (kcX15_init_118 F h x0 t0 t1).map (rm1 u) := by
  simp only [sX15_init_118, kcX15_init_118, e_X15_init_122, e_X13_init, l_I, l_J, l_N, l_R, l_wI, l_wJ, l_wR, l_wR0, l_nC, l_nM, nm_rel, nm_hS, l_onr, m_onr, cl_some, m_br, m_gd, m_nm, m_cl, cl_m, mapS, mapN, fcN_eq, fcI_eq, cwIk_eq, cwJk_eq, cwRk_eq, cnCk_eq, cnMk_eq]

def kcX15_init_111 (F : Nat) (h : Qs) (x0 : Nat) (t0 : Nat) (t1 : Nat) : Option (Qs) := cwRk h t1 28 (some t0) fun h_1 => fcN (cS h_1) fun a_2 => cnCk h_1 13 0 8 fun h_3 => kcX15_init_118 F h_3 x0 a_2 x0
theorem e_X15_init_111 {u : Hp} {F : Nat} {h : Qs} {x0 : Nat} {t0 : Nat} {t1 : Nat}  : sX15_init_111 F (rel u h) (hS u + x0) (hS u + t0) (hS u + t1) = (kcX15_init_111 F h x0 t0 t1).map (rm1 u) := by
  simp only [sX15_init_111, kcX15_init_111, e_X15_init_118, l_I, l_J, l_N, l_R, l_wI, l_wJ, l_wR, l_wR0, l_nC, l_nM, nm_rel, nm_hS, l_onr, m_onr, cl_some, m_br, m_gd, m_nm, m_cl, cl_m, mapS, mapN, fcN_eq, fcI_eq, cwIk_eq, cwJk_eq, cwRk_eq, cnCk_eq, cnMk_eq]

