section
/-! ROWS and PROBLEMS: what both sides count -/
def smT (f : Nat → Nat) : Nat → Nat
  | 0 => 0
  | i + 1 => smT f i + f i
theorem smt_le {f g : Nat → Nat} (h : ∀ i, f i ≤ g i) : ∀ n, smT f n ≤ smT g n
  | 0 => Nat.le_refl 0
  | n + 1 => Nat.add_le_add (smt_le h n) (h n)
theorem smt_m {f : Nat → Nat} : ∀ {i n : Nat}, i ≤ n → smT f i ≤ smT f n := by
  intro i n
  induction n with
  | zero => intro h; have : i = 0 := by omega
            rw [this]; exact Nat.le_refl _
  | succ n ih =>
    intro h
    by_cases c : i = n + 1
    · rw [c]; exact Nat.le_refl _
    · exact Nat.le_trans (ih (by omega)) (Nat.le_add_right _ _)
theorem smt_eq {f g : Nat → Nat} : ∀ n, (∀ i, i < n → f i = g i) → smT f n = smT g n
  | 0, _ => rfl
  | n + 1, h => by
    show smT f n + f n = smT g n + g n
    rw [smt_eq n (fun i hi => h i (by omega)), h n (by omega)]
noncomputable def mvG (L : Nat → Nat → Int) (P : Pz) (f : MvT → Nat) (i : Nat) : Nat := match (lgL L P)[i]? with
  | none => 0
  | some v => f v
theorem mvg_s {L : Nat → Nat → Int} {P : Pz} {f : MvT → Nat} {i : Nat} {v : MvT} (e : (lgL L P)[i]? = some v) : mvG L P f i = f v := by
  unfold mvG; rw [e]
theorem mvg_le {L : Nat → Nat → Int} {P : Pz} {f g : MvT → Nat} (h : ∀ v, f v ≤ g v) (i : Nat) : mvG L P f i ≤ mvG L P g i := by
  unfold mvG
  cases (lgL L P)[i]? with
  | none => exact Nat.le_refl _
  | some v => exact h v
/-- the side that moved moves again -/
def fl2 (P : Pz) : Pz := (P.1, 1 - pzS P, pzR P, 0, pzQ P, pzH P, pzC P, pzK P)
noncomputable def nxP (L : Nat → Nat → Int) (ser : Bool) (P : Pz) (v : MvT) : Option Pz := if ser = true then (if prB' (0 < (enE L (zAll L P v)).1 ∨ RyH L (zAll L P v).1 (pzS (zAll L P v))) = true then none else some (fl2 (zAll L P v))) else some (zAll L P v)
def oZ (o : Option Pz) (f : Pz → Nat) : Nat := match o with
  | none => 0
  | some Q => f Q
/-- how many ROWS of k moves there are -/
noncomputable def rwN (L : Nat → Nat → Int) (ser : Bool) : Nat → Pz → Nat
  | 0, _ => 1
  | 1, P => (lgL L P).length
  | k + 2, P => smT (mvG L P (fun v => oZ (nxP L ser P v) (fun Q => rwN L ser (k + 1) Q))) (lgL L P).length
/-- the GOAL is made -/
noncomputable def glB (L : Nat → Nat → Int) (G : Int) (Q : Pz) : Bool := if G = 0 then decide ((enE L Q).1 = 5) else if G = 1 then decide ((enE L Q).1 = 6) else decide (0 < (enE L Q).1 ∧ (enE L Q).2 = ((1 - pzS Q : Nat) : Int))
/-- what a move adds, r more to come: K the kind, e whether the side that asks is to move -/
noncomputable def brV (L : Nat → Nat → Int) (K G : Int) (T : Bool → Pz → Nat) (r : Nat) (e : Bool) (P : Pz) (v : MvT) : Nat :=
  if K ≤ 1 then (if e = true then (if (if (enE L (zAll L P v)).1 = 0 then decide (0 < r) && decide (T false (zAll L P v) = 0) else decide (K = 0) && glB L G (zAll L P v)) = true then 1 else 0) else (if ((decide (0 < r) && decide (0 < T true (zAll L P v))) || (decide (K = 1) && glB L G (zAll L P v))) = true then 0 else 1))
  else if K = 2 then (if r = 0 then (if glB L G (zAll L P v) = true then 1 else 0) else T (!e) (zAll L P v))
  else if K = 3 then (if r = 0 then (if glB L G (zAll L P v) = true then 1 else 0) else oZ (nxP L true P v) (fun Q => T (!e) Q))
  else T (!e) (zAll L P v)
noncomputable def trV (L : Nat → Nat → Int) (K G : Int) : Nat → Bool → Pz → Nat
  | 0, _, _ => 0
  | r + 1, e, P => if K = 4 ∧ r = 0 then (lgL L P).length else smT (mvG L P (brV L K G (fun e Q => trV L K G r e Q) r e P)) (lgL L P).length
/-- how many replies refute a first move -/
noncomputable def rfV (L : Nat → Nat → Int) (K G : Int) (r : Nat) (P : Pz) (v : MvT) : Nat := if 0 < r then trV L K G r false (zAll L P v) else (lgL L (zAll L P v)).length
section
variable {L : Nat → Nat → Int} {P : Pz} {v : MvT}
theorem lgl_le (H : LOk L) (K : LawK L) (O : PzOk L P) : (lgL L P).length ≤ 2977 := by
  have m := moa_len H K O
  unfold lgL
  split
  · exact Nat.zero_le _
  · unfold mustF
    have f := List.length_filter_le (sfB L P) (moP L P)
    split
    · exact Nat.le_trans (List.length_filter_le _ _) (Nat.le_trans f m)
    · exact Nat.le_trans f m
theorem ene_0 (h : ¬ lgL L P = []) : (enE L P).1 = 0 := by
  unfold enE
  by_cases c : 0 < (er1 L P).1
  · refine absurd ?_ h
    unfold lgL
    rw [if_pos c]
  · rw [if_neg c, if_pos h]
theorem ene_p (h : lgL L P = []) : 0 < (enE L P).1 := by
  unfold enE
  by_cases c : 0 < (er1 L P).1
  · rw [if_pos c]; exact c
  · rw [if_neg c, if_neg (fun z => z h)]
    split
    · show (0 : Int) < 5
      decide
    · show (0 : Int) < 6
      decide
theorem fl2_ok (O : PzOk L P) : PzOk L (fl2 P) := by
  obtain ⟨a, b, c, d, _, f, g, h⟩ := O
  have s : 1 - pzS P < 2 := by omega
  exact ⟨a, b, s, d, Or.inl rfl, f, g, h⟩
theorem nx_ok {ser : Bool} {Q : Pz} (H : LOk L) (K : LawK L) (O : PzOk L P) (G : MvGd L P v) (e : nxP L ser P v = some Q) : PzOk L Q := by
  have o := pz_ok H K O G
  unfold nxP at e
  split at e
  · split at e
    · exact nomatch e
    · rw [← Option.some.inj e]; exact fl2_ok o
  · rw [← Option.some.inj e]; exact o
theorem rwn_1 {ser : Bool} : rwN L ser 1 P = (lgL L P).length := rfl
theorem rwn_s {ser : Bool} {k : Nat} (hk : 1 ≤ k) : rwN L ser (k + 1) P = smT (mvG L P (fun v => oZ (nxP L ser P v) (fun Q => rwN L ser k Q))) (lgL L P).length := by
  obtain ⟨j, rfl⟩ : ∃ j, k = j + 1 := ⟨k - 1, by omega⟩
  rfl
theorem oz_le {o : Option Pz} {f g : Pz → Nat} (h : ∀ Q, f Q ≤ g Q) : oZ o f ≤ oZ o g := by
  cases o with
  | none => exact Nat.le_refl _
  | some Q => exact h Q
/-- no more than there are ROWS -/
theorem trv_1 {K G : Int} (hK : 2 ≤ K) {e : Bool} : trV L K G 1 e P ≤ (lgL L P).length := by
  show (if K = 4 ∧ 0 = 0 then (lgL L P).length else smT (mvG L P (brV L K G (fun e Q => trV L K G 0 e Q) 0 e P)) (lgL L P).length) ≤ _
  split
  · exact Nat.le_refl _
  · have : ∀ n, smT (mvG L P (brV L K G (fun e Q => trV L K G 0 e Q) 0 e P)) n ≤ n := fun n => by
      induction n with
      | zero => exact Nat.le_refl _
      | succ n ih =>
        have y : mvG L P (brV L K G (fun e Q => trV L K G 0 e Q) 0 e P) n ≤ 1 := by
          unfold mvG
          split
          · exact Nat.zero_le _
          · unfold brV
            rw [if_neg (by omega)]
            split
            · rw [if_pos rfl]; split <;> omega
            · split
              · rw [if_pos rfl]; split <;> omega
              · exact Nat.zero_le 1
        exact Nat.add_le_add ih y
    exact this _
theorem trv_le {K G : Int} (hK : 2 ≤ K) : ∀ (r : Nat) (e : Bool) (P : Pz), trV L K G (r + 1) e P ≤ rwN L (decide (K = 3)) (r + 1) P := by
  intro r
  induction r with
  | zero => intro e P; exact trv_1 hK
  | succ r ih =>
    intro e P
    rw [rwn_s (show 1 ≤ r + 1 by omega)]
    show (if K = 4 ∧ r + 1 = 0 then (lgL L P).length else smT (mvG L P (brV L K G (fun e Q => trV L K G (r + 1) e Q) (r + 1) e P)) (lgL L P).length) ≤ _
    rw [if_neg (by omega)]
    refine smt_le (fun i => mvg_le (fun v => ?_) i) _
    unfold brV
    rw [if_neg (by omega)]
    by_cases c2 : K = 2
    · have z : nxP L (decide (K = 3)) P v = some (zAll L P v) := by
        unfold nxP
        rw [if_neg (by rw [decide_eq_true_eq]; omega)]
      rw [if_pos c2, if_neg (by omega), z]
      exact ih _ _
    · rw [if_neg c2]
      by_cases c3 : K = 3
      · rw [if_pos c3, if_neg (by omega), decide_eq_true c3]
        rw [decide_eq_true c3] at ih
        exact oz_le (fun Q => ih _ _)
      · have z : nxP L (decide (K = 3)) P v = some (zAll L P v) := by
          unfold nxP
          rw [if_neg (by rw [decide_eq_true_eq]; exact c3)]
        rw [if_neg c3, z]
        exact ih _ _
end
section
variable {n p l F : Nat} {g h : Hp} {L : Nat → Nat → Int} {P : Pz} {o : Int32 × Hp}
/-- the referee's own room -/
def CRf (n a _i : Nat) : Prop := n + 30 ≤ a ∧ a ≤ n + 47
theorem col_l {own : Nat → Nat} {tp tl : Nat} (k : DyK n g h) (O : OwS n h own) (bp : BkE own h p 1 tp) (bl : BkE own h l 10 tl) (np : ¬ tp = 1 ∧ ¬ tp = tl ∧ tp < 20000 ∧ ¬ tl = 1 ∧ tl < 20000) (H : LOk L) (K : LawK L) (Oz : PzOk L P) (C : ClL n h L) (A : CpA h p (L 10 0) P) (hl : hN h l = 4096) (e : sX5_collect F h (n + 30) p l (4096 : Int32) = some o) : FrW (fun a i => CRf n a i ∨ a = l) h o.2 ∧ DyK n g o.2 ∧ ClM n o.2 l (lgL L P) ∧ o.1.toInt = ((lgL L P).length : Int) := by
  have D : VD (vK n (hS h) p (n + 32) (hS h + 1000 * 3) (hS h + 1000 * 9) l) := vd_k O bp (bk_sh O) (bke_o (c := 3)) (bke_o (c := 9)) bl (by omega)
  have CC : CcB (vK n (hS h) p (n + 32) (hS h + 1000 * 3) (hS h + 1000 * 9) l) h L P := ccb_k k C A hl
  have kk := dk_X5_collect k e
  have kz := dk_X5_collect (dk_self k) e
  obtain ⟨f, _, c, y⟩ := co_all D H K Oz CC e
  refine ⟨?_, kk, c.2, y⟩
  have f' := fw_v (W := fun a i => CRf n a i ∨ a = l) (sb := csB) (cs := [2, 10]) f (show hS h ≤ hS o.2 from hs_g kz.1) (by decide +kernel) (fun j f i z _ => Or.inl ?_) (fun c hc j i hj => ?_)
  · exact f'
  · unfold csB at z
    rw [Bool.and_eq_true] at z
    have a := Nat.le_of_ble_eq_true z.1
    have b := Nat.le_of_ble_eq_true z.2
    exact ⟨by show n + 30 ≤ n + j; omega, by show n + j ≤ n + 47; omega⟩
  · simp only [List.mem_cons, List.not_mem_nil, or_false] at hc
    rcases hc with z | z <;> subst z
    · exact Or.inl ⟨by show n + 30 ≤ n + 32 + j; omega, by have hj : j < 6 := hj; show n + 32 + j ≤ n + 47; omega⟩
    · have hj : j < 1 := hj
      have : j = 0 := by omega
      rw [this]
      exact Or.inr rfl
theorem en_l {own : Nat → Nat} {tp : Nat} (k : DyK n g h) (O : OwS n h own) (bp : BkE own h p 1 tp) (np : ¬ tp = 1 ∧ ¬ tp = 8 ∧ tp < 20000) (H : LOk L) (K : LawK L) (Oz : PzOk L P) (C : ClL n h L) (A : CpA h p (L 10 0) P) (e : sX5_endOf F h (n + 30) p = some o) : FrW (CRf n) h o.2 ∧ DyK n g o.2 ∧ o.1.toInt = (enE L P).1 := by
  have D : VD (vK n (hS h) p (n + 32) (hS h + 1000 * 3) (hS h + 1000 * 9) (n + 31)) := vd_k O bp (bk_sh O) (bke_o (c := 3)) (bke_o (c := 9)) (bk_room O) (by omega)
  have CC : CcB (vK n (hS h) p (n + 32) (hS h + 1000 * 3) (hS h + 1000 * 9) (n + 31)) h L P := ccb_k k C A (ln_d k.1 (a := 31) (w := 4096) (by decide))
  have kk := dk_X5_endOf k e
  have kz := dk_X5_endOf (dk_self k) e
  obtain ⟨f, y⟩ := en_c D H K Oz CC (dk_e (a := 30) (f := 2) (b := 31) k (by decide +kernel)) e
  refine ⟨?_, kk, y⟩
  rcases f with f | f
  · rw [f]; exact fw_0
  · have f' := fw_v (W := CRf n) (sb := csB) (cs := [2, 10]) f (show hS h ≤ hS o.2 from hs_g kz.1) (by decide +kernel) (fun j f i z _ => ?_) (fun c hc j i hj => ?_)
    · exact f'
    · unfold csB at z
      rw [Bool.and_eq_true] at z
      have a := Nat.le_of_ble_eq_true z.1
      have b := Nat.le_of_ble_eq_true z.2
      exact ⟨by show n + 30 ≤ n + j; omega, by show n + j ≤ n + 47; omega⟩
    · simp only [List.mem_cons, List.not_mem_nil, or_false] at hc
      rcases hc with z | z <;> subst z
      · exact ⟨by show n + 30 ≤ n + 32 + j; omega, by have hj : j < 6 := hj; show n + 32 + j ≤ n + 47; omega⟩
      · have hj : j < 1 := hj
        exact ⟨by show n + 30 ≤ n + 31 + j; omega, by show n + 31 + j ≤ n + 47; omega⟩
theorem ryh_k {x : Int32} (H : LOk L) (Oz : PzOk L P) (C : ClL n h L) (A : CpA h p (L 10 0) P) {d : Nat} (ed : x.toInt = (d : Int)) (hd : d < 2) (e : sX5_isRoyalHit F h (n + 30) p x = some o) : o.2 = h ∧ ((o.1 = 0 ∧ ¬ RyH L P.1 d) ∨ (o.1 = 1 ∧ RyH L P.1 d)) := by
  have M : MkC (vK n 0 p 0 0 0 0) h L := cll_k.mpr C
  have A' : CpP (vK n 0 p 0 0 0 0) h (L 10 0) P := cpa_k.mpr A
  exact ryh_c (V := vK n 0 p 0 0 0 0) H Oz.1 Oz.2.1 M.1.1.2 M.1.2.1 M.1.2.2.1 A'.1 A'.2.1 ed hd e
theorem fw_id {W : Nat → Nat → Prop} {a i : Nat} : FrW W h (wI h a i (hI h a i)) := ⟨Nat.le_refl _, fun b j _ _ => by
  rw [r_I]
  by_cases c : b = a ∧ j = i
  · rw [if_pos c, c.1, c.2]; exact ⟨rfl, rfl⟩
  · rw [if_neg c]; exact ⟨rfl, rfl⟩⟩
end
end
section
/-! the class's tree of ROWS -/
def TrW (n d a i : Nat) : Prop := CRf n a i ∨ (n + 79 + d ≤ a ∧ a ≤ n + 86) ∨ (n + 99 + 6 * d ≤ a ∧ a < n + 147) ∨ (a = n + 76 ∧ (i = 9 ∨ (i = 8 ∧ d = 0))) ∨ ((a = n + 87 ∨ a = n + 88) ∧ d ≤ i) ∨ ((a = n + 89 ∨ a = n + 90) ∧ d = 0)
def BrW (n d b a i : Nat) : Prop := CRf n a i ∨ (n + 80 + d ≤ a ∧ a ≤ n + 86) ∨ (n + 99 + 6 * d ≤ a ∧ a < n + 147) ∨ (a = n + 76 ∧ i = 9) ∨ ((a = n + 87 ∨ a = n + 88) ∧ d + 1 ≤ i) ∨ (a = n + 90 ∧ d = 0 ∧ i = b)
def PrW (n : Nat) (L : Nat → Nat → Int) (K G : Int) (last : Nat) (h : Hp) : Prop := ClL n h L ∧ (hI h (n + 76) 5).toInt = K ∧ (hI h (n + 76) 6).toInt = G ∧ (hI h (n + 76) 7).toInt = (last : Int)
def evD (d : Nat) : Bool := decide (d % 2 = 0)
def rcB (n d last : Nat) (h : Hp) : Prop := ∀ e, d ≤ e → e < last → 0 ≤ (hI h (n + 88) e).toInt ∧ (hI h (n + 88) e).toInt ≤ 100000
def TPre (n : Nat) (L : Nat → Nat → Int) (K G : Int) (d last : Nat) (g h : Hp) (P : Pz) : Prop := DyK n g h ∧ PrW n L K G last h ∧ CpA h (n + (93 + 6 * d)) (L 10 0) P ∧ PzOk L P ∧ (d < last ∧ last ≤ 8) ∧ hI h (n + 76) 9 = 0 ∧ rcB n d last h
noncomputable def rfA (L : Nat → Nat → Int) (K G : Int) (last : Nat) (P : Pz) (h : Hp) (n : Nat) : Prop := (hI h (n + 76) 8).toInt = ((lgL L P).length : Int) ∧ (K ≤ 3 → ∀ i, i < (lgL L P).length → (hI h (n + 89) i).toInt = (mvG L P (brV L K G (fun e Q => trV L K G (last - 1) e Q) (last - 1) true P) i : Nat) ∧ (K ≤ 1 → (hI h (n + 90) i).toInt = (mvG L P (rfV L K G (last - 1) P) i : Nat)))
def TPost (n : Nat) (L : Nat → Nat → Int) (K G : Int) (d last : Nat) (g h : Hp) (P : Pz) (o : Int32 × Hp) : Prop := FrW (TrW n d) h o.2 ∧ DyK n g o.2 ∧ ((hI o.2 (n + 76) 9 = 0 ∧ (∀ e, d ≤ e → e < last → (hI o.2 (n + 88) e).toInt = (hI h (n + 88) e).toInt + (rwN L (decide (K = 3)) (e - d + 1) P : Nat) ∧ (hI o.2 (n + 88) e).toInt ≤ 100000) ∧ o.1.toInt = (trV L K G (last - d) (evD d) P : Nat) ∧ (hI o.2 (n + 87) d).toInt = (enE L P).1 ∧ (d = 0 → rfA L K G last P o.2 n)) ∨ (hI o.2 (n + 76) 9 = 1 ∧ ∃ e, d ≤ e ∧ e < last ∧ 100000 < (hI h (n + 88) e).toInt + (rwN L (decide (K = 3)) (e - d + 1) P : Nat)))
def BPost (n : Nat) (L : Nat → Nat → Int) (K G : Int) (d last b : Nat) (g h : Hp) (P : Pz) (v : MvT) (o : Int32 × Hp) : Prop := FrW (BrW n d b) h o.2 ∧ DyK n g o.2 ∧ ((hI o.2 (n + 76) 9 = 0 ∧ (∀ e, d + 1 ≤ e → e < last → (hI o.2 (n + 88) e).toInt = (hI h (n + 88) e).toInt + (oZ (nxP L (decide (K = 3)) P v) (fun Q => rwN L (decide (K = 3)) (e - d) Q) : Nat) ∧ (hI o.2 (n + 88) e).toInt ≤ 100000) ∧ o.1.toInt = (brV L K G (fun e Q => trV L K G (last - (d + 1)) e Q) (last - (d + 1)) (evD d) P v : Nat) ∧ (d = 0 → K ≤ 1 → (hI o.2 (n + 90) b).toInt = (rfV L K G (last - (d + 1)) P v : Nat))) ∨ (hI o.2 (n + 76) 9 = 1 ∧ ∃ e, d + 1 ≤ e ∧ e < last ∧ 100000 < (hI h (n + 88) e).toInt + (oZ (nxP L (decide (K = 3)) P v) (fun Q => rwN L (decide (K = 3)) (e - d) Q) : Nat)))
/-- behind a move: its position stands at d + 1 -/
def BPre (n : Nat) (L : Nat → Nat → Int) (K G : Int) (d last : Nat) (g h : Hp) (P : Pz) (v : MvT) : Prop := DyK n g h ∧ PrW n L K G last h ∧ CpA h (n + (93 + 6 * (d + 1))) (L 10 0) (zAll L P v) ∧ PzOk L (zAll L P v) ∧ (d < last ∧ last ≤ 8) ∧ hI h (n + 76) 9 = 0 ∧ rcB n (d + 1) last h ∧ (d + 1 = last ∨ K = 3 → (hI h (n + 87) (d + 1)).toInt = (enE L (zAll L P v)).1)
section
variable {n d last F : Nat} {g h h' : Hp} {L : Nat → Nat → Int} {K G : Int} {P Q : Pz} {v : MvT} {o : Int32 × Hp} {x1 x2 : Int32}
theorem prw_f {W : Nat → Nat → Prop} {g' : Hp} (k : DyK n g h) (k' : DyK n g' h') (f : FrW W h h') (nw : ∀ j i, (5 ≤ j ∧ j ≤ 12) ∨ (22 ≤ j ∧ j ≤ 28) ∨ (j = 76 ∧ 5 ≤ i ∧ i ≤ 7) → ¬ W (n + j) i) (w : PrW n L K G last h) : PrW n L K G last h' := by
  have s6 := dk_610 k
  refine ⟨cll_e k k' (fun j i hj => f.2 _ _ (by omega) (nw j i (by omega))) w.1, ?_, ?_, ?_⟩
  · rw [(f.2 (n + 76) 5 (by omega) (nw 76 5 (by omega))).1]; exact w.2.1
  · rw [(f.2 (n + 76) 6 (by omega) (nw 76 6 (by omega))).1]; exact w.2.2.1
  · rw [(f.2 (n + 76) 7 (by omega) (nw 76 7 (by omega))).1]; exact w.2.2.2
theorem pth_e (k : DyK n g h) (hd : d < 9) : hR h (n + 77) d = some (n + (93 + 6 * d)) := (k.1.2.1.2.2.1 d hd).1
theorem pth_f (k : DyK n g h) (hd : d < 9) : ∀ q, q ∈ fsP → hR h (n + (93 + 6 * d)) q.1 = some (n + (93 + 6 * d) + q.2) := (k.1.2.1.2.2.1 d hd).2
theorem lst_e (k : DyK n g h) (hd : d < 8) : hR h (n + 78) d = some (n + (79 + d)) := k.1.2.1.2.2.2 d hd
theorem lst_n (k : DyK n g h) (hd : d < 8) : hN h (n + (79 + d)) = 4096 := k.1.2.2.1.2 d hd
theorem cpa_d {W : Nat → Nat → Prop} {g' : Hp} {ro : Int} (k : DyK n g h) (k' : DyK n g' h') (hd : d < 9) (f : FrW W h h') (nw : ∀ j i, j < 6 → ¬ W (n + (93 + 6 * d) + j) i) (A : CpA h (n + (93 + 6 * d)) ro P) : CpA h' (n + (93 + 6 * d)) ro P := by
  have s6 := dk_610 k
  exact cpa_f A (pth_f k' hd) (fun j i hj => f.2 _ _ (by omega) (nw j i hj))
/-- the GOAL -/
theorem ig_c {x : Int32} (OK : LwOk L) (gG : 0 ≤ G ∧ G ≤ 2) (k : DyK n g h) (w : PrW n L K G last h) (A : CpA h (n + (93 + 6 * d)) (L 10 0) Q) (Oz : PzOk L Q) (hd : d < 9) (ix : x.toInt = (d : Int)) (en : (hI h (n + 87) d).toInt = (enE L Q).1) (e : sX4_isGoal h (n + 76) x = some o) : o.2 = h ∧ ((o.1 = 0 ∧ glB L G Q = false) ∨ (¬ o.1 = 0 ∧ glB L G Q = true)) := by
  have z0 : (0 : Int32).toInt = 0 := rfl
  have z1 : (1 : Int32).toInt = 1 := rfl
  have z5 : (5 : Int32).toInt = 5 := rfl
  have z6 : (6 : Int32).toInt = 6 := rfl
  have cx := nc_i (x := x) (by omega)
  have cx : x.toNatClampNeg = d := by omega
  unfold sX4_isGoal sX4_isGoal_47 sX4_isGoal_64 sX4_isGoal_103 at e
  have w6 := w.2.2.1
  unfold glB
  rcases br_s e with ⟨c, e⟩ | ⟨c, e⟩
  · have g0 : G = 0 := by rw [← w6, c]; rfl
    rw [if_pos g0]
    replace e := ce_e (dk_e (a := 76) (f := 3) (b := 87) k (by decide +kernel)) e
    replace e := gg_e e
    rcases br_s e with ⟨c, e⟩ | ⟨c, e⟩ <;> rw [cx] at c
    · rw [so_e (gg_e e)]
      exact ⟨rfl, Or.inr ⟨show ¬ (1 : Int32) = 0 by decide, decide_eq_true (by rw [← en, c]; rfl)⟩⟩
    · rw [so_e (gg_e e)]
      exact ⟨rfl, Or.inl ⟨rfl, decide_eq_false (fun z => c (Int32.toInt_inj.mp (by rw [en, z, z5])))⟩⟩
  have g0 : ¬ G = 0 := fun z => c (Int32.toInt_inj.mp (by rw [w6, z, z0]))
  rw [if_neg g0]
  rcases br_s e with ⟨c, e⟩ | ⟨c, e⟩
  · have g1 : G = 1 := by rw [← w6, c]; rfl
    rw [if_pos g1]
    replace e := ce_e (dk_e (a := 76) (f := 3) (b := 87) k (by decide +kernel)) e
    replace e := gg_e e
    rcases br_s e with ⟨c, e⟩ | ⟨c, e⟩ <;> rw [cx] at c
    · rw [so_e (gg_e e)]
      exact ⟨rfl, Or.inr ⟨show ¬ (1 : Int32) = 0 by decide, decide_eq_true (by rw [← en, c]; rfl)⟩⟩
    · rw [so_e (gg_e e)]
      exact ⟨rfl, Or.inl ⟨rfl, decide_eq_false (fun z => c (Int32.toInt_inj.mp (by rw [en, z, z6])))⟩⟩
  have g1 : ¬ G = 1 := fun z => c (Int32.toInt_inj.mp (by rw [w6, z, z1]))
  rw [if_neg g1]
  replace e := ce_e (dk_e (a := 76) (f := 0) (b := 30) k (by decide +kernel)) e
  replace e := ce_e (dk_e (a := 76) (f := 1) (b := 77) k (by decide +kernel)) e
  replace e := gg_e e
  have p12 : hR h (n + 77) x.toNatClampNeg = some (n + (93 + 6 * d)) := by rw [cx]; exact pth_e k hd
  replace e := ce_e p12 e
  replace e := ce_e (dk_e (a := 76) (f := 3) (b := 87) k (by decide +kernel)) e
  replace e := gg_e e
  obtain ⟨o15, e15, e⟩ := cl_s e
  rw [cx] at e15
  obtain ⟨h15, v15⟩ := win_k k OK.2.2.2.1 Oz w.1 A en e15
  rw [h15] at e
  replace e := ce_e (dk_e (a := 76) (f := 1) (b := 77) k (by decide +kernel)) e
  replace e := gg_e e
  replace e := ce_e p12 e
  have sd : (hI h (n + (93 + 6 * d)) 5).toInt = (pzS Q : Int) := A.2.2.1
  have s2 := Oz.2.2.1
  have v1 : ((1 : Int32) - hI h (n + (93 + 6 * d)) 5).toInt = ((1 - pzS Q : Nat) : Int) := by
    rw [ts (by rw [sd, z1]; omega), sd, z1]; omega
  rcases br_s e with ⟨c, e⟩ | ⟨c, e⟩
  · rw [so_e (gg_e e)]
    refine ⟨rfl, Or.inr ⟨show ¬ (1 : Int32) = 0 by decide, decide_eq_true ?_⟩⟩
    have y : o15.1.toInt = ((1 - pzS Q : Nat) : Int) := by rw [c, v1]
    rw [v15] at y
    by_cases p : 0 < (enE L Q).1
    · rw [if_pos p] at y; exact ⟨p, y⟩
    · rw [if_neg p] at y; omega
  · rw [so_e (gg_e e)]
    refine ⟨rfl, Or.inl ⟨rfl, decide_eq_false (fun z => c (Int32.toInt_inj.mp ?_))⟩⟩
    rw [v15, if_pos z.1, z.2, v1]
/-- how deep the recursion may go: what is known of tree -/
def TreeOK (n F : Nat) (L : Nat → Nat → Int) (K G : Int) (D : Nat) : Prop := ∀ {g h : Hp} {P : Pz} {d last : Nat} {x1 : Int32} {o : Int32 × Hp}, TPre n L K G d last g h P → x1.toInt = (d : Int) → (qX4_attempt F D).2.2.2.2 h (n + 76) x1 = some o → TPost n L K G d last g h P o
theorem brt_c {x2 : Int32} {a i : Nat} (c : TrW n (d + 1) a i) : BrW n d x2.toNatClampNeg a i := by
  unfold TrW at c
  unfold BrW
  rcases c with c | c | c | c | c | c
  · exact Or.inl c
  · exact Or.inr (Or.inl (by omega))
  · exact Or.inr (Or.inr (Or.inl (by omega)))
  · exact Or.inr (Or.inr (Or.inr (Or.inl (by omega))))
  · exact Or.inr (Or.inr (Or.inr (Or.inr (Or.inl c))))
  · omega
/-- the tree behind a move, the same side's turn or not -/
theorem brn_c {D : Nat} (T : TreeOK n F L K G D) (hK : ¬ K = 3) (B : BPre n L K G d last g h P v) (dl : d + 1 < last) (i1 : x1.toInt = ((d + 1 : Nat) : Int)) (e : (qX4_attempt F D).2.2.2.2 h (n + 76) x1 = some o) : TPost n L K G (d + 1) last g h (zAll L P v) o ∧ nxP L (decide (K = 3)) P v = some (zAll L P v) := by
  obtain ⟨b1, b2, b3, b4, b5, b6, b7, b8⟩ := B
  refine ⟨T ⟨b1, b2, b3, b4, ⟨dl, b5.2⟩, b6, b7⟩ i1 e, ?_⟩
  unfold nxP
  rw [if_neg (by rw [decide_eq_true_eq]; exact hK)]
end
end
section
/-! the class's tree: attempts, replies, what goes on -/
section
variable {n d last F D : Nat} {g h : Hp} {L : Nat → Nat → Int} {K G : Int} {P Q : Pz} {v : MvT} {o : Int32 × Hp} {x1 x2 x3 x4 : Int32}
theorem wn_h {x0 p : Nat} {x : Int32} (e : sX5_winnerOf h x0 p x = some o) : o.2 = h := by
  unfold sX5_winnerOf sX5_winnerOf_64 sX5_winnerOf_81 sX5_winnerOf_105 sX5_winnerOf_121 sX5_winnerOf_143 sX5_winnerOf_179 at e
  replace e := nx_e e
  replace e := nx_e e
  rcases br_s e with ⟨_, e⟩ | ⟨_, e⟩
  · obtain ⟨_, _, e⟩ := cl_s e
    replace e := gg_e e
    rcases br_s e with ⟨_, e⟩ | ⟨_, e⟩ <;> rw [so_e e]
  rcases br_s e with ⟨_, e⟩ | ⟨_, e⟩
  · obtain ⟨u, eu, e⟩ := cl_s e
    have hu : u.2 = h := by
      unfold sX5_isOnHill sX5_isOnHill_35 sX5_isOnHill_36 at eu
      obtain ⟨_, _, eu⟩ := cl_s eu
      replace eu := gg_e eu
      rcases br_s eu with ⟨_, eu⟩ | ⟨_, eu⟩
      · rw [so_e (gg_e eu)]
      obtain ⟨_, _, eu⟩ := cl_s eu
      obtain ⟨_, _, eu⟩ := cl_s eu
      replace eu := gg_e eu
      rcases br_s eu with ⟨_, eu⟩ | ⟨_, eu⟩ <;> rw [so_e (gg_e eu)]
    rcases br_s e with ⟨_, e⟩ | ⟨_, e⟩ <;> (rw [so_e e]; exact hu)
  rcases br_s e with ⟨_, e⟩ | ⟨_, e⟩
  · obtain ⟨_, _, e⟩ := cl_s e
    replace e := gg_e e
    obtain ⟨_, _, e⟩ := cl_s e
    rcases br_s e with ⟨_, e⟩ | ⟨_, e⟩ <;> rw [so_e e]
  rcases br_s e with ⟨_, e⟩ | ⟨_, e⟩
  · obtain ⟨u, eu, e⟩ := cl_s e
    have hu : u.2 = h := by
      unfold sX5_isBare sX5_isBare_26 sX5_isBare_27 at eu
      obtain ⟨_, _, eu⟩ := cl_s eu
      replace eu := gg_e eu
      rcases br_s eu with ⟨_, eu⟩ | ⟨_, eu⟩
      · obtain ⟨_, _, eu⟩ := cl_s eu
        replace eu := gg_e eu
        rcases br_s eu with ⟨_, eu⟩ | ⟨_, eu⟩ <;> rw [so_e (gg_e eu)]
      · rw [so_e (gg_e eu)]
    rcases br_s e with ⟨_, e⟩ | ⟨_, e⟩
    · obtain ⟨_, _, e⟩ := cl_s e
      rcases br_s e with ⟨_, e⟩ | ⟨_, e⟩ <;> (rw [so_e e]; exact hu)
    · obtain ⟨_, _, e⟩ := cl_s e
      rcases br_s e with ⟨_, e⟩ | ⟨_, e⟩ <;> (rw [so_e e]; exact hu)
  rcases br_s e with ⟨_, e⟩ | ⟨_, e⟩
  · rw [so_e e]
  rcases br_s e with ⟨_, e⟩ | ⟨_, e⟩
  · obtain ⟨_, _, e⟩ := cl_s e
    rcases br_s e with ⟨_, e⟩ | ⟨_, e⟩
    · rw [so_e e]
    · obtain ⟨_, _, e⟩ := cl_s e
      rcases br_s e with ⟨_, e⟩ | ⟨_, e⟩ <;> rw [so_e e]
  · rw [so_e e]
theorem ig_h {x : Int32} {x0 : Nat} (e : sX4_isGoal h x0 x = some o) : o.2 = h := by
  unfold sX4_isGoal sX4_isGoal_47 sX4_isGoal_64 sX4_isGoal_103 at e
  rcases br_s e with ⟨_, e⟩ | ⟨_, e⟩
  · obtain ⟨_, _, e⟩ := cl_s e
    replace e := gg_e e
    rcases br_s e with ⟨_, e⟩ | ⟨_, e⟩ <;> rw [so_e (gg_e e)]
  rcases br_s e with ⟨_, e⟩ | ⟨_, e⟩
  · obtain ⟨_, _, e⟩ := cl_s e
    replace e := gg_e e
    rcases br_s e with ⟨_, e⟩ | ⟨_, e⟩ <;> rw [so_e (gg_e e)]
  obtain ⟨_, _, e⟩ := cl_s e
  obtain ⟨_, _, e⟩ := cl_s e
  replace e := gg_e e
  obtain ⟨_, _, e⟩ := cl_s e
  obtain ⟨_, _, e⟩ := cl_s e
  replace e := gg_e e
  obtain ⟨o15, e15, e⟩ := cl_s e
  obtain ⟨_, _, e⟩ := cl_s e
  replace e := gg_e e
  obtain ⟨_, _, e⟩ := cl_s e
  have := wn_h e15
  rcases br_s e with ⟨_, e⟩ | ⟨_, e⟩ <;> (rw [so_e (gg_e e)]; exact this)
/-- the end of an attempt: heap and value -/
theorem at_74h {ra : Hp → Nat → Int32 → Int32 → Option (Int32 × Hp)} {rr rg : Hp → Nat → Int32 → Option (Int32 × Hp)} {rb : Hp → Nat → Int32 → Int32 → Option (Int32 × Hp)} {rt : Hp → Nat → Int32 → Option (Int32 × Hp)} {x0 : Nat} (e : sX4_attempt_74 F ra rr rg rb rt h x0 x1 x3 x4 = some o) : o.2 = h := by
  unfold sX4_attempt_74 sX4_attempt_98 sX4_attempt_123 sX4_attempt_124 sX4_attempt_136 at e
  have fin : ∀ {t : Int32} {u : Hp}, br (t = 0) (some ((0 : Int32), u)) (some ((1 : Int32), u)) = some o → o.2 = u := fun e => by
    rcases br_s e with ⟨_, e⟩ | ⟨_, e⟩ <;> rw [so_e e]
  obtain ⟨_, _, e⟩ := cl_s e
  replace e := gg_e e
  rcases br_s e with ⟨_, e⟩ | ⟨_, e⟩
  · rcases br_s e with ⟨_, e⟩ | ⟨_, e⟩
    · exact fin e
    · rcases br_s e with ⟨_, e⟩ | ⟨_, e⟩ <;> exact fin e
  · rcases br_s e with ⟨_, e⟩ | ⟨_, e⟩
    · obtain ⟨o5, e5, e⟩ := cl_s e
      have := ig_h e5
      rcases br_s e with ⟨_, e⟩ | ⟨_, e⟩ <;> exact (fin e).trans this
    · exact fin e
theorem at_74 {ra : Hp → Nat → Int32 → Int32 → Option (Int32 × Hp)} {rr rg : Hp → Nat → Int32 → Option (Int32 × Hp)} {rb : Hp → Nat → Int32 → Int32 → Option (Int32 × Hp)} {rt : Hp → Nat → Int32 → Option (Int32 × Hp)} (OK : LwOk L) (gG : 0 ≤ G ∧ G ≤ 2) (k : DyK n g h) (w : PrW n L K G last h) (A : CpA h (n + (93 + 6 * (d + 1))) (L 10 0) Q) (Oz : PzOk L Q) (hd : d < 8) (i1 : x1.toInt = (d : Int)) (en : (hI h (n + 87) (d + 1)).toInt = (enE L Q).1) (e : sX4_attempt_74 F ra rr rg rb rt h (n + 76) x1 x3 x4 = some o) : o.1.toInt = if (if (enE L Q).1 = 0 then decide (¬ x3 = 0) && decide (x4 = 0) else decide (K = 0) && glB L G Q) = true then 1 else 0 := by
  have z1 : (1 : Int32).toInt = 1 := rfl
  have z0 : (0 : Int32).toInt = 0 := rfl
  have i2 : (x1 + (1 : Int32)).toInt = ((d + 1 : Nat) : Int) := by rw [ta (by omega), i1, z1]; omega
  have c2 := nc_i (x := x1 + (1 : Int32)) (by omega)
  have c2 : (x1 + (1 : Int32)).toNatClampNeg = d + 1 := by omega
  unfold sX4_attempt_74 sX4_attempt_98 sX4_attempt_123 sX4_attempt_124 sX4_attempt_136 at e
  have f0 : ∀ {u : Hp}, br ((0 : Int32) = 0) (some ((0 : Int32), u)) (some ((1 : Int32), u)) = some o → o.1.toInt = 0 := fun e => by
    rw [so_e (bp_e rfl e)]; rfl
  have f1 : ∀ {u : Hp}, br ((1 : Int32) = 0) (some ((0 : Int32), u)) (some ((1 : Int32), u)) = some o → o.1.toInt = 1 := fun e => by
    rw [so_e (bn_e (by decide) e)]; rfl
  replace e := ce_e (dk_e (a := 76) (f := 3) (b := 87) k (by decide +kernel)) e
  replace e := gg_e e
  rcases br_s e with ⟨c, e⟩ | ⟨c, e⟩ <;> rw [c2] at c
  · have n0 : (enE L Q).1 = 0 := by rw [← en, c]; rfl
    rw [if_pos n0]
    rcases br_s e with ⟨c3, e⟩ | ⟨c3, e⟩
    · rw [f0 e, decide_eq_false (fun z => z c3)]; rfl
    · rcases br_s e with ⟨c4, e⟩ | ⟨c4, e⟩
      · rw [f1 e, decide_eq_true c3, decide_eq_true c4]; rfl
      · rw [f0 e, decide_eq_true c3, decide_eq_false c4]; rfl
  · have n0 : ¬ (enE L Q).1 = 0 := fun z => c (Int32.toInt_inj.mp (by rw [en, z, z0]))
    rw [if_neg n0]
    rcases br_s e with ⟨ck, e⟩ | ⟨ck, e⟩
    · have k0 : K = 0 := by rw [← w.2.1, ck]; rfl
      rw [decide_eq_true k0]
      obtain ⟨o5, e5, e⟩ := cl_s e
      obtain ⟨_, y⟩ := ig_c OK gG k w A Oz (by omega) i2 en e5
      rcases y with ⟨y1, y2⟩ | ⟨y1, y2⟩
      · rw [f0 (bp_e y1 e), y2]; rfl
      · rw [f1 (bn_e y1 e), y2]; rfl
    · have k0 : ¬ K = 0 := fun z => ck (Int32.toInt_inj.mp (by rw [w.2.1, z, z0]))
      rw [f0 e, decide_eq_false k0]; rfl
theorem b2i (b : Bool) : (if b = true then (1 : Int) else 0) = ((if b = true then 1 else 0 : Nat) : Int) := by
  cases b <;> rfl
theorem ev_s (d : Nat) : evD (d + 1) = !(evD d) := by
  unfold evD
  by_cases c : d % 2 = 0
  · rw [decide_eq_true c, decide_eq_false (by omega)]; rfl
  · rw [decide_eq_false c, decide_eq_true (by omega)]; rfl
/-- attempts -/
def AtW (n d b a i : Nat) : Prop := TrW n (d + 1) a i ∨ (a = n + 90 ∧ d = 0 ∧ i = b)
theorem atw_b {b a i : Nat} (c : AtW n d b a i) : BrW n d b a i := by
  unfold AtW TrW at c
  unfold BrW
  rcases c with (c | c | c | c | c | c) | c
  · exact Or.inl c
  · exact Or.inr (Or.inl (by omega))
  · exact Or.inr (Or.inr (Or.inl (by omega)))
  · exact Or.inr (Or.inr (Or.inr (Or.inl (by omega))))
  · exact Or.inr (Or.inr (Or.inr (Or.inr (Or.inl c))))
  · omega
  · exact Or.inr (Or.inr (Or.inr (Or.inr (Or.inr c))))
theorem atw_p {b : Nat} {u : Hp} (hd : d < 8) (k : DyK n g h) (ku : DyK n g u) (f : FrW (AtW n d b) h u) (A : CpA h (n + (93 + 6 * (d + 1))) (L 10 0) Q) : CpA u (n + (93 + 6 * (d + 1))) (L 10 0) Q := cpa_d k ku (by omega) f (fun j i hj c => by
  unfold AtW TrW CRf at c
  omega) A
theorem atw_w {b : Nat} {u : Hp} (k : DyK n g h) (ku : DyK n g u) (f : FrW (AtW n d b) h u) (w : PrW n L K G last h) : PrW n L K G last u := prw_f k ku f (fun j i hj c => by
  unfold AtW TrW CRf at c
  omega) w
theorem at_ok (OK : LwOk L) (gG : 0 ≤ G ∧ G ≤ 2) (hK : 0 ≤ K ∧ K ≤ 1) (T : TreeOK n F L K G D) (B : BPre n L K G d last g h P v) (ev : evD d = true) (i1 : x1.toInt = (d : Int)) (e : (qX4_attempt F (D + 1)).1 h (n + 76) x1 x2 = some o) : BPost n L K G d last x2.toNatClampNeg g h P v o := by
  have z1 : (1 : Int32).toInt = 1 := rfl
  have z0 : (0 : Int32).toInt = 0 := rfl
  have B0 := B
  obtain ⟨b1, b2, b3, b4, b5, b6, b7, b8⟩ := B
  have s6 := dk_610 b1
  have i2 : (x1 + (1 : Int32)).toInt = ((d + 1 : Nat) : Int) := by rw [ta (by omega), i1, z1]; omega
  have hl : (hI h (n + 76) 7).toInt = (last : Int) := b2.2.2.2
  have e : oX4_attempt F (qX4_attempt F D).1 (qX4_attempt F D).2.1 (qX4_attempt F D).2.2.1 (qX4_attempt F D).2.2.2.1 (qX4_attempt F D).2.2.2.2 h (n + 76) x1 x2 = some o := e
  generalize hra : (qX4_attempt F D).1 = ra at e
  generalize hrr : (qX4_attempt F D).2.1 = rr at e
  generalize hrg : (qX4_attempt F D).2.2.1 = rg at e
  generalize hrb : (qX4_attempt F D).2.2.2.1 = rb at e
  unfold oX4_attempt sX4_attempt_15 at e
  have d0 : x1 = 0 ↔ d = 0 := ⟨fun z => by rw [z, z0] at i1; omega, fun z => Int32.toInt_inj.mp (by rw [i1, z, z0]; rfl)⟩
  have val : ∀ {r : Nat} {T' : Bool → Pz → Nat}, brV L K G T' r (evD d) P v = if (if (enE L (zAll L P v)).1 = 0 then decide (0 < r) && decide (T' false (zAll L P v) = 0) else decide (K = 0) && glB L G (zAll L P v)) = true then 1 else 0 := fun {r T'} => by
    unfold brV
    rw [if_pos hK.2, if_pos ev]
  have n3 : ¬ K = 3 := by omega
  -- behind the write to the row of refutations
  have t31 : ∀ {u : Hp} {x3 t0 : Int32}, DyK n g u → FrW (AtW n d x2.toNatClampNeg) h u → sX4_attempt_31 F ra rr rg rb (qX4_attempt F D).2.2.2.2 u (n + 76) x1 x2 x3 t0 = some o → ∃ u', DyK n g u' ∧ FrW (AtW n d x2.toNatClampNeg) h u' ∧ FrW (fun a i => CRf n a i ∨ a = n + (79 + 1) ∨ (a = n + 90 ∧ i = x2.toNatClampNeg)) u u' ∧ (d = 0 → (¬ x3 = 0 → hI u' (n + 90) x2.toNatClampNeg = t0) ∧ (x3 = 0 → (hI u' (n + 90) x2.toNatClampNeg).toInt = ((lgL L (zAll L P v)).length : Int))) ∧ sX4_attempt_74 F ra rr rg rb (qX4_attempt F D).2.2.2.2 u' (n + 76) x1 x3 t0 = some o := fun {u x3 t0} ku fu e => by
    unfold sX4_attempt_31 sX4_attempt_73 at e
    have su := dk_610 ku
    have wu := atw_w b1 ku fu b2
    have Au := atw_p (by omega) b1 ku fu b3
    rcases br_s e with ⟨c, e⟩ | ⟨c, e⟩
    · have dz := d0.mp c
      subst dz
      replace e := ce_e (dk_e (a := 76) (f := 11) (b := 90) ku (by decide +kernel)) e
      rcases br_s e with ⟨c3, e⟩ | ⟨c3, e⟩
      · replace e := ce_e (dk_e (a := 76) (f := 0) (b := 30) ku (by decide +kernel)) e
        replace e := ce_e (dk_e (a := 76) (f := 1) (b := 77) ku (by decide +kernel)) e
        replace e := gg_e e
        replace e := ce_e (show hR u (n + 77) (1 : Int32).toNatClampNeg = some (n + (93 + 6 * (0 + 1))) from pth_e ku (by decide)) e
        replace e := ce_e (dk_e (a := 76) (f := 2) (b := 78) ku (by decide +kernel)) e
        replace e := gg_e e
        replace e := ce_e (show hR u (n + 78) (1 : Int32).toNatClampNeg = some (n + (79 + 1)) from lst_e ku (by decide)) e
        obtain ⟨o11, e11, e⟩ := cl_s e
        obtain ⟨own, Dw⟩ := ku.1.1
        obtain ⟨f11, k11, _, l11⟩ := col_l ku Dw.1 (bk_path Dw.1 (d := 0 + 1) (by decide)) (bk_lists Dw.1 (d := 1) (by decide)) (by decide) OK.1 OK.2.1 b4 wu.1 Au (lst_n ku (by decide)) e11
        replace e := gg_e e
        obtain ⟨u', wu', e⟩ := nm_s e
        have F1 : FrW (fun a i => CRf n a i ∨ a = n + (79 + 1) ∨ (a = n + 90 ∧ i = x2.toNatClampNeg)) u u' := by
          rw [wu']
          exact fw_wI (fw_s f11 (fun a i c => c.elim Or.inl (fun c => Or.inr (Or.inl c)))) (Or.inr (Or.inr ⟨rfl, rfl⟩))
        refine ⟨u', by rw [wu']; exact dk_wI k11, fw_t fu (fw_s F1 (fun a i c => ?_)), F1, fun _ => ⟨fun z => absurd c3 z, fun _ => by rw [wu', rI_s]; exact l11⟩, e⟩
        unfold AtW TrW
        rcases c with c | c | c
        · exact Or.inl (Or.inl c)
        · exact Or.inl (Or.inr (Or.inl (by omega)))
        · exact Or.inr ⟨c.1, rfl, c.2⟩
      · replace e := gg_e e
        obtain ⟨u', wu', e⟩ := nm_s e
        have F1 : FrW (fun a i => CRf n a i ∨ a = n + (79 + 1) ∨ (a = n + 90 ∧ i = x2.toNatClampNeg)) u u' := by
          rw [wu']
          exact fw_wI fw_0 (Or.inr (Or.inr ⟨rfl, rfl⟩))
        refine ⟨u', by rw [wu']; exact dk_wI ku, fw_t fu (by rw [wu']; exact fw_wI fw_0 (Or.inr ⟨rfl, rfl, rfl⟩)), F1, fun _ => ⟨fun _ => by rw [wu', rI_s], fun z => absurd z c3⟩, e⟩
    · exact ⟨u, ku, fu, fw_0, fun z => absurd (d0.mpr z) c, e⟩
  rcases br_s e with ⟨c, e⟩ | ⟨c, e⟩
  · -- no more
    have c := le_i c
    have dl : d + 1 = last := by omega
    have r0 : last - (d + 1) = 0 := by omega
    replace e := bp_e rfl e
    obtain ⟨u', ku, fu, f1, r1, e⟩ := t31 b1 fw_0 e
    have su := dk_610 ku
    have hu := at_74h e
    have en : (hI u' (n + 87) (d + 1)).toInt = (enE L (zAll L P v)).1 := by
      rw [(f1.2 (n + 87) (d + 1) (by omega) (fun c => by unfold CRf at c; omega)).1]
      exact b8 (Or.inl dl)
    have y := at_74 OK gG ku (atw_w b1 ku fu b2) (atw_p (by omega) b1 ku fu b3) b4 (by omega) i1 en e
    refine ⟨by rw [hu]; exact fw_s fu (fun _ _ c => atw_b c), by rw [hu]; exact ku, Or.inl ⟨?_, fun e' l1 l2 => by omega, ?_, fun dz _ => ?_⟩⟩
    · rw [hu, (f1.2 (n + 76) 9 (by omega) (fun c => by unfold CRf at c; omega)).1]; exact b6
    · rw [y, val, r0, decide_eq_false (fun z => z rfl), decide_eq_false (Nat.lt_irrefl 0)]
      exact b2i _
    · rw [hu, (r1 dz).2 rfl]
      unfold rfV
      rw [r0, if_neg (Nat.lt_irrefl 0)]
  · have c := nle_i c
    have dl : d + 1 < last := by omega
    replace e := bn_e (by decide) e
    obtain ⟨o2, e2, e⟩ := cl_s e
    obtain ⟨⟨f2, k2, Y⟩, nx⟩ := brn_c T n3 B0 dl i2 e2
    have s2 := dk_610 k2
    obtain ⟨u', ku, fu, f1, r1, e⟩ := t31 k2 (fw_s f2 (fun _ _ c => Or.inl c)) e
    have hu := at_74h e
    have q9 : hI o.2 (n + 76) 9 = hI o2.2 (n + 76) 9 := by
      rw [hu, (f1.2 (n + 76) 9 (by omega) (fun c => by unfold CRf at c; omega)).1]
    have q88 : ∀ i, hI o.2 (n + 88) i = hI o2.2 (n + 88) i := fun i => by
      rw [hu, (f1.2 (n + 88) i (by omega) (fun c => by unfold CRf at c; omega)).1]
    refine ⟨by rw [hu]; exact fw_s fu (fun _ _ c => atw_b c), by rw [hu]; exact ku, ?_⟩
    rw [nx]
    rcases Y with ⟨y1, y2, y3, y4, _⟩ | ⟨y1, e', l1, l2, y2⟩
    · have en : (hI u' (n + 87) (d + 1)).toInt = (enE L (zAll L P v)).1 := by
        rw [(f1.2 (n + 87) (d + 1) (by omega) (fun c => by unfold CRf at c; omega)).1]; exact y4
      have y := at_74 OK gG ku (atw_w b1 ku fu b2) (atw_p (by omega) b1 ku fu b3) b4 (by omega) i1 en e
      have ef : evD (d + 1) = false := by rw [ev_s, ev]; rfl
      rw [ef] at y3
      refine Or.inl ⟨by rw [q9]; exact y1, fun e' l1 l2 => ?_, ?_, fun dz _ => ?_⟩
      · rw [q88]
        have := y2 e' l1 l2
        rw [show e' - (d + 1) + 1 = e' - d by omega] at this
        exact this
      · rw [y, val, decide_eq_true (show ¬ (1 : Int32) = 0 by decide), decide_eq_true (show 0 < last - (d + 1) by omega)]
        have : decide (o2.1 = 0) = decide (trV L K G (last - (d + 1)) false (zAll L P v) = 0) := by
          by_cases z : o2.1 = 0
          · rw [decide_eq_true z, decide_eq_true (by rw [z, z0] at y3; omega)]
          · rw [decide_eq_false z, decide_eq_false (fun z' => z (Int32.toInt_inj.mp (by rw [y3, z', z0]; rfl)))]
        rw [this]
        exact b2i _
      · rw [hu, (r1 dz).1 (by decide), y3]
        unfold rfV
        rw [if_pos (by omega)]
    · refine Or.inr ⟨by rw [q9]; exact y1, e', l1, l2, ?_⟩
      rw [show e' - (d + 1) + 1 = e' - d by omega] at y2
      exact y2
/-- replies -/
theorem re_ok (OK : LwOk L) (gG : 0 ≤ G ∧ G ≤ 2) (hK : 0 ≤ K ∧ K ≤ 1) (T : TreeOK n F L K G D) (B : BPre n L K G d last g h P v) (ev : evD d = false) (i1 : x1.toInt = (d : Int)) (e : (qX4_attempt F (D + 1)).2.1 h (n + 76) x1 = some o) : BPost n L K G d last x2.toNatClampNeg g h P v o := by
  have z1 : (1 : Int32).toInt = 1 := rfl
  have z0 : (0 : Int32).toInt = 0 := rfl
  have B0 := B
  obtain ⟨b1, b2, b3, b4, b5, b6, b7, b8⟩ := B
  have s6 := dk_610 b1
  have i2 : (x1 + (1 : Int32)).toInt = ((d + 1 : Nat) : Int) := by rw [ta (by omega), i1, z1]; omega
  have hl : (hI h (n + 76) 7).toInt = (last : Int) := b2.2.2.2
  have e : oX4_reply F (qX4_attempt F D).1 (qX4_attempt F D).2.1 (qX4_attempt F D).2.2.1 (qX4_attempt F D).2.2.2.1 (qX4_attempt F D).2.2.2.2 h (n + 76) x1 = some o := e
  generalize hra : (qX4_attempt F D).1 = ra at e
  generalize hrr : (qX4_attempt F D).2.1 = rr at e
  generalize hrg : (qX4_attempt F D).2.2.1 = rg at e
  generalize hrb : (qX4_attempt F D).2.2.2.1 = rb at e
  have n3 : ¬ K = 3 := by omega
  have dz : ¬ d = 0 := fun z => by rw [z] at ev; exact absurd ev (by decide)
  have ef : evD (d + 1) = true := by rw [ev_s, ev]; rfl
  have val : ∀ {r : Nat} {T' : Bool → Pz → Nat}, brV L K G T' r (evD d) P v = if ((decide (0 < r) && decide (0 < T' true (zAll L P v))) || (decide (K = 1) && glB L G (zAll L P v))) = true then 0 else 1 := fun {r T'} => by
    unfold brV
    rw [if_pos hK.2, ev, if_neg (by decide)]
  -- the end
  have t25h : ∀ {u : Hp} {t : Int32}, sX4_reply_25 F ra rr rg rb (qX4_attempt F D).2.2.2.2 u (n + 76) x1 t = some o → o.2 = u := fun {u t} e => by
    unfold sX4_reply_25 sX4_reply_48 sX4_reply_52 sX4_reply_53 at e
    rcases br_s e with ⟨_, e⟩ | ⟨_, e⟩
    · rcases br_s e with ⟨_, e⟩ | ⟨_, e⟩
      · obtain ⟨o3, e3, e⟩ := cl_s e
        have := ig_h e3
        rcases br_s e with ⟨_, e⟩ | ⟨_, e⟩ <;> (rw [so_e e]; exact this)
      · rw [so_e e]
    · rw [so_e e]
  have t25 : ∀ {u : Hp} {t : Int32} {b : Bool}, DyK n g u → FrW (TrW n (d + 1)) h u → (hI u (n + 87) (d + 1)).toInt = (enE L (zAll L P v)).1 → (t = 0 ↔ b = false) → sX4_reply_25 F ra rr rg rb (qX4_attempt F D).2.2.2.2 u (n + 76) x1 t = some o → o.1.toInt = ((if (b || (decide (K = 1) && glB L G (zAll L P v))) = true then 0 else 1 : Nat) : Int) := fun {u t b} ku fu en tb e => by
    have fu' : FrW (AtW n d 0) h u := fw_s fu (fun _ _ c => Or.inl c)
    have wu := atw_w b1 ku fu' b2
    have Au := atw_p (by omega) b1 ku fu' b3
    unfold sX4_reply_25 sX4_reply_48 sX4_reply_52 sX4_reply_53 at e
    rcases br_s e with ⟨c, e⟩ | ⟨c, e⟩
    · rw [tb.mp c]
      rcases br_s e with ⟨ck, e⟩ | ⟨ck, e⟩
      · have k1 : K = 1 := by rw [← wu.2.1, ck]; rfl
        obtain ⟨o3, e3, e⟩ := cl_s e
        obtain ⟨_, y⟩ := ig_c OK gG ku wu Au b4 (by omega) i2 en e3
        rw [decide_eq_true k1]
        rcases y with ⟨y1, y2⟩ | ⟨y1, y2⟩
        · rw [so_e (bp_e y1 e), y2]; rfl
        · rw [so_e (bn_e y1 e), y2]; rfl
      · have k1 : ¬ K = 1 := fun z => ck (Int32.toInt_inj.mp (by rw [wu.2.1, z, z1]))
        rw [so_e e, decide_eq_false k1]; rfl
    · have bt : b = true := by
        cases b with
        | false => exact absurd (tb.mpr rfl) c
        | true => rfl
      rw [so_e e, bt]; rfl
  unfold oX4_reply sX4_reply_24 at e
  rcases br_s e with ⟨c, e⟩ | ⟨c, e⟩
  · have c := le_i c
    have dl : d + 1 = last := by omega
    have r0 : last - (d + 1) = 0 := by omega
    have hu := t25h e
    have y := t25 (b := false) b1 fw_0 (b8 (Or.inl dl)) ⟨fun _ => rfl, fun _ => rfl⟩ e
    refine ⟨by rw [hu]; exact fw_0, by rw [hu]; exact b1, Or.inl ⟨by rw [hu]; exact b6, fun e' l1 l2 => by omega, ?_, fun z => absurd z dz⟩⟩
    rw [y, val, r0, decide_eq_false (Nat.lt_irrefl 0)]; rfl
  · have c := nle_i c
    have dl : d + 1 < last := by omega
    obtain ⟨o2, e2, e⟩ := cl_s e
    obtain ⟨⟨f2, k2, Y⟩, nx⟩ := brn_c T n3 B0 dl i2 e2
    have s2 := dk_610 k2
    rw [ef] at Y
    have hu : o.2 = o2.2 := by
      rcases br_s e with ⟨_, e⟩ | ⟨_, e⟩ <;> exact t25h e
    refine ⟨by rw [hu]; exact fw_s f2 (fun _ _ c => brt_c c), by rw [hu]; exact k2, ?_⟩
    rw [nx, hu]
    rcases Y with ⟨y1, y2, y3, y4, _⟩ | ⟨y1, e', l1, l2, y2⟩
    · refine Or.inl ⟨y1, fun e' l1 l2 => ?_, ?_, fun z => absurd z dz⟩
      · have := y2 e' l1 l2
        rw [show e' - (d + 1) + 1 = e' - d by omega] at this
        exact this
      · rw [val, decide_eq_true (show 0 < last - (d + 1) by omega)]
        rcases br_s e with ⟨c, e⟩ | ⟨c, e⟩
        · have c := le_i c
          have y := t25 (b := false) k2 f2 y4 ⟨fun _ => rfl, fun _ => rfl⟩ e
          rw [y, decide_eq_false (show ¬ 0 < trV L K G (last - (d + 1)) true (zAll L P v) by rw [z0] at c; omega)]; rfl
        · have c := nle_i c
          have y := t25 (b := true) k2 f2 y4 ⟨fun z => absurd z (by decide), fun z => nomatch z⟩ e
          rw [y, decide_eq_true (show 0 < trV L K G (last - (d + 1)) true (zAll L P v) by rw [z0] at c; omega)]; rfl
    · refine Or.inr ⟨y1, e', l1, l2, ?_⟩
      rw [show e' - (d + 1) + 1 = e' - d by omega] at y2
      exact y2
end
end
section
/-! the class's tree: what goes on, each branch, the whole -/
section
variable {n d last F D : Nat} {g h : Hp} {L : Nat → Nat → Int} {K G : Int} {P Q : Pz} {v : MvT} {o : Int32 × Hp} {x1 x2 x3 x4 : Int32}
theorem pw_00 {q : Nat → Nat} : Pw (0 : Int64) 0 q := ⟨by decide, fun i hi => absurd hi (Nat.not_lt_zero _), by rfl⟩
theorem ov_00 {q : Nat → Nat} : OvN (0 : Int64) 0 q := fun t => ⟨fun z => absurd ((bj_zero t).symm.trans z) (by decide), fun ⟨i, _, l, _⟩ => absurd l (Nat.not_lt_zero _)⟩
/-- the other side's turn is taken away -/
theorem cpa_fl {b : Nat} {ro : Int} {y : Int32} (s2 : pzS Q < 2) (A : CpA h b ro Q) (ey : y.toInt = ((1 - pzS Q : Nat) : Int)) : CpA (wJ (wJ (wI h b 5 y) b 9 0) b 10 0) b ro (fl2 Q) := by
  obtain ⟨a1, a2, a3, a4, ⟨a5, a6⟩, a7, a8, a9⟩ := A
  have k0 : ∀ k, k = 34 ∨ k = 35 ∨ k = 36 ∨ k = 37 ∨ k = 38 → ¬ b + kof k = b := fun k hk => by
    have : 0 < kof k := by rcases hk with z | z | z | z | z <;> (rw [z]; decide)
    omega
  have I : ∀ k i, k = 34 ∨ k = 35 ∨ k = 36 ∨ k = 37 ∨ k = 38 → hI (wJ (wJ (wI h b 5 y) b 9 0) b 10 0) (b + kof k) i = hI h (b + kof k) i := fun k i hk => by
    show hI (wI h b 5 y) (b + kof k) i = _
    rw [rI_a (k0 k hk)]
  have J : ∀ k i, k = 34 ∨ k = 35 ∨ k = 36 ∨ k = 37 ∨ k = 38 → hJ (wJ (wJ (wI h b 5 y) b 9 0) b 10 0) (b + kof k) i = hJ h (b + kof k) i := fun k i hk => by
    rw [r_J, if_neg (fun z => k0 k hk z.1), r_J, if_neg (fun z => k0 k hk z.1)]
    rfl
  have b0 : b + kof 4 = b := rfl
  refine ⟨a1, ?_, ?_, ?_, ⟨?_, ?_⟩, ?_, ?_, ?_⟩
  · unfold PosC at a2 ⊢
    simp only [I 34 _ (by decide), I 36 _ (by decide), J 35 _ (by decide)]
    exact a2
  · show (hI (wI h b 5 y) b 5).toInt = ((1 - pzS Q : Nat) : Int)
    rw [rI_s]; exact ey
  · intro q hq
    show bitJ (hJ (wJ (wJ (wI h b 5 y) b 9 0) b 10 0) b 8) q = _
    rw [r_J, if_neg (fun z => absurd z.2 (by decide)), r_J, if_neg (fun z => absurd z.2 (by decide))]
    exact a4 q hq
  · show Pw (hJ (wJ (wJ (wI h b 5 y) b 9 0) b 10 0) b 9) 0 (pzQ Q)
    rw [r_J, if_neg (fun z => absurd z.2 (by decide)), r_J, if_pos ⟨rfl, rfl⟩]
    exact pw_00
  · show OvN (hJ (wJ (wJ (wI h b 5 y) b 9 0) b 10 0) b 10) 0 (pzQ Q)
    rw [r_J, if_pos ⟨rfl, rfl⟩]
    exact ov_00
  · refine ⟨fun s hs => ?_, fun d hd => ?_⟩
    · rw [J 37 s (by decide)]; exact a7.1 s hs
    · rw [J 37 _ (by decide)]; exact a7.2 d hd
  · intro d hd
    rw [I 38 d (by decide)]; exact a8 d hd
  · show (hI (wI h b 5 y) b 6).toInt = pzK Q
    rw [rI_o (by decide)]; exact a9
/-- a SERIES goes on -/
theorem go_ok (OK : LwOk L) (hK : K = 3) (T : TreeOK n F L K G D) (B : BPre n L K G d last g h P v) (dl : d + 1 < last) (i1 : x1.toInt = (d : Int)) (e : (qX4_attempt F (D + 1)).2.2.1 h (n + 76) x1 = some o) : BPost n L K G d last x2.toNatClampNeg g h P v o := by
  have z1 : (1 : Int32).toInt = 1 := rfl
  have z0 : (0 : Int32).toInt = 0 := rfl
  obtain ⟨b1, b2, b3, b4, b5, b6, b7, b8⟩ := B
  have s6 := dk_610 b1
  have i2 : (x1 + (1 : Int32)).toInt = ((d + 1 : Nat) : Int) := by rw [ta (by omega), i1, z1]; omega
  have c2 := nc_i (x := x1 + (1 : Int32)) (by omega)
  have c2 : (x1 + (1 : Int32)).toNatClampNeg = d + 1 := by omega
  have e : oX4_goOn F (qX4_attempt F D).1 (qX4_attempt F D).2.1 (qX4_attempt F D).2.2.1 (qX4_attempt F D).2.2.2.1 (qX4_attempt F D).2.2.2.2 h (n + 76) x1 = some o := e
  generalize hra : (qX4_attempt F D).1 = ra at e
  generalize hrr : (qX4_attempt F D).2.1 = rr at e
  generalize hrg : (qX4_attempt F D).2.2.1 = rg at e
  generalize hrb : (qX4_attempt F D).2.2.2.1 = rb at e
  unfold oX4_goOn sX4_goOn_35 sX3_clearPass at e
  have en := b8 (Or.inr hK)
  have s2 := b4.2.2.1
  have dt : decide (K = 3) = true := decide_eq_true hK
  have val : ∀ {T' : Bool → Pz → Nat}, brV L K G T' (last - (d + 1)) (evD d) P v = oZ (nxP L true P v) (fun Q => T' (!evD d) Q) := fun {T'} => by
    unfold brV
    rw [if_neg (by omega), if_neg (by omega), if_pos hK, if_neg (by omega)]
  -- nothing more comes of it
  have stop : o = ((0 : Int32), h) → nxP L true P v = none → BPost n L K G d last x2.toNatClampNeg g h P v o := fun eo nx => by
    rw [eo]
    refine ⟨fw_0, b1, Or.inl ⟨b6, fun e' l1 l2 => ?_, ?_, fun _ z => by omega⟩⟩
    · rw [dt, nx]
      exact ⟨by show (hI h (n + 88) e').toInt = (hI h (n + 88) e').toInt + ((0 : Nat) : Int); omega, (b7 e' l1 l2).2⟩
    · rw [val, nx]; rfl
  replace e := ce_e (dk_e (a := 76) (f := 1) (b := 77) b1 (by decide +kernel)) e
  replace e := gg_e e
  have p3 : hR h (n + 77) (x1 + (1 : Int32)).toNatClampNeg = some (n + (93 + 6 * (d + 1))) := by rw [c2]; exact pth_e b1 (by omega)
  replace e := ce_e p3 e
  replace e := ce_e (dk_e (a := 76) (f := 3) (b := 87) b1 (by decide +kernel)) e
  replace e := gg_e e
  rcases br_s e with ⟨c, e⟩ | ⟨c, e⟩ <;> rw [c2] at c
  · have e0 : (enE L (zAll L P v)).1 = 0 := by rw [← en, c]; rfl
    replace e := ce_e (dk_e (a := 76) (f := 0) (b := 30) b1 (by decide +kernel)) e
    obtain ⟨o8, e8, e⟩ := cl_s e
    have sd : (hI h (n + (93 + 6 * (d + 1))) 5).toInt = (pzS (zAll L P v) : Int) := b3.2.2.1
    obtain ⟨h8, y8⟩ := ryh_k OK.1 b4 b2.1 b3 sd s2 e8
    rw [h8] at e
    rcases y8 with ⟨y1, y2⟩ | ⟨y1, y2⟩
    · replace e := bp_e y1 e
      have nx : nxP L true P v = some (fl2 (zAll L P v)) := by
        unfold nxP
        rw [if_pos rfl]
        have : prB' (0 < (enE L (zAll L P v)).1 ∨ RyH L (zAll L P v).1 (pzS (zAll L P v))) = true → False := fun z => (prb_e.mp z).elim (fun z => by omega) y2
        rw [if_neg this]
      obtain ⟨h10, w10, e⟩ := nm_s e
      obtain ⟨o11, e11, e⟩ := cl_s e
      replace e11 := so_e (nx_e (nx_e e11))
      have vy : ((1 : Int32) - hI h (n + (93 + 6 * (d + 1))) 5).toInt = ((1 - pzS (zAll L P v) : Nat) : Int) := by
        rw [ts (by rw [sd, z1]; omega), sd, z1]; omega
      have A11 := cpa_fl s2 b3 vy
      rw [w10] at e11
      rw [← e11] at A11
      have k11 : DyK n g o11 := by rw [e11]; exact dk_wJ (dk_wJ (dk_wI b1))
      have f11 : FrW (fun a _ => a = n + (93 + 6 * (d + 1))) h o11 := by rw [e11]; exact fw_wJ (fw_wJ (fw_wI fw_0 rfl) rfl) rfl
      have w11 := prw_f b1 k11 f11 (fun j i hj c => by omega) b2
      have q11 : ∀ a i, a < n + 92 → hI o11 a i = hI h a i := fun a i l => (f11.2 a i (by omega) (fun c => by omega)).1
      obtain ⟨o12, e12, e⟩ := cl_s e
      obtain ⟨f12, k12, Y⟩ := T ⟨k11, w11, A11, fl2_ok b4, ⟨dl, b5.2⟩, by rw [q11 _ _ (by omega)]; exact b6, fun e' l1 l2 => by rw [q11 _ _ (by omega)]; exact b7 e' l1 l2⟩ i2 e12
      rw [so_e e]
      refine ⟨fw_t (fw_s f11 (fun a i c => Or.inr (Or.inr (Or.inl (by omega))))) (fw_s f12 (fun _ _ c => brt_c c)), k12, ?_⟩
      rw [dt, nx]
      rcases Y with ⟨y1, y2, y3, y4, _⟩ | ⟨y1, e', l1, l2, y2⟩
      · refine Or.inl ⟨y1, fun e' l1 l2 => ?_, ?_, fun _ z => by omega⟩
        · have := y2 e' l1 l2
          rw [show e' - (d + 1) + 1 = e' - d by omega, dt, q11 _ _ (by omega)] at this
          exact this
        · rw [val, nx, y3, ev_s]; rfl
      · refine Or.inr ⟨y1, e', l1, l2, ?_⟩
        rw [show e' - (d + 1) + 1 = e' - d by omega, dt, q11 _ _ (by omega)] at y2
        exact y2
    · replace e := bn_e (by rw [y1]; decide) e
      refine stop (so_e e) ?_
      unfold nxP
      rw [if_pos rfl]
      have : prB' (0 < (enE L (zAll L P v)).1 ∨ RyH L (zAll L P v).1 (pzS (zAll L P v))) = true := prb_e.mpr (Or.inr y2)
      rw [if_pos this]
  · refine stop (so_e e) ?_
    have e0 : ¬ (enE L (zAll L P v)).1 = 0 := fun z => c (Int32.toInt_inj.mp (by rw [en, z, z0]))
    have := ene_b (L := L) (P := zAll L P v)
    unfold nxP
    rw [if_pos rfl]
    have : prB' (0 < (enE L (zAll L P v)).1 ∨ RyH L (zAll L P v).1 (pzS (zAll L P v))) = true := prb_e.mpr (Or.inl (by omega))
    rw [if_pos this]
/-- each branch -/
theorem bra_ok (OK : LwOk L) (gG : 0 ≤ G ∧ G ≤ 2) (hK : 0 ≤ K ∧ K ≤ 4) (T : TreeOK n F L K G D) (T1 : TreeOK n F L K G (D + 1)) (B : BPre n L K G d last g h P v) (h4 : K = 4 → d + 1 < last) (i1 : x1.toInt = (d : Int)) (e : (qX4_attempt F (D + 2)).2.2.2.1 h (n + 76) x1 x2 = some o) : BPost n L K G d last x2.toNatClampNeg g h P v o := by
  have z1 : (1 : Int32).toInt = 1 := rfl
  have z0 : (0 : Int32).toInt = 0 := rfl
  have B0 := B
  obtain ⟨b1, b2, b3, b4, b5, b6, b7, b8⟩ := B
  have i2 : (x1 + (1 : Int32)).toInt = ((d + 1 : Nat) : Int) := by rw [ta (by omega), i1, z1]; omega
  have hl : (hI h (n + 76) 7).toInt = (last : Int) := b2.2.2.2
  have e : oX4_branch F (qX4_attempt F (D + 1)).1 (qX4_attempt F (D + 1)).2.1 (qX4_attempt F (D + 1)).2.2.1 (qX4_attempt F (D + 1)).2.2.2.1 (qX4_attempt F (D + 1)).2.2.2.2 h (n + 76) x1 x2 = some o := e
  unfold oX4_branch sX4_branch_56 sX4_branch_92 sX4_branch_126 at e
  have kk : ∀ {y : Int32}, hI h (n + 76) 5 = y → K = y.toInt := fun {y} c => by rw [← b2.2.1, c]
  have nk : ∀ {y : Int32}, ¬ hI h (n + 76) 5 = y → ¬ K = y.toInt := fun {y} c z => c (Int32.toInt_inj.mp (by rw [b2.2.1, z]))
  have par : (x1 &&& (1 : Int32)) = 0 ↔ evD d = true := by
    have d8 : d < 8 := by omega
    have al : ∀ q : Fin 8, ((nI q.val &&& (1 : Int32)) = 0 ↔ evD q.val = true) := by unfold evD; decide +kernel
    have xe : x1 = nI d := Int32.toInt_inj.mp (by rw [z_toInt (by omega)]; exact i1)
    rw [xe]; exact al ⟨d, d8⟩
  have two : ∀ (k01 : 0 ≤ K ∧ K ≤ 1), br ((x1 &&& (1 : Int32)) = 0) (cl ((qX4_attempt F (D + 1)).1 h (n + 76) x1 x2) fun o_3 => some (o_3.1, o_3.2)) (cl ((qX4_attempt F (D + 1)).2.1 h (n + 76) x1) fun o_2 => some (o_2.1, o_2.2)) = some o → BPost n L K G d last x2.toNatClampNeg g h P v o := fun k01 e => by
    rcases br_s e with ⟨c, e⟩ | ⟨c, e⟩
    · obtain ⟨u, eu, e⟩ := cl_s e
      rw [so_e e]
      exact at_ok OK gG k01 T B0 (par.mp c) i1 eu
    · obtain ⟨u, eu, e⟩ := cl_s e
      rw [so_e e]
      have ev : evD d = false := by
        cases q : evD d with
        | false => rfl
        | true => exact absurd (par.mpr q) c
      exact re_ok (x2 := x2) OK gG k01 T B0 ev i1 eu
  -- the last move: the GOAL or not
  have goal : ∀ {w : Int32 × Hp} {t : Int32} (k23 : K = 2 ∨ K = 3) (dl : d + 1 = last), sX4_isGoal h (n + 76) (x1 + (1 : Int32)) = some w → br (w.1 = 0) (some ((0 : Int32), w.2)) (some ((1 : Int32), w.2)) = some o → BPost n L K G d last x2.toNatClampNeg g h P v o := fun {w t} k23 dl ew e => by
    obtain ⟨hw, y⟩ := ig_c OK gG b1 b2 b3 b4 (by omega) i2 (b8 (Or.inl dl)) ew
    have r0 : last - (d + 1) = 0 := by omega
    have val : ∀ {T' : Bool → Pz → Nat}, brV L K G T' (last - (d + 1)) (evD d) P v = if glB L G (zAll L P v) = true then 1 else 0 := fun {T'} => by
      unfold brV
      rw [if_neg (by omega)]
      rcases k23 with z | z
      · rw [if_pos z, if_pos r0]
      · rw [if_neg (by omega), if_pos z, if_pos r0]
    rcases y with ⟨y1, y2⟩ | ⟨y1, y2⟩
    · rw [so_e (bp_e y1 e), hw]
      exact ⟨fw_0, b1, Or.inl ⟨b6, fun e' l1 l2 => by omega, by rw [val, y2]; rfl, fun _ z => by omega⟩⟩
    · rw [so_e (bn_e y1 e), hw]
      exact ⟨fw_0, b1, Or.inl ⟨b6, fun e' l1 l2 => by omega, by rw [val, y2]; rfl, fun _ z => by omega⟩⟩
  -- a tree behind it
  have tre : ∀ {w : Int32 × Hp} (k24 : K = 2 ∨ K = 4) (dl : d + 1 < last), (qX4_attempt F (D + 1)).2.2.2.2 h (n + 76) (x1 + (1 : Int32)) = some w → o = (w.1, w.2) → BPost n L K G d last x2.toNatClampNeg g h P v o := fun {w} k24 dl ew eo => by
    obtain ⟨⟨f2, k2, Y⟩, nx⟩ := brn_c T1 (by omega) B0 dl i2 ew
    have val : ∀ {T' : Bool → Pz → Nat}, brV L K G T' (last - (d + 1)) (evD d) P v = T' (!evD d) (zAll L P v) := fun {T'} => by
      unfold brV
      rw [if_neg (by omega)]
      rcases k24 with z | z
      · rw [if_pos z, if_neg (by omega)]
      · rw [if_neg (by omega), if_neg (by omega)]
    rw [eo]
    refine ⟨fw_s f2 (fun _ _ c => brt_c c), k2, ?_⟩
    rw [nx]
    rcases Y with ⟨y1, y2, y3, y4, _⟩ | ⟨y1, e', l1, l2, y2⟩
    · refine Or.inl ⟨y1, fun e' l1 l2 => ?_, by rw [val, y3, ev_s], fun _ z => by omega⟩
      have := y2 e' l1 l2
      rw [show e' - (d + 1) + 1 = e' - d by omega] at this
      exact this
    · refine Or.inr ⟨y1, e', l1, l2, ?_⟩
      rw [show e' - (d + 1) + 1 = e' - d by omega] at y2
      exact y2
  rcases br_s e with ⟨c, e⟩ | ⟨c0, e⟩
  · exact two (by have := kk c; rw [z0] at this; omega) e
  have n0 := nk c0
  rw [z0] at n0
  rcases br_s e with ⟨c, e⟩ | ⟨c1, e⟩
  · exact two (by have := kk c; rw [z1] at this; omega) e
  have n1 := nk c1
  rw [z1] at n1
  rcases br_s e with ⟨c, e⟩ | ⟨c2, e⟩
  · have k2 : K = 2 := kk c
    rcases br_s e with ⟨c, e⟩ | ⟨c, e⟩
    · have c := le_i c
      obtain ⟨w, ew, e⟩ := cl_s e
      exact goal (t := 0) (Or.inl k2) (by omega) ew e
    · have c := nle_i c
      obtain ⟨w, ew, e⟩ := cl_s e
      exact tre (Or.inl k2) (by omega) ew (so_e e)
  have n2 : ¬ K = 2 := nk c2
  rcases br_s e with ⟨c, e⟩ | ⟨c3, e⟩
  · have k3 : K = 3 := kk c
    rcases br_s e with ⟨c, e⟩ | ⟨c, e⟩
    · have c := le_i c
      obtain ⟨w, ew, e⟩ := cl_s e
      exact goal (t := 0) (Or.inr k3) (by omega) ew e
    · have c := nle_i c
      obtain ⟨w, ew, e⟩ := cl_s e
      rw [so_e e]
      exact go_ok (x2 := x2) OK k3 T B0 (by omega) i1 ew
  have n3 : ¬ K = 3 := nk c3
  obtain ⟨w, ew, e⟩ := cl_s e
  exact tre (Or.inr (by omega)) (h4 (by omega)) ew (so_e e)
end
end
