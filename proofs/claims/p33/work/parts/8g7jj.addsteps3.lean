/-! the class: all ways of a man -/
def RpC (V : Nat → Nat) (h : Hp) (M : Nat → Int) (ov : Nat → Prop) (p0 : Nat) : Prop := (∃ t, ov t) → p0 < 64 ∧ 0 < M p0 ∧ ∃ n q, Pw (hJ h (V 4) 9) n q ∧ 0 < n ∧ q 0 = p0
section
variable {F : Nat} {V : Nat → Nat} {o' : Hp} {L : Nat → Nat → Int} {M : Nat → Int}
theorem sta_n {ov : Nat → Prop} {p0 : Nat} {sd : Int} {m s t : Nat} (n : ∀ j k, ¬ ldD L M ov true sd m s j t k) : stA L M ov p0 sd m s t = [] := by
  unfold stA
  rw [ldf_n n]
theorem sta_s {ov : Nat → Prop} {p0 : Nat} {sd : Int} {m s t j : Nat} {k : Int} (e : ldF (ldD L M ov true sd m s) t = some (j, k)) : stA L M ov p0 sd m s t = mvL L M p0 sd m s t j k (prB' (ByT L ov true j t)) := by
  unfold stA
  rw [e]
/-- one cell -/
theorem as_cell (D : VD V) {ov : Nat → Prop} {x1 x2 x4 : Int32} {c s t p0 a b : Nat} {I : Nat → Nat} {ms : List MvT} (H : LOk L) (HM : MOk L M) (ove : ∀ q, ov q → M q = 0) (e1 : x1.toInt = (s : Int)) (sL : (s : Int) < L 0 0 * L 1 0) (e2 : x2.toInt = (c : Int)) (cL : (c : Int) < 2 * L 2 0) (tL : (t : Int) < L 0 0 * L 1 0 ∨ a = b) (ht : t < 64) (b4 : (b : Int) ≤ x4.toInt) (I2 : ∀ w w', a ≤ w → w < w' → w' < b → I w < I w') (I3 : ∀ (i : Nat) (k : Int), (i : Int) < L 74 (c / 2) → RchL L (8 * (c / 2) + i) ((c % 2 : Nat) : Int) s t k → ∃ w, a ≤ w ∧ w < b ∧ I w = i) (lm : ms.length + 7 < 4096) : ∀ (f : Nat) {h : Hp} {x3 x5 : Int32} {w : Nat}, x5.toInt = (w : Int) → a ≤ w → w ≤ b → CWd V h L M ov → (∀ w, a ≤ w → w < b → ((I w : Nat) : Int) < L 74 (c / 2) ∧ WyE L V h c s t (I w) w) → (hI h (V 4) 5).toInt = ((c % 2 : Nat) : Int) → RpC V h M ov p0 → ((x3.toInt = (t : Int) ∧ CLs V h (ms ++ stA L M ov p0 ((c % 2 : Nat) : Int) (c / 2) s t)) ∨ (x3.toInt < (t : Int) ∧ CLs V h ms ∧ ∀ w', a ≤ w' → w' < w → ∀ k, ¬ LdG L M ov true ((c % 2 : Nat) : Int) (8 * (c / 2) + I w') s t k)) → sX5_addSteps_45 F f h (V 6) x1 x2 x3 x4 x5 = some o' → ∃ (f' : Nat) (g : Hp) (y3 y5 : Int32), FrV V (wl wcl) h g ∧ hN g (V 47) = hN h (V 47) ∧ y5.toInt = (b : Int) ∧ y3.toInt ≤ (t : Int) ∧ CLs V g (ms ++ stA L M ov p0 ((c % 2 : Nat) : Int) (c / 2) s t) ∧ sX5_addSteps_45 F f' g (V 6) x1 x2 y3 x4 y5 = some o' := by
  have z1 : (1 : Int32).toInt = 1 := rfl
  have z0 : (0 : Int32).toInt = 0 := rfl
  have sq := sq_64 H
  have L2 := H.2.2.1
  have mL : ((c / 2 : Nat) : Int) < L 2 0 := by omega
  obtain ⟨H74, Hst⟩ := H.2.2.2 _ mL
  intro f
  induction f with
  | zero => intro h x3 x5 w _ _ _ _ _ _ _ _ e; exact absurd e (by rw [sX5_addSteps_45]; exact fun z => nomatch z)
  | succ f ih =>
    intro h x3 x5 w i5 aw wb W I1 esd rp S e
    by_cases q : w = b
    · -- the cell is done
      refine ⟨f + 1, h, x3, x5, fv_0, rfl, by omega, ?_, ?_, e⟩
      · rcases S with ⟨y, _⟩ | ⟨y, _⟩ <;> omega
      · rcases S with ⟨_, y⟩ | ⟨_, y, no⟩
        · exact y
        · rw [sta_n (fun j k z => ?_), List.append_nil]
          · exact y
          · obtain ⟨i, iL, ej, g⟩ := z
            rw [ej] at g
            obtain ⟨w', p, r, u⟩ := I3 i k iL g.1.1
            exact no w' p (by omega) k (by rw [u]; exact g)
    have wb' : w < b := by omega
    have tL' : (t : Int) < L 0 0 * L 1 0 := by
      rcases tL with y | y
      · exact y
      · omega
    have up : x4.toInt ≤ 2147483647 := Int32.toInt_le _
    have c5 : x5.toNatClampNeg = w := by have := nc_i (x := x5) (by omega); omega
    obtain ⟨iL, k, rk, wd, bt⟩ := I1 w aw wb'
    have J := Hst _ iL
    have kr := rk.2.2.1
    have k1 := rk.2.1
    have r7 := J.2.2.2.2.1
    rw [sX5_addSteps_45] at e
    replace e := bn_e (fun z => by have := le_i z; omega) e
    obtain ⟨⟨w0, w1, w4, w5, w47⟩, wc, wt, pc, ps, ⟨cl', r20⟩, cx, bov⟩ := W
    have W : CWd V h L M ov := ⟨⟨w0, w1, w4, w5, w47⟩, wc, wt, pc, ps, ⟨cl', r20⟩, cx, bov⟩
    replace e := ce_e w1 e
    replace e := ce_e wc.2.1 e
    replace e := gg_e e
    replace e := nm_s e; obtain ⟨v5, u5, e⟩ := e
    rw [c5] at u5
    have f63 := (wd_f ht J.1 ⟨by omega, by omega⟩ wd).1
    rw [← u5] at f63
    have t5 : (x5 + (1 : Int32)).toInt = ((w + 1 : Nat) : Int) := by rw [ta (by rw [z1]; omega), z1]; omega
    unfold sX5_addSteps_170 at e
    rcases br_s e with ⟨came, e⟩ | ⟨came, e⟩
    · -- a way leads there already
      have ct : x3.toInt = (t : Int) := by rw [← came]; exact f63
      rcases S with ⟨y, S⟩ | ⟨y, _⟩
      · exact ih (w := w + 1) t5 (by omega) (by omega) W I1 esd rp (Or.inl ⟨y, S⟩) (nx_e e)
      · omega
    rcases S with ⟨y, _⟩ | ⟨y3, R, no⟩
    · exact absurd (Int32.toInt_inj.mp (by rw [f63, y])) came
    replace e := ce_e w4 e
    replace e := ce_e w4 e
    replace e := cl_s e; obtain ⟨o9, eo9, e⟩ := e
    have LV := leads_v (x2 := x5) (sd := hI h (V 4) 5) (ov := ov) (c := c) (s := s) (t := t) (i := I w) (k := k) H HM J w1 wc pc ps sL ht rk (by rw [c5]; exact wd) (by rw [c5]; exact bt) esd bov ove eo9
    obtain ⟨w9, v9⟩ := LV
    rw [decide_eq_true rfl] at v9
    rw [w9] at e
    rcases br_s e with ⟨ld, e⟩ | ⟨ld, e⟩
    · refine ih (w := w + 1) t5 (by omega) (by omega) W I1 esd rp (Or.inr ⟨y3, R, fun w' p r k' g => ?_⟩) (nx_e e)
      by_cases y : w' = w
      · rw [y] at g
        have : k' = k := rch_u J.2.2.2.1 g.1.1.2 rk.2
        rw [this] at g
        rcases v9 with ⟨_, z⟩ | ⟨z, _⟩
        · exact z g
        · rw [z] at ld; exact absurd ld (by decide)
      · exact no w' p (by omega) k' g
    -- it leads
    have LD : LdG L M ov true ((c % 2 : Nat) : Int) (8 * (c / 2) + I w) s t k := by
      rcases v9 with ⟨z, _⟩ | ⟨_, z⟩
      · exact absurd z ld
      · exact z
    have dd : ldD L M ov true ((c % 2 : Nat) : Int) (c / 2) s (8 * (c / 2) + I w) t k := ⟨I w, iL, rfl, LD⟩
    have lf : ldF (ldD L M ov true ((c % 2 : Nat) : Int) (c / 2) s) t = some (8 * (c / 2) + I w, k) := ldf_s dd (fun j' k' z => by
      obtain ⟨i', iL', ej, g⟩ := z
      rw [ej] at g ⊢
      obtain ⟨w', p, r, u⟩ := I3 i' k' iL' g.1.1
      by_cases y : w' < w
      · exact absurd (by rw [u]; exact g) (no w' p y k')
      · by_cases y' : w' = w
        · rw [y'] at u; omega
        · have := I2 w w' aw (by omega) r
          omega) (fun k' z => ldd_u Hst dd z)
    rw [sta_s (p0 := p0) lf]
    replace e := cl_s e; obtain ⟨o11, eo11, e⟩ := e
    obtain ⟨q1, q2⟩ := mva_v (p0 := p0) (t := t) (i := I w) (k := k) W HM H J cL (by omega) ht ⟨k1, by omega⟩ (by rw [c5]; exact wd) e1 e2 (fun yb => rp ⟨t, yb.2.2⟩) eo11
    rw [q1] at e
    replace e := cl_s e; obtain ⟨o12, eo12, e⟩ := e
    have m12 : c / 2 < 12 := by omega
    have ita : tkV M p0 t (prB' (ByT L ov true (8 * (c / 2) + I w) t)) = -1 ∨ (0 ≤ tkV M p0 t (prB' (ByT L ov true (8 * (c / 2) + I w) t)) ∧ tkV M p0 t (prB' (ByT L ov true (8 * (c / 2) + I w) t)) < 15) := by
      unfold tkV
      by_cases yb : ByT L ov true (8 * (c / 2) + I w) t
      · rw [if_pos (prb_e.mpr yb)]
        obtain ⟨p64, mp, _⟩ := rp ⟨t, yb.2.2⟩
        have := (mno_lt (L := L) mp ((HM p0 p64).2 mp).2).1
        exact Or.inr ⟨by omega, by omega⟩
      · rw [prb_f.mpr yb, if_neg (by decide)]
        by_cases mt : 0 < M t
        · rw [if_pos mt]
          have := (mno_lt (L := L) mt ((HM t ht).2 mt).2).1
          exact Or.inr ⟨by omega, by omega⟩
        · rw [if_neg mt]; exact Or.inl rfl
    obtain ⟨q3, q4⟩ := cho_v (m := c / 2) W H tL' m12 ⟨by omega, by omega⟩ ita q2 eo12
    rw [q3] at e
    rw [esd] at q4
    obtain ⟨_, ⟨b0, b6⟩, _⟩ := cx.1 (c / 2) m12
    have e2' : (x2 >>> ((1 : Int32) &&& 31)).toInt = ((c / 2 : Nat) : Int) := by
      have : (x2 >>> ((1 : Int32) &&& 31)).toInt = x2.toInt / 2 := shr_i 1 (by decide)
      rw [this, e2]; omega
    have c8 : o12.1.toInt = 0 ∨ (0 < o12.1.toInt ∧ o12.1.toInt = L 81 (c / 2)) := by
      rw [q4]
      split
      · by_cases y : L 81 (c / 2) = 0
        · exact Or.inl y
        · exact Or.inr ⟨by omega, rfl⟩
      · exact Or.inl rfl
    obtain ⟨g, r1, r2, r3, r4⟩ := as_120 D (m := c / 2) (s := s) (t := t) e2' m12 (by split <;> omega) q2 c8 F (n := 0) rfl (by omega) W (by rw [List.range_zero, List.map_nil, List.append_nil]; exact R) lm e
    have lst : (if 0 < o12.1.toInt then (List.range (L 81 (c / 2)).toNat).map (fun q => ((s : Int), (t : Int), ((c / 2 : Nat) : Int), L 80 (6 * (c / 2) + q), tkV M p0 t (prB' (ByT L ov true (8 * (c / 2) + I w) t)), (if prB' (ByT L ov true (8 * (c / 2) + I w) t) = true then (1 : Int) else 0), (if fbt (L 75 (8 * (c / 2) + I w)) 4 = true ∧ 1 < k then k else 0))) else [((s : Int), (t : Int), ((c / 2 : Nat) : Int), -1, tkV M p0 t (prB' (ByT L ov true (8 * (c / 2) + I w) t)), (if prB' (ByT L ov true (8 * (c / 2) + I w) t) = true then (1 : Int) else 0), (if fbt (L 75 (8 * (c / 2) + I w)) 4 = true ∧ 1 < k then k else 0))]) = mvL L M p0 ((c % 2 : Nat) : Int) (c / 2) s t (8 * (c / 2) + I w) k (prB' (ByT L ov true (8 * (c / 2) + I w) t)) := by
      unfold mvL
      rw [q4]
      generalize (if prB' (ByT L ov true (8 * (c / 2) + I w) t) = true then (1 : Int) else 0) = kd0
      generalize (if fbt (L 75 (8 * (c / 2) + I w)) 4 = true ∧ 1 < k then k else 0) = fa0
      generalize tkV M p0 t (prB' (ByT L ov true (8 * (c / 2) + I w) t)) = ta0
      by_cases y : rkF L t ((c % 2 : Nat) : Int) = L 1 0 ∧ ¬ (¬ L 18 0 = 0 ∧ ¬ ta0 = -1)
      · rw [if_pos y]
        by_cases y' : 0 < L 81 (c / 2)
        · rw [if_pos y', if_pos ⟨y', y⟩]
        · rw [if_neg y', if_neg (fun z => y' z.1)]
      · rw [if_neg y, if_neg (show ¬ (0 : Int) < 0 by decide), if_neg (fun z => y z.2)]
    rw [lst] at r3
    unfold sX5_addSteps_170 at r4
    obtain ⟨f', g', y3', y5', s1, s2, s3, s4, s5, s6⟩ := ih (w := w + 1) (x3 := v5) t5 (by omega) (by omega) (cwd_f D W r1 r2) (fun w' p r => by
      obtain ⟨i1, i2⟩ := I1 w' p r
      exact ⟨i1, wye_k i2 (fvI D r1 51 w') (fvJ D r1 52 w')⟩) (by rw [fvi D r1 4 5]; exact esd) (fun z => by
      have := rp z
      rw [fvj D r1 4 9]
      exact this) (Or.inl ⟨f63, by rw [sta_s (p0 := p0) lf]; exact r3⟩) (nx_e r4)
    rw [sta_s (p0 := p0) lf] at s5
    exact ⟨f', g', y3', y5', fv_t r1 s1, s2.trans r2, s3, s4, s5, s6⟩
/-- cells lie in order -/
theorem fst_m {h : Hp} {c s : Nat} (T : WyT L V h) (cL : (c : Int) < 2 * L 2 0) (sL : (s : Int) < L 0 0 * L 1 0) {t : Nat} : ∀ n, t + n ≤ 64 → rowN h (V 50) (celN c s t) ≤ rowN h (V 50) (celN c s (t + n))
  | 0, _ => Nat.le_refl _
  | n + 1, hn => by
    have ih := fst_m T cL sL (t := t) n (by omega)
    have := (T c s (t + n) cL sL (by omega)).2.1.1
    have e : celN c s (t + (n + 1)) = celN c s (t + n) + 1 := by unfold celN; omega
    rw [e]
    omega
theorem flat_s {α : Type} (f : Nat → List α) (n : Nat) : (List.range (n + 1)).flatMap f = (List.range n).flatMap f ++ f n := by
  rw [List.range_succ, List.flatMap_append, List.flatMap_singleton]
/-- all cells from t on -/
theorem as_run (D : VD V) {ov : Nat → Prop} {x1 x2 x4 : Int32} {c s p0 : Nat} {ms : List MvT} (H : LOk L) (HM : MOk L M) (ove : ∀ q, ov q → M q = 0) (e1 : x1.toInt = (s : Int)) (sL : (s : Int) < L 0 0 * L 1 0) (e2 : x2.toInt = (c : Int)) (cL : (c : Int) < 2 * L 2 0) (lm : (ms ++ (List.range 64).flatMap (stA L M ov p0 ((c % 2 : Nat) : Int) (c / 2) s)).length + 7 < 4096) : ∀ (n t : Nat), t + n = 64 → ∀ (f : Nat) {h : Hp} {x3 x5 : Int32}, x4.toInt = (rowN h (V 50) (celN c s 64) : Int) → x5.toInt = (rowN h (V 50) (celN c s t) : Int) → CWd V h L M ov → (hI h (V 4) 5).toInt = ((c % 2 : Nat) : Int) → RpC V h M ov p0 → x3.toInt < (t : Int) → CLs V h (ms ++ (List.range t).flatMap (stA L M ov p0 ((c % 2 : Nat) : Int) (c / 2) s)) → sX5_addSteps_45 F f h (V 6) x1 x2 x3 x4 x5 = some o' → FrV V (wl wcl) h o' ∧ hN o' (V 47) = hN h (V 47) ∧ CLs V o' (ms ++ (List.range 64).flatMap (stA L M ov p0 ((c % 2 : Nat) : Int) (c / 2) s)) := by
  have sq := sq_64 H
  intro n
  induction n with
  | zero =>
    intro t ht f h x3 x5 e4 e5 W esd rp y3 R e
    have t64 : t = 64 := by omega
    rw [t64] at e5 R
    cases f with
    | zero => exact absurd e (by rw [sX5_addSteps_45]; exact fun z => nomatch z)
    | succ f =>
      rw [sX5_addSteps_45] at e
      replace e := bp_e (ii_le.mpr (by omega)) e
      rw [so_e e]
      exact ⟨fv_0, rfl, R⟩
  | succ n ih =>
    intro t ht f h x3 x5 e4 e5 W esd rp y3 R e
    have T := W.2.2.1
    obtain ⟨nn, ⟨ab, I, I1, I2, I3⟩, _⟩ := T c s t cL sL (by omega)
    have ce : celN c s t + 1 = celN c s (t + 1) := by unfold celN; omega
    rw [ce] at ab I1 I2 I3
    have mono := fst_m T cL sL (t := t + 1) n (by omega)
    rw [show t + 1 + n = 64 by omega] at mono
    have lpre : ∀ j, j ≤ 64 → ((List.range j).flatMap (stA L M ov p0 ((c % 2 : Nat) : Int) (c / 2) s)).length ≤ ((List.range 64).flatMap (stA L M ov p0 ((c % 2 : Nat) : Int) (c / 2) s)).length := fun j hj => by
      have step : ∀ d, ((List.range j).flatMap (stA L M ov p0 ((c % 2 : Nat) : Int) (c / 2) s)).length ≤ ((List.range (j + d)).flatMap (stA L M ov p0 ((c % 2 : Nat) : Int) (c / 2) s)).length := fun d => by
        induction d with
        | zero => exact Nat.le_refl _
        | succ d ihd =>
          rw [show j + (d + 1) = (j + d) + 1 by omega, flat_s, List.length_append]
          omega
      have := step (64 - j)
      rw [show j + (64 - j) = 64 by omega] at this
      exact this
    have l1 := lpre t (by omega)
    rw [List.length_append] at lm
    obtain ⟨f', g, z3, z5, r1, r2, r3, r4, r5, r6⟩ := as_cell D (p0 := p0) (I := I) (t := t) (ms := ms ++ (List.range t).flatMap (stA L M ov p0 ((c % 2 : Nat) : Int) (c / 2) s)) H HM ove e1 sL e2 cL (by
      by_cases y : (t : Int) < L 0 0 * L 1 0
      · exact Or.inl y
      · right
        by_cases z : rowN h (V 50) (celN c s t) = rowN h (V 50) (celN c s (t + 1))
        · exact z
        · obtain ⟨_, k, rk, _⟩ := I1 _ (Nat.le_refl _) (by omega)
          obtain ⟨d, _, o1, e1', _⟩ := rch_st rk.2
          have := (tgt_on (show 0 < L 0 0 by have := H.1; omega) o1).2.1
          omega) (by omega) (by omega) I2 I3 (by rw [List.length_append]; omega) f (w := rowN h (V 50) (celN c s t)) e5 (Nat.le_refl _) ab W I1 esd rp (Or.inr ⟨y3, R, fun w' p q => by omega⟩) e
    have k50 : ∀ x, rowN g (V 50) x = rowN h (V 50) x := fun x => by unfold rowN; rw [fvI D r1 50 x]
    obtain ⟨q1, q2, q3⟩ := ih (t + 1) (by omega) f' (h := g) (by rw [k50]; exact e4) (by rw [k50]; exact r3) (cwd_f D W r1 r2) (by rw [fvi D r1 4 5]; exact esd) (fun z => by
      have := rp z
      rw [fvj D r1 4 9]
      exact this) (by omega) (by
      rw [flat_s, ← List.append_assoc]
      exact r5) r6
    exact ⟨fv_t r1 q1, q2.trans r2, q3⟩
/-- addSteps -/
theorem as_c (D : VD V) {ov : Nat → Prop} {h : Hp} {x1 : Int32} {s p0 : Nat} {ms : List MvT} (H : LOk L) (HM : MOk L M) (ove : ∀ q, ov q → M q = 0) (e1 : x1.toInt = (s : Int)) (sL : (s : Int) < L 0 0 * L 1 0) (m0 : 0 < M s) (W : CWd V h L M ov) (esd : (hI h (V 4) 5).toInt = (M s - 1) % 2) (rp : RpC V h M ov p0) (R : CLs V h ms) (lm : (ms ++ (List.range 64).flatMap (stA L M ov p0 ((M s - 1) % 2) (mnO (M s)) s)).length + 7 < 4096) (e : sX5_addSteps F h (V 6) x1 = some o') : FrV V (wl wcl) h o' ∧ hN o' (V 47) = hN h (V 47) ∧ CLs V o' (ms ++ (List.range 64).flatMap (stA L M ov p0 ((M s - 1) % 2) (mnO (M s)) s)) := by
  have z64 : (64 : Int32).toInt = 64 := rfl
  have z0 : (0 : Int32).toInt = 0 := rfl
  have sq := sq_64 H
  have L2 := H.2.2.1
  have c1 : x1.toNatClampNeg = s := by have := nc_i (x := x1) (by omega); omega
  have m2 := ((HM s (by omega)).2 m0).2
  have on := W.2.2.2.2.1.1 s (by omega)
  unfold sX5_addSteps sX10_cell at e
  replace e := ce_e W.1.2.2.1 e
  replace e := ce_e W.2.2.2.1.1 e
  replace e := gg_e e
  replace e := nm_s e; obtain ⟨v4, u4, e⟩ := e
  rw [c1] at u4
  rw [← u4] at on
  obtain ⟨c, hc⟩ : ∃ c : Nat, v4.toInt = (c : Int) := ⟨v4.toInt.toNat, by omega⟩
  have cd : mnO (M s) = c / 2 := by unfold mnO; omega
  have cm : (M s - 1) % 2 = ((c % 2 : Nat) : Int) := by omega
  have cL : (c : Int) < 2 * L 2 0 := by omega
  rw [cd, cm] at lm ⊢
  rw [cm] at esd
  have a1 : (v4 * (64 : Int32)).toInt = (c : Int) * 64 := by rw [tm (by rw [hc, z64]; omega), hc, z64]
  have a2 : ((v4 * (64 : Int32)) + x1).toInt = (c : Int) * 64 + s := by rw [ta (by rw [a1, e1]; omega), a1, e1]
  have a3 : (((v4 * (64 : Int32)) + x1) * (64 : Int32)).toInt = ((c : Int) * 64 + s) * 64 := by rw [tm (by rw [a2, z64]; omega), a2, z64]
  have i64 : ((((v4 * (64 : Int32)) + x1) * (64 : Int32)) + (64 : Int32)).toNatClampNeg = celN c s 64 := by
    have a : ((((v4 * (64 : Int32)) + x1) * (64 : Int32)) + (64 : Int32)).toInt = ((c : Int) * 64 + s) * 64 + 64 := by rw [ta (by rw [a3, z64]; omega), a3, z64]
    have := nc_i (x := (((v4 * (64 : Int32)) + x1) * (64 : Int32)) + (64 : Int32)) (by omega)
    unfold celN
    omega
  have i0 : ((((v4 * (64 : Int32)) + x1) * (64 : Int32)) + (0 : Int32)).toNatClampNeg = celN c s 0 := by
    have a : ((((v4 * (64 : Int32)) + x1) * (64 : Int32)) + (0 : Int32)).toInt = ((c : Int) * 64 + s) * 64 := by rw [ta (by rw [a3, z0]; omega), a3, z0]; omega
    have := nc_i (x := (((v4 * (64 : Int32)) + x1) * (64 : Int32)) + (0 : Int32)) (by omega)
    unfold celN
    omega
  replace e := ce_e W.1.2.1 e
  replace e := ce_e W.2.1.1 e
  replace e := cl_s e; obtain ⟨o7, eo7, e⟩ := e
  rw [so_e eo7] at e
  replace e := gg_e e
  replace e := nm_s e; obtain ⟨v9, u9, e⟩ := e
  dsimp only at u9 e
  rw [i64] at u9
  replace e := ce_e W.1.2.1 e
  replace e := ce_e W.2.1.1 e
  replace e := cl_s e; obtain ⟨o12, eo12, e⟩ := e
  rw [so_e eo12] at e
  replace e := gg_e e
  replace e := nm_s e; obtain ⟨v14, u14, e⟩ := e
  dsimp only at u14 e
  rw [i0] at u14
  have n0 := (W.2.2.1 c s 0 cL sL (by decide)).1.1
  have n64 := (W.2.2.1 c s 63 cL sL (by decide)).1.2
  have ce : celN c s 63 + 1 = celN c s 64 := by unfold celN; omega
  rw [ce] at n64
  have r9 : v9.toInt = (rowN h (V 50) (celN c s 64) : Int) := by
    rw [u9]
    unfold rowN
    exact (nc_i n64).symm
  have r14 : v14.toInt = (rowN h (V 50) (celN c s 0) : Int) := by
    rw [u14]
    unfold rowN
    exact (nc_i n0).symm
  exact as_run D H HM ove e1 sL hc cL lm 64 0 (by decide) F r9 r14 W esd rp (by decide) (by rw [List.range_zero]; simpa using R) e
end
