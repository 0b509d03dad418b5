section
/-! the class: all ways of a man -/
def RpC (V : Nat → Nat) (h : Hp) (M : Nat → Int) (ov : Nat → Prop) (p0 : Nat) : Prop := (∃ t, ov t) → p0 < 64 ∧ 0 < M p0 ∧ ∃ n q, Pw (hJ h (V 4) 9) n q ∧ 0 < n ∧ q 0 = p0
section
variable {F : Nat} {V : Nat → Nat} {o' : Hp} {L : Nat → Nat → Int} {M : Nat → Int}
theorem sta_n {ov : Nat → Prop} {p0 : Nat} {sd : Int} {m s t : Nat} (n : ∀ j k, ¬ ldD L M ov true sd m s j t k) : stA L M ov p0 sd m s t = [] := by
  unfold stA
  rw [ldf_n n]
theorem sta_s {ov : Nat → Prop} {p0 : Nat} {sd : Int} {m s t j : Nat} {k : Int} (e : ldF (ldD L M ov true sd m s) t = some (j, k)) : stA L M ov p0 sd m s t = mvL L M p0 sd m s t j k (prB' (ByT L ov true j t)) := by
  unfold stA
  rw [e]
/-- one cell -/
theorem as_cell (D : VD V) {ov : Nat → Prop} {x1 x2 x4 : Int32} {c s t p0 a b : Nat} {I : Nat → Nat} {ms : List MvT} (H : LOk L) (HM : MOk L M) (ove : ∀ q, ov q → M q = 0) (e1 : x1.toInt = (s : Int)) (sL : (s : Int) < L 0 0 * L 1 0) (e2 : x2.toInt = (c : Int)) (cL : (c : Int) < 2 * L 2 0) (tL : (t : Int) < L 0 0 * L 1 0 ∨ a = b) (ht : t < 64) (b4 : (b : Int) ≤ x4.toInt) (I2 : ∀ w w', a ≤ w → w < w' → w' < b → I w < I w') (I3 : ∀ (i : Nat) (k : Int), (i : Int) < L 74 (c / 2) → RchL L (8 * (c / 2) + i) ((c % 2 : Nat) : Int) s t k → ∃ w, a ≤ w ∧ w < b ∧ I w = i) (lm : ms.length + 7 < 4096) : ∀ (f : Nat) {h : Hp} {x3 x5 : Int32} {w : Nat}, x5.toInt = (w : Int) → a ≤ w → w ≤ b → CWd V h L M ov → (∀ w, a ≤ w → w < b → ((I w : Nat) : Int) < L 74 (c / 2) ∧ WyE L V h c s t (I w) w) → (hI h (V 4) 5).toInt = ((c % 2 : Nat) : Int) → RpC V h M ov p0 → ((x3.toInt = (t : Int) ∧ CLs V h (ms ++ stA L M ov p0 ((c % 2 : Nat) : Int) (c / 2) s t)) ∨ (x3.toInt < (t : Int) ∧ CLs V h ms ∧ ∀ w', a ≤ w' → w' < w → ∀ k, ¬ LdG L M ov true ((c % 2 : Nat) : Int) (8 * (c / 2) + I w') s t k)) → sX5_addSteps_45 F f h (V 6) x1 x2 x3 x4 x5 = some o' → ∃ (f' : Nat) (g : Hp) (y3 y5 : Int32), FrV V (wl wcl) h g ∧ hN g (V 47) = hN h (V 47) ∧ y5.toInt = (b : Int) ∧ y3.toInt ≤ (t : Int) ∧ CLs V g (ms ++ stA L M ov p0 ((c % 2 : Nat) : Int) (c / 2) s t) ∧ sX5_addSteps_45 F f' g (V 6) x1 x2 y3 x4 y5 = some o' := by
  have z1 : (1 : Int32).toInt = 1 := rfl
  have z0 : (0 : Int32).toInt = 0 := rfl
  have sq := sq_64 H
  have L2 := H.2.2.1
  have mL : ((c / 2 : Nat) : Int) < L 2 0 := by omega
  obtain ⟨H74, Hst⟩ := H.2.2.2 _ mL
  intro f
  induction f with
  | zero => intro h x3 x5 w _ _ _ _ _ _ _ _ e; exact absurd e (by rw [sX5_addSteps_45]; exact fun z => nomatch z)
  | succ f ih =>
    intro h x3 x5 w i5 aw wb W I1 esd rp S e
    by_cases q : w = b
    · -- the cell is done
      refine ⟨f + 1, h, x3, x5, fv_0, rfl, by omega, ?_, ?_, e⟩
      · rcases S with ⟨y, _⟩ | ⟨y, _⟩ <;> omega
      · rcases S with ⟨_, y⟩ | ⟨_, y, no⟩
        · exact y
        · rw [sta_n (fun j k z => ?_), List.append_nil]
          · exact y
          · obtain ⟨i, iL, ej, g⟩ := z
            rw [ej] at g
            obtain ⟨w', p, r, u⟩ := I3 i k iL g.1.1
            exact no w' p (by omega) k (by rw [u]; exact g)
    have wb' : w < b := by omega
    have tL' : (t : Int) < L 0 0 * L 1 0 := by
      rcases tL with y | y
      · exact y
      · omega
    have up : x4.toInt ≤ 2147483647 := Int32.toInt_le _
    have c5 : x5.toNatClampNeg = w := by have := nc_i (x := x5) (by omega); omega
    obtain ⟨iL, k, rk, wd, bt⟩ := I1 w aw wb'
    have J := Hst _ iL
    have kr := rk.2.2.1
    have k1 := rk.2.1
    have r7 := J.2.2.2.2.1
    rw [sX5_addSteps_45] at e
    replace e := bn_e (fun z => by have := le_i z; omega) e
    obtain ⟨⟨w0, w1, w4, w5, w47⟩, wc, wt, pc, ps, ⟨cl', r20⟩, cx, bov⟩ := W
    have W : CWd V h L M ov := ⟨⟨w0, w1, w4, w5, w47⟩, wc, wt, pc, ps, ⟨cl', r20⟩, cx, bov⟩
    replace e := ce_e w1 e
    replace e := ce_e wc.2.1 e
    replace e := gg_e e
    replace e := nm_s e; obtain ⟨v5, u5, e⟩ := e
    rw [c5] at u5
    have f63 := (wd_f ht J.1 ⟨by omega, by omega⟩ wd).1
    rw [← u5] at f63
    have t5 : (x5 + (1 : Int32)).toInt = ((w + 1 : Nat) : Int) := by rw [ta (by rw [z1]; omega), z1]; omega
    unfold sX5_addSteps_170 at e
    rcases br_s e with ⟨came, e⟩ | ⟨came, e⟩
    · -- a way leads there already
      have ct : x3.toInt = (t : Int) := by rw [← came]; exact f63
      rcases S with ⟨y, S⟩ | ⟨y, _⟩
      · exact ih (w := w + 1) t5 (by omega) (by omega) W I1 esd rp (Or.inl ⟨y, S⟩) (nx_e e)
      · omega
    rcases S with ⟨y, _⟩ | ⟨y3, R, no⟩
    · exact absurd (Int32.toInt_inj.mp (by rw [f63, y])) came
    replace e := ce_e w4 e
    replace e := ce_e w4 e
    replace e := cl_s e; obtain ⟨o9, eo9, e⟩ := e
    have LV := leads_v (x2 := x5) (sd := hI h (V 4) 5) (ov := ov) (c := c) (s := s) (t := t) (i := I w) (k := k) H HM J w1 wc pc ps sL ht rk (by rw [c5]; exact wd) (by rw [c5]; exact bt) esd bov ove eo9
    obtain ⟨w9, v9⟩ := LV
    rw [decide_eq_true rfl] at v9
    rw [w9] at e
    rcases br_s e with ⟨ld, e⟩ | ⟨ld, e⟩
    · refine ih (w := w + 1) t5 (by omega) (by omega) W I1 esd rp (Or.inr ⟨y3, R, fun w' p r k' g => ?_⟩) (nx_e e)
      by_cases y : w' = w
      · rw [y] at g
        have : k' = k := rch_u J.2.2.2.1 g.1.1.2 rk.2
        rw [this] at g
        rcases v9 with ⟨_, z⟩ | ⟨z, _⟩
        · exact z g
        · rw [z] at ld; exact absurd ld (by decide)
      · exact no w' p (by omega) k' g
    -- it leads
    have LD : LdG L M ov true ((c % 2 : Nat) : Int) (8 * (c / 2) + I w) s t k := by
      rcases v9 with ⟨z, _⟩ | ⟨_, z⟩
      · exact absurd z ld
      · exact z
    have dd : ldD L M ov true ((c % 2 : Nat) : Int) (c / 2) s (8 * (c / 2) + I w) t k := ⟨I w, iL, rfl, LD⟩
    have lf : ldF (ldD L M ov true ((c % 2 : Nat) : Int) (c / 2) s) t = some (8 * (c / 2) + I w, k) := ldf_s dd (fun j' k' z => by
      obtain ⟨i', iL', ej, g⟩ := z
      rw [ej] at g ⊢
      obtain ⟨w', p, r, u⟩ := I3 i' k' iL' g.1.1
      by_cases y : w' < w
      · exact absurd (by rw [u]; exact g) (no w' p y k')
      · by_cases y' : w' = w
        · rw [y'] at u; omega
        · have := I2 w w' aw (by omega) r
          omega) (fun k' z => ldd_u Hst dd z)
    rw [sta_s (p0 := p0) lf]
    replace e := cl_s e; obtain ⟨o11, eo11, e⟩ := e
    obtain ⟨q1, q2⟩ := mva_v (p0 := p0) (t := t) (i := I w) (k := k) W HM H J cL (by omega) ht ⟨k1, by omega⟩ (by rw [c5]; exact wd) e1 e2 (fun yb => rp ⟨t, yb.2.2⟩) eo11
    rw [q1] at e
    replace e := cl_s e; obtain ⟨o12, eo12, e⟩ := e
    have m12 : c / 2 < 12 := by omega
    have ita : tkV M p0 t (prB' (ByT L ov true (8 * (c / 2) + I w) t)) = -1 ∨ (0 ≤ tkV M p0 t (prB' (ByT L ov true (8 * (c / 2) + I w) t)) ∧ tkV M p0 t (prB' (ByT L ov true (8 * (c / 2) + I w) t)) < 15) := by
      unfold tkV
      by_cases yb : ByT L ov true (8 * (c / 2) + I w) t
      · rw [if_pos (prb_e.mpr yb)]
        obtain ⟨p64, mp, _⟩ := rp ⟨t, yb.2.2⟩
        have := (mno_lt (L := L) mp ((HM p0 p64).2 mp).2).1
        exact Or.inr ⟨by omega, by omega⟩
      · rw [prb_f.mpr yb, if_neg (by decide)]
        by_cases mt : 0 < M t
        · rw [if_pos mt]
          have := (mno_lt (L := L) mt ((HM t ht).2 mt).2).1
          exact Or.inr ⟨by omega, by omega⟩
        · rw [if_neg mt]; exact Or.inl rfl
    obtain ⟨q3, q4⟩ := cho_v (m := c / 2) W H tL' m12 ⟨by omega, by omega⟩ ita q2 eo12
    rw [q3] at e
    rw [esd] at q4
    obtain ⟨_, ⟨b0, b6⟩, _⟩ := cx.1 (c / 2) m12
    have e2' : (x2 >>> ((1 : Int32) &&& 31)).toInt = ((c / 2 : Nat) : Int) := by
      have : (x2 >>> ((1 : Int32) &&& 31)).toInt = x2.toInt / 2 := shr_i 1 (by decide)
      rw [this, e2]; omega
    have c8 : o12.1.toInt = 0 ∨ (0 < o12.1.toInt ∧ o12.1.toInt = L 81 (c / 2)) := by
      rw [q4]
      split
      · by_cases y : L 81 (c / 2) = 0
        · exact Or.inl y
        · exact Or.inr ⟨by omega, rfl⟩
      · exact Or.inl rfl
    obtain ⟨g, r1, r2, r3, r4⟩ := as_120 D (m := c / 2) (s := s) (t := t) e2' m12 (by split <;> omega) q2 c8 F (n := 0) rfl (by omega) W (by rw [List.range_zero, List.map_nil, List.append_nil]; exact R) lm e
    have lst : (if 0 < o12.1.toInt then (List.range (L 81 (c / 2)).toNat).map (fun q => ((s : Int), (t : Int), ((c / 2 : Nat) : Int), L 80 (6 * (c / 2) + q), tkV M p0 t (prB' (ByT L ov true (8 * (c / 2) + I w) t)), (if prB' (ByT L ov true (8 * (c / 2) + I w) t) = true then (1 : Int) else 0), (if fbt (L 75 (8 * (c / 2) + I w)) 4 = true ∧ 1 < k then k else 0))) else [((s : Int), (t : Int), ((c / 2 : Nat) : Int), -1, tkV M p0 t (prB' (ByT L ov true (8 * (c / 2) + I w) t)), (if prB' (ByT L ov true (8 * (c / 2) + I w) t) = true then (1 : Int) else 0), (if fbt (L 75 (8 * (c / 2) + I w)) 4 = true ∧ 1 < k then k else 0))]) = mvL L M p0 ((c % 2 : Nat) : Int) (c / 2) s t (8 * (c / 2) + I w) k (prB' (ByT L ov true (8 * (c / 2) + I w) t)) := by
      unfold mvL
      rw [q4]
      generalize (if prB' (ByT L ov true (8 * (c / 2) + I w) t) = true then (1 : Int) else 0) = kd0
      generalize (if fbt (L 75 (8 * (c / 2) + I w)) 4 = true ∧ 1 < k then k else 0) = fa0
      generalize tkV M p0 t (prB' (ByT L ov true (8 * (c / 2) + I w) t)) = ta0
      by_cases y : rkF L t ((c % 2 : Nat) : Int) = L 1 0 ∧ ¬ (¬ L 18 0 = 0 ∧ ¬ ta0 = -1)
      · rw [if_pos y]
        by_cases y' : 0 < L 81 (c / 2)
        · rw [if_pos y', if_pos ⟨y', y⟩]
        · rw [if_neg y', if_neg (fun z => y' z.1)]
      · rw [if_neg y, if_neg (show ¬ (0 : Int) < 0 by decide), if_neg (fun z => y z.2)]
    rw [lst] at r3
    unfold sX5_addSteps_170 at r4
    obtain ⟨f', g', y3', y5', s1, s2, s3, s4, s5, s6⟩ := ih (w := w + 1) (x3 := v5) t5 (by omega) (by omega) (cwd_f D W r1 r2) (fun w' p r => by
      obtain ⟨i1, i2⟩ := I1 w' p r
      exact ⟨i1, wye_k i2 (fvI D r1 51 w') (fvJ D r1 52 w')⟩) (by rw [fvi D r1 4 5]; exact esd) (fun z => by
      have := rp z
      rw [fvj D r1 4 9]
      exact this) (Or.inl ⟨f63, by rw [sta_s (p0 := p0) lf]; exact r3⟩) (nx_e r4)
    rw [sta_s (p0 := p0) lf] at s5
    exact ⟨f', g', y3', y5', fv_t r1 s1, s2.trans r2, s3, s4, s5, s6⟩
/-- cells lie in order -/
theorem fst_m {h : Hp} {c s : Nat} (T : WyT L V h) (cL : (c : Int) < 2 * L 2 0) (sL : (s : Int) < L 0 0 * L 1 0) {t : Nat} : ∀ n, t + n ≤ 64 → rowN h (V 50) (celN c s t) ≤ rowN h (V 50) (celN c s (t + n))
  | 0, _ => Nat.le_refl _
  | n + 1, hn => by
    have ih := fst_m T cL sL (t := t) n (by omega)
    have := (T c s (t + n) cL sL (by omega)).2.1.1
    have e : celN c s (t + (n + 1)) = celN c s (t + n) + 1 := by unfold celN; omega
    rw [e]
    omega
theorem flat_s {α : Type} (f : Nat → List α) (n : Nat) : (List.range (n + 1)).flatMap f = (List.range n).flatMap f ++ f n := by
  rw [List.range_succ, List.flatMap_append, List.flatMap_singleton]
/-- all cells from t on -/
theorem as_run (D : VD V) {ov : Nat → Prop} {x1 x2 x4 : Int32} {c s p0 : Nat} {ms : List MvT} (H : LOk L) (HM : MOk L M) (ove : ∀ q, ov q → M q = 0) (e1 : x1.toInt = (s : Int)) (sL : (s : Int) < L 0 0 * L 1 0) (e2 : x2.toInt = (c : Int)) (cL : (c : Int) < 2 * L 2 0) (lm : (ms ++ (List.range 64).flatMap (stA L M ov p0 ((c % 2 : Nat) : Int) (c / 2) s)).length + 7 < 4096) : ∀ (n t : Nat), t + n = 64 → ∀ (f : Nat) {h : Hp} {x3 x5 : Int32}, x4.toInt = (rowN h (V 50) (celN c s 64) : Int) → x5.toInt = (rowN h (V 50) (celN c s t) : Int) → CWd V h L M ov → (hI h (V 4) 5).toInt = ((c % 2 : Nat) : Int) → RpC V h M ov p0 → x3.toInt < (t : Int) → CLs V h (ms ++ (List.range t).flatMap (stA L M ov p0 ((c % 2 : Nat) : Int) (c / 2) s)) → sX5_addSteps_45 F f h (V 6) x1 x2 x3 x4 x5 = some o' → FrV V (wl wcl) h o' ∧ hN o' (V 47) = hN h (V 47) ∧ CLs V o' (ms ++ (List.range 64).flatMap (stA L M ov p0 ((c % 2 : Nat) : Int) (c / 2) s)) := by
  have sq := sq_64 H
  intro n
  induction n with
  | zero =>
    intro t ht f h x3 x5 e4 e5 W esd rp y3 R e
    have t64 : t = 64 := by omega
    rw [t64] at e5 R
    cases f with
    | zero => exact absurd e (by rw [sX5_addSteps_45]; exact fun z => nomatch z)
    | succ f =>
      rw [sX5_addSteps_45] at e
      replace e := bp_e (ii_le.mpr (by omega)) e
      rw [so_e e]
      exact ⟨fv_0, rfl, R⟩
  | succ n ih =>
    intro t ht f h x3 x5 e4 e5 W esd rp y3 R e
    have T := W.2.2.1
    obtain ⟨nn, ⟨ab, I, I1, I2, I3⟩, _⟩ := T c s t cL sL (by omega)
    have ce : celN c s t + 1 = celN c s (t + 1) := by unfold celN; omega
    rw [ce] at ab I1 I2 I3
    have mono := fst_m T cL sL (t := t + 1) n (by omega)
    rw [show t + 1 + n = 64 by omega] at mono
    have lpre : ∀ j, j ≤ 64 → ((List.range j).flatMap (stA L M ov p0 ((c % 2 : Nat) : Int) (c / 2) s)).length ≤ ((List.range 64).flatMap (stA L M ov p0 ((c % 2 : Nat) : Int) (c / 2) s)).length := fun j hj => by
      have step : ∀ d, ((List.range j).flatMap (stA L M ov p0 ((c % 2 : Nat) : Int) (c / 2) s)).length ≤ ((List.range (j + d)).flatMap (stA L M ov p0 ((c % 2 : Nat) : Int) (c / 2) s)).length := fun d => by
        induction d with
        | zero => exact Nat.le_refl _
        | succ d ihd =>
          rw [show j + (d + 1) = (j + d) + 1 by omega, flat_s, List.length_append]
          omega
      have := step (64 - j)
      rw [show j + (64 - j) = 64 by omega] at this
      exact this
    have l1 := lpre t (by omega)
    rw [List.length_append] at lm
    obtain ⟨f', g, z3, z5, r1, r2, r3, r4, r5, r6⟩ := as_cell D (p0 := p0) (I := I) (t := t) (ms := ms ++ (List.range t).flatMap (stA L M ov p0 ((c % 2 : Nat) : Int) (c / 2) s)) H HM ove e1 sL e2 cL (by
      by_cases y : (t : Int) < L 0 0 * L 1 0
      · exact Or.inl y
      · right
        by_cases z : rowN h (V 50) (celN c s t) = rowN h (V 50) (celN c s (t + 1))
        · exact z
        · obtain ⟨_, k, rk, _⟩ := I1 _ (Nat.le_refl _) (by omega)
          obtain ⟨d, _, o1, e1', _⟩ := rch_st rk.2
          have := (tgt_on (show 0 < L 0 0 by have := H.1; omega) o1).2.1
          omega) (by omega) (by omega) I2 I3 (by rw [List.length_append]; omega) f (w := rowN h (V 50) (celN c s t)) e5 (Nat.le_refl _) ab W I1 esd rp (Or.inr ⟨y3, R, fun w' p q => by omega⟩) e
    have k50 : ∀ x, rowN g (V 50) x = rowN h (V 50) x := fun x => by unfold rowN; rw [fvI D r1 50 x]
    obtain ⟨q1, q2, q3⟩ := ih (t + 1) (by omega) f' (h := g) (by rw [k50]; exact e4) (by rw [k50]; exact r3) (cwd_f D W r1 r2) (by rw [fvi D r1 4 5]; exact esd) (fun z => by
      have := rp z
      rw [fvj D r1 4 9]
      exact this) (by omega) (by
      rw [flat_s, ← List.append_assoc]
      exact r5) r6
    exact ⟨fv_t r1 q1, q2.trans r2, q3⟩
/-- addSteps -/
theorem as_c (D : VD V) {ov : Nat → Prop} {h : Hp} {x1 : Int32} {s p0 : Nat} {ms : List MvT} (H : LOk L) (HM : MOk L M) (ove : ∀ q, ov q → M q = 0) (e1 : x1.toInt = (s : Int)) (sL : (s : Int) < L 0 0 * L 1 0) (m0 : 0 < M s) (W : CWd V h L M ov) (esd : (hI h (V 4) 5).toInt = (M s - 1) % 2) (rp : RpC V h M ov p0) (R : CLs V h ms) (lm : (ms ++ (List.range 64).flatMap (stA L M ov p0 ((M s - 1) % 2) (mnO (M s)) s)).length + 7 < 4096) (e : sX5_addSteps F h (V 6) x1 = some o') : FrV V (wl wcl) h o' ∧ hN o' (V 47) = hN h (V 47) ∧ CLs V o' (ms ++ (List.range 64).flatMap (stA L M ov p0 ((M s - 1) % 2) (mnO (M s)) s)) := by
  have z64 : (64 : Int32).toInt = 64 := rfl
  have z0 : (0 : Int32).toInt = 0 := rfl
  have sq := sq_64 H
  have L2 := H.2.2.1
  have c1 : x1.toNatClampNeg = s := by have := nc_i (x := x1) (by omega); omega
  have m2 := ((HM s (by omega)).2 m0).2
  have on := W.2.2.2.2.1.1 s (by omega)
  unfold sX5_addSteps sX10_cell at e
  replace e := ce_e W.1.2.2.1 e
  replace e := ce_e W.2.2.2.1.1 e
  replace e := gg_e e
  replace e := nm_s e; obtain ⟨v4, u4, e⟩ := e
  rw [c1] at u4
  rw [← u4] at on
  obtain ⟨c, hc⟩ : ∃ c : Nat, v4.toInt = (c : Int) := ⟨v4.toInt.toNat, by omega⟩
  have cd : mnO (M s) = c / 2 := by unfold mnO; omega
  have cm : (M s - 1) % 2 = ((c % 2 : Nat) : Int) := by omega
  have cL : (c : Int) < 2 * L 2 0 := by omega
  rw [cd, cm] at lm ⊢
  rw [cm] at esd
  have a1 : (v4 * (64 : Int32)).toInt = (c : Int) * 64 := by rw [tm (by rw [hc, z64]; omega), hc, z64]
  have a2 : ((v4 * (64 : Int32)) + x1).toInt = (c : Int) * 64 + s := by rw [ta (by rw [a1, e1]; omega), a1, e1]
  have a3 : (((v4 * (64 : Int32)) + x1) * (64 : Int32)).toInt = ((c : Int) * 64 + s) * 64 := by rw [tm (by rw [a2, z64]; omega), a2, z64]
  have i64 : ((((v4 * (64 : Int32)) + x1) * (64 : Int32)) + (64 : Int32)).toNatClampNeg = celN c s 64 := by
    have a : ((((v4 * (64 : Int32)) + x1) * (64 : Int32)) + (64 : Int32)).toInt = ((c : Int) * 64 + s) * 64 + 64 := by rw [ta (by rw [a3, z64]; omega), a3, z64]
    have := nc_i (x := (((v4 * (64 : Int32)) + x1) * (64 : Int32)) + (64 : Int32)) (by omega)
    unfold celN
    omega
  have i0 : ((((v4 * (64 : Int32)) + x1) * (64 : Int32)) + (0 : Int32)).toNatClampNeg = celN c s 0 := by
    have a : ((((v4 * (64 : Int32)) + x1) * (64 : Int32)) + (0 : Int32)).toInt = ((c : Int) * 64 + s) * 64 := by rw [ta (by rw [a3, z0]; omega), a3, z0]; omega
    have := nc_i (x := (((v4 * (64 : Int32)) + x1) * (64 : Int32)) + (0 : Int32)) (by omega)
    unfold celN
    omega
  replace e := ce_e W.1.2.1 e
  replace e := ce_e W.2.1.1 e
  replace e := cl_s e; obtain ⟨o7, eo7, e⟩ := e
  rw [so_e eo7] at e
  replace e := gg_e e
  replace e := nm_s e; obtain ⟨v9, u9, e⟩ := e
  dsimp only at u9 e
  rw [i64] at u9
  replace e := ce_e W.1.2.1 e
  replace e := ce_e W.2.1.1 e
  replace e := cl_s e; obtain ⟨o12, eo12, e⟩ := e
  rw [so_e eo12] at e
  replace e := gg_e e
  replace e := nm_s e; obtain ⟨v14, u14, e⟩ := e
  dsimp only at u14 e
  rw [i0] at u14
  have n0 := (W.2.2.1 c s 0 cL sL (by decide)).1.1
  have n64 := (W.2.2.1 c s 63 cL sL (by decide)).1.2
  have ce : celN c s 63 + 1 = celN c s 64 := by unfold celN; omega
  rw [ce] at n64
  have r9 : v9.toInt = (rowN h (V 50) (celN c s 64) : Int) := by
    rw [u9]
    unfold rowN
    exact (nc_i n64).symm
  have r14 : v14.toInt = (rowN h (V 50) (celN c s 0) : Int) := by
    rw [u14]
    unfold rowN
    exact (nc_i n0).symm
  exact as_run D H HM ove e1 sL hc cL lm 64 0 (by decide) F r9 r14 W esd rp (by decide) (by rw [List.range_zero]; simpa using R) e
end
end
section
/-! the ROYAL man's square, and whether it is attacked -/
theorem roa_u {x y : Int32} {M : Nat → Int} {ro : Int} {d : Nat} (hd : d < 2) (U : UnM M ro) (a : RoA x M ro d) (b : RoA y M ro d) : x = y := by
  have sx : ∀ {z : Int32}, Rg 0 63 z → (z.toNatClampNeg : Int) = z.toInt ∧ z.toNatClampNeg < 64 := fun {z} i => by
    have h1 := nc_i i.1
    have h2 := i.2
    omega
  rcases a with ⟨a1, a2⟩ | ⟨a1, a2, a3⟩
  · rcases b with ⟨b1, _⟩ | ⟨b1, b2, b3⟩
    · rw [a1, b1]
    · exact absurd b3 (a2 _ (sx b1).2 b2)
  · rcases b with ⟨_, b2⟩ | ⟨b1, b2, b3⟩
    · exact absurd a3 (b2 _ (sx a1).2 a2)
    · have := U a2 d _ _ hd (sx a1).2 (sx b1).2 a3 b3
      exact Int32.toInt_inj.mp (by have := (sx a1).1; have := (sx b1).1; omega)
section
variable {F : Nat} {V : Nat → Nat} {h : Hp} {L : Nat → Nat → Int} {M : Nat → Int} {o : Int32 × Hp}
theorem roy_2 {sd : Int32} {d : Nat} (H : LOk L) (HM : MOk L M) (W : RWd V h L M) (iro : -1 ≤ L 10 0 ∧ L 10 0 ≤ 11) (ed : sd.toInt = (d : Int)) (hd : d < 2) : ∀ (f : Nat) {x3 : Int32}, 0 ≤ x3.toInt → (∀ s : Nat, (s : Int) < x3.toInt → 0 ≤ L 10 0 → ¬ M s = 1 + 2 * L 10 0 + d) → sX15_royalOf_2 F f h (V 16) (V 13) sd x3 = some o → o.2 = h ∧ RoA o.1 M (L 10 0) d := by
  have z1 : (1 : Int32).toInt = 1 := rfl
  have z2 : (2 : Int32).toInt = 2 := rfl
  have zm : (-1 : Int32).toInt = -1 := by decide
  have sq := sq_64 H
  have l10 := lw_0 W (k := 10) (by decide) 0
  intro f
  induction f with
  | zero => intro x3 _ _ e; exact absurd e (by rw [sX15_royalOf_2]; exact fun z => nomatch z)
  | succ f ih =>
    intro x3 a3 no e
    have c3 := nc_i a3
    rw [sX15_royalOf_2] at e
    unfold sX15_royalOf_49 at e
    have g4 := W.2.1.2.2.2
    rcases br_s e with ⟨l, e⟩ | ⟨l, e⟩
    · have l := le_i l
      rw [g4] at l
      rw [so_e e]
      refine ⟨rfl, Or.inl ⟨rfl, fun s hs r z => ?_⟩⟩
      have := ((HM s hs).2 (by omega)).1
      exact no s (by omega) r z
    have l := nle_i l
    rw [g4] at l
    replace e := ce_e W.1.1 e
    rcases br_s e with ⟨c, e⟩ | ⟨c, e⟩
    · rw [so_e e]
      refine ⟨rfl, Or.inl ⟨rfl, fun s hs r z => ?_⟩⟩
      rw [c, zm] at l10
      omega
    have r0 : 0 ≤ L 10 0 := by
      have : ¬ L 10 0 = -1 := fun z => c (Int32.toInt_inj.mp (by rw [l10, z, zm]))
      omega
    replace e := ce_e W.2.2.1 e
    replace e := gg_e e
    replace e := ce_e W.1.1 e
    unfold sX15_valueOf at e
    replace e := cl_s e; obtain ⟨o7, eo7, e⟩ := e
    rw [so_e eo7] at e
    have t2 : ((2 : Int32) * (hI h (V 15) 10)).toInt = 2 * L 10 0 := by rw [tm (by rw [z2, l10]; omega), z2, l10]
    have t3 : ((1 : Int32) + ((2 : Int32) * (hI h (V 15) 10))).toInt = 1 + 2 * L 10 0 := by rw [ta (by rw [z1, t2]; omega), z1, t2]
    have t4 : (((1 : Int32) + ((2 : Int32) * (hI h (V 15) 10))) + sd).toInt = 1 + 2 * L 10 0 + d := by rw [ta (by rw [t3, ed]; omega), t3, ed]
    have mv : (hI h (V 62) x3.toNatClampNeg).toInt = M x3.toNatClampNeg := W.2.2.2 _ (by omega)
    rcases br_s e with ⟨q, e⟩ | ⟨q, e⟩
    · rw [so_e e]
      refine ⟨rfl, Or.inr ⟨⟨a3, by show x3.toInt ≤ 63; omega⟩, r0, ?_⟩⟩
      show M x3.toNatClampNeg = _
      rw [← mv, q]
      exact t4
    · refine ih (by rw [ta (by rw [z1]; omega), z1]; omega) (fun s hs r z => ?_) (nx_e e)
      rw [ta (by rw [z1]; omega), z1] at hs
      by_cases y : s = x3.toNatClampNeg
      · rw [y] at z
        exact q (Int32.toInt_inj.mp (by rw [mv, z]; exact t4.symm))
      · exact no s (by omega) r z
theorem roy_r {sd : Int32} {d : Nat} (H : LOk L) (HM : MOk L M) (W : RWd V h L M) (iro : -1 ≤ L 10 0 ∧ L 10 0 ≤ 11) (ed : sd.toInt = (d : Int)) (hd : d < 2) (e : sX15_royalOf F h (V 16) (V 13) sd = some o) : o.2 = h ∧ RoA o.1 M (L 10 0) d := by
  unfold sX15_royalOf at e
  have z0 : (0 : Int32).toInt = 0 := rfl
  exact roy_2 H HM W iro ed hd F (by decide) (fun s hs => by rw [z0] at hs; omega) e
/-- the ROYAL man of a side stands attacked -/
def RyH (L : Nat → Nat → Int) (M : Nat → Int) (d : Nat) : Prop := ∃ s : Nat, s < 64 ∧ 0 ≤ L 10 0 ∧ M s = 1 + 2 * L 10 0 + d ∧ AttP L M (1 - (d : Int)) s
theorem ryh_c {sd : Int32} {d : Nat} (H : LOk L) (HM : MOk L M) (U : UnM M (L 10 0)) (w6 : hR h (V 6) 1 = some (V 11)) (wc : WCf V h) (T : WyT L V h) (Pc : VPc V h) (P : PosC h (V 34) (V 35) (V 36) M (L 10 0)) (ed : sd.toInt = (d : Int)) (hd : d < 2) (e : sX5_isRoyalHit F h (V 6) (V 4) sd = some o) : o.2 = h ∧ ((o.1 = 0 ∧ ¬ RyH L M d) ∨ (o.1 = 1 ∧ RyH L M d)) := by
  have z1 : (1 : Int32).toInt = 1 := rfl
  have cd : sd.toNatClampNeg = d := by have := nc_i (x := sd) (by omega); omega
  have ra := P.2.2.1 d hd
  unfold sX5_isRoyalHit sX5_isRoyalHit_31 sX5_isRoyalHit_32 at e
  replace e := ce_e Pc.2.2.1 e
  replace e := gg_e e
  rcases br_s e with ⟨c, e⟩ | ⟨c, e⟩ <;> rw [cd] at c
  · rw [so_e (gg_e e)]
    refine ⟨rfl, Or.inl ⟨rfl, ?_⟩⟩
    rintro ⟨s, hs, r, m, _⟩
    rcases ra with ⟨_, a⟩ | ⟨a, _⟩
    · exact a s hs r m
    · rw [c] at a; exact absurd a.1 (by decide)
  · rcases ra with ⟨a, _⟩ | ⟨a1, a2, a3⟩
    · exact absurd a c
    have ca := nc_i a1.1
    have a63 := a1.2
    replace e := ce_e Pc.2.2.1 e
    replace e := gg_e e
    rw [cd] at e
    replace e := cl_s e; obtain ⟨o6, eo6, e⟩ := e
    have t1 : ((1 : Int32) - sd).toInt = 1 - (d : Int) := by rw [ts (by rw [z1, ed]; omega), z1, ed]
    obtain ⟨q1, q2⟩ := hit_c H HM w6 wc T Pc P a1.1 (by omega) ⟨by rw [t1]; omega, by rw [t1]; omega⟩ eo6
    rw [t1] at q2
    rw [q1] at e
    rcases br_s e with ⟨c', e⟩ | ⟨c', e⟩
    · rw [so_e (gg_e e)]
      refine ⟨rfl, Or.inl ⟨rfl, ?_⟩⟩
      rintro ⟨s, hs, r, m, at'⟩
      rcases q2 with ⟨_, y⟩ | ⟨y, _⟩
      · have es := U r d s _ hd hs (by omega) m a3
        rw [es] at at'
        exact y at'
      · rw [y] at c'; exact absurd c' (by decide)
    · rw [so_e (gg_e e)]
      refine ⟨rfl, Or.inr ⟨rfl, _, by omega, a2, a3, ?_⟩⟩
      rcases q2 with ⟨y, _⟩ | ⟨_, y⟩
      · exact absurd y c'
      · exact y
end
end
section
/-! the class: what a move does to the men on squares -/
def cdV (m sd : Int) : Int := 1 + 2 * m + sd
def nwV (sd : Int) (v : MvT) : Int := cdV (if v.2.2.2.1 = -1 then v.2.2.1 else v.2.2.2.1) sd
def mdM (M : Nat → Int) (p0 : Nat) (cas sd : Int) (v : MvT) : Nat → Int := if v.2.2.2.2.2.1 = 2 then updM (updM M v.2.2.2.2.2.2.toNat 0) ((v.1 + v.2.1) / 2).toNat (cdV cas sd) else if v.2.2.2.2.2.1 = 1 then updM M p0 0 else M
/-- men behind a move, blast aside -/
def shM (M : Nat → Int) (p0 : Nat) (cas sd : Int) (v : MvT) : Nat → Int := if v.2.2.2.2.2.1 = 3 then updM M v.2.1.toNat (cdV v.2.2.1 sd) else updM (updM (mdM M p0 cas sd v) v.1.toNat 0) v.2.1.toNat (nwV sd v)
/-- squares that it touches -/
def shT (p0 : Nat) (v : MvT) (q : Nat) : Prop := q = v.2.1.toNat ∨ (¬ v.2.2.2.2.2.1 = 3 ∧ q = v.1.toNat) ∨ (v.2.2.2.2.2.1 = 1 ∧ q = p0) ∨ (v.2.2.2.2.2.1 = 2 ∧ (q = v.2.2.2.2.2.2.toNat ∨ q = ((v.1 + v.2.1) / 2).toNat))
theorem un_0 {M : Nat → Int} {ro : Int} {x : Nat} (U : UnM M ro) : UnM (updM M x 0) ro := fun r d s t hd hs ht a b => by
  by_cases c : s = x
  · rw [c, upm_s] at a
    omega
  · rw [upm_o c] at a
    by_cases c' : t = x
    · rw [c', upm_s] at b
      omega
    · rw [upm_o c'] at b
      exact U r d s t hd hs ht a b
/-- another man than the ROYAL one comes -/
theorem un_o {M : Nat → Int} {ro v : Int} {x : Nat} (U : UnM M ro) (n : ∀ d : Nat, d < 2 → ¬ v = 1 + 2 * ro + d) : UnM (updM M x v) ro := fun r d s t hd hs ht a b => by
  by_cases c : s = x
  · rw [c, upm_s] at a
    exact absurd a (n d hd)
  · rw [upm_o c] at a
    by_cases c' : t = x
    · rw [c', upm_s] at b
      exact absurd b (n d hd)
    · rw [upm_o c'] at b
      exact U r d s t hd hs ht a b
/-- the ROYAL man comes where no other is -/
theorem un_r {M : Nat → Int} {ro v : Int} {x : Nat} (U : UnM M ro) (n : ∀ (d s : Nat), d < 2 → s < 64 → v = 1 + 2 * ro + d → ¬ M s = v) : UnM (updM M x v) ro := fun r d s t hd hs ht a b => by
  by_cases c : s = x
  · rw [c, upm_s] at a
    by_cases c' : t = x
    · omega
    · rw [upm_o c'] at b
      exact absurd (b.trans a.symm) (n d t hd ht a)
  · rw [upm_o c] at a
    by_cases c' : t = x
    · rw [c', upm_s] at b
      exact absurd (a.trans b.symm) (n d s hd hs b)
    · rw [upm_o c'] at b
      exact U r d s t hd hs ht a b
def ShW (V : Nat → Nat) (h : Hp) (L : Nat → Nat → Int) (M : Nat → Int) (sd : Int) : Prop := hR h (V 6) 0 = some (V 2) ∧ VPc V h ∧ PosC h (V 34) (V 35) (V 36) M (L 10 0) ∧ UnM M (L 10 0) ∧ (hI h (V 2) 4).toInt = L 10 0 ∧ (hI h (V 2) 6).toInt = L 12 0 ∧ (hI h (V 4) 5).toInt = sd
section
variable {F : Nat} {V : Nat → Nat} {h o : Hp} {L : Nat → Nat → Int} {M : Nat → Int}
theorem put_s (D : VD V) {x1 x2 : Int32} {sd : Int} (W : ShW V h L M sd) (i1 : Rg 0 63 x1) (i2 : Rg (-1) 23 x2) (un' : UnM (updM M x1.toNatClampNeg (x2.toInt + 1)) (L 10 0)) (e : sX3_put h (V 4) x1 x2 (hI h (V 2) 4) = some o) : FrV V (wl wcM) h o ∧ ShW V o L (updM M x1.toNatClampNeg (x2.toInt + 1)) sd ∧ ∀ q, bitJ (hJ o (V 4) 7) q = (bitJ (hJ h (V 4) 7) q || decide (x1.toNatClampNeg = q)) := by
  obtain ⟨w0, pc, ps, un, r4, r6, s5⟩ := W
  rw [← r4] at ps un
  obtain ⟨q1, q2, q3, q4, q5⟩ := put_c pc.1 pc.2.1 pc.2.2.1 (vne D) (vne D) i1 i2 ps (Or.inr un) e
  have A : FrV V (wl wcM) h o := put_f (x1 := x1) (x2 := x1) (x3 := x1) q2 q3 q4
  rw [r4] at q1
  exact ⟨A, ⟨by rw [A.1]; exact w0, vpc_f pc A, q1, un', by rw [fvi D A 2 4]; exact r4, by rw [fvi D A 2 6]; exact r6, by rw [fvi D A 4 5]; exact s5⟩, q5⟩
theorem bec_v {x : Int32} {t s m b a k p : Int} {o : Int32 × Hp} (P : PkM x t s m b a k p) (e : sX5_becomes h x = some o) : o.2 = h ∧ o.1.toInt = (if b = 15 then -1 else b) := by
  have z15 : (15 : Int32).toInt = 15 := rfl
  have fa := (pk_fd P).2.2.2.1
  unfold sX5_becomes sX5_becomes_19 at e
  replace e := nx_e e
  rcases br_s e with ⟨c, e⟩ | ⟨c, e⟩
  · rw [so_e e]
    rw [c, z15] at fa
    rw [if_pos fa.symm]
    exact ⟨rfl, show (-1 : Int32).toInt = -1 by decide⟩
  · rw [so_e e]
    rw [if_neg (fun z => c (Int32.toInt_inj.mp (by rw [fa, z, z15])))]
    exact ⟨rfl, fa⟩
/-- he leaves his square and comes to the other -/
theorem shc_145 (D : VD V) {x2 x3 x4 x6 : Int32} {sd t s m b a k p : Int} (W : ShW V h L M sd) (P : PkM x2 t s m b a k p) (e3 : x3.toInt = s) (e4 : x4.toInt = t) (isd : sd = 0 ∨ sd = 1) (m11 : m ≤ 11) (b11 : b = 15 ∨ b ≤ 11) (e6 : x6.toInt = 2 * m + sd) (un' : UnM (updM (updM M s.toNat 0) t.toNat (cdV (if b = 15 then m else b) sd)) (L 10 0)) (e : sX5_shift_145 F h (V 6) (V 4) x2 x3 x4 x6 = some o) : FrV V (wl wcM) h o ∧ ShW V o L (updM (updM M s.toNat 0) t.toNat (cdV (if b = 15 then m else b) sd)) sd ∧ ∀ q, bitJ (hJ o (V 4) 7) q = (bitJ (hJ h (V 4) 7) q || (decide (s.toNat = q) || decide (t.toNat = q))) := by
  have z2 : (2 : Int32).toInt = 2 := rfl
  have zm : (-1 : Int32).toInt = -1 := by decide
  obtain ⟨⟨t0, t1⟩, ⟨s0, s1⟩, ⟨m0, m1⟩, ⟨b0, b1⟩, _⟩ := P.1
  have c3 : x3.toNatClampNeg = s.toNat := by have := nc_i (x := x3) (by omega); omega
  have c4 : x4.toNatClampNeg = t.toNat := by have := nc_i (x := x4) (by omega); omega
  unfold sX5_shift_145 sX5_shift_185 at e
  replace e := ce_e W.1 e
  replace e := cl_s e; obtain ⟨g, eg, e⟩ := e
  have n0 : (-1 : Int32).toInt + 1 = 0 := by rw [zm]; rfl
  obtain ⟨A, Wg, tg⟩ := put_s D W ⟨by omega, by omega⟩ ⟨by decide, by decide⟩ (by rw [n0]; exact un_0 W.2.2.2.1) eg
  rw [n0, c3] at Wg
  rw [c3] at tg
  have fin : ∀ {c : Int32} {v : Int}, c.toInt + 1 = v → -1 ≤ c.toInt → c.toInt ≤ 23 → UnM (updM (updM M s.toNat 0) t.toNat v) (L 10 0) → (cl (hR g (V 6) 0) fun r_1 => cl (sX3_put g (V 4) x4 c (hI g r_1 4)) fun o_2 => some o_2) = some o → FrV V (wl wcM) h o ∧ ShW V o L (updM (updM M s.toNat 0) t.toNat v) sd ∧ ∀ q, bitJ (hJ o (V 4) 7) q = (bitJ (hJ h (V 4) 7) q || (decide (s.toNat = q) || decide (t.toNat = q))) := fun {c v} hv l0 l1 un u => by
    replace u := ce_e Wg.1 u
    replace u := cl_s u; obtain ⟨g', eg', u⟩ := u
    rw [so_e u]
    obtain ⟨A', W', t'⟩ := put_s D Wg (x1 := x4) (x2 := c) ⟨by omega, by omega⟩ ⟨l0, l1⟩ (by rw [c4, hv]; exact un) eg'
    rw [c4, hv] at W'
    rw [c4] at t'
    exact ⟨fv_t A A', W', fun q => by rw [t', tg, Bool.or_assoc]⟩
  replace e := cl_s e; obtain ⟨o3, eo3, e⟩ := e
  obtain ⟨w3, v3⟩ := bec_v P eo3
  rw [w3] at e
  rcases br_s e with ⟨c, e⟩ | ⟨c, e⟩
  · have b15 : b = 15 := by
      rw [c, zm] at v3
      by_cases y : b = 15
      · exact y
      · rw [if_neg y] at v3; omega
    rw [if_pos b15] at un' ⊢
    exact fin (by unfold cdV; omega) (by omega) (by omega) un' e
  · have nb : ¬ b = 15 := fun y => by
      rw [if_pos y] at v3
      exact c (Int32.toInt_inj.mp (by rw [v3, zm]))
    rw [if_neg nb] at un' v3 ⊢
    replace e := cl_s e; obtain ⟨o5, eo5, e⟩ := e
    obtain ⟨w5, v5⟩ := bec_v P eo5
    rw [if_neg nb] at v5
    rw [w5] at e
    have t5 : ((2 : Int32) * o5.1).toInt = 2 * b := by rw [tm (by rw [z2, v5]; omega), z2, v5]
    have s5 := Wg.2.2.2.2.2.2
    have t6 : (((2 : Int32) * o5.1) + (hI g (V 4) 5)).toInt = 2 * b + sd := by rw [ta (by rw [t5, s5]; omega), t5, s5]
    exact fin (by unfold cdV; omega) (by omega) (by omega) un' e
end
end
section
/-! the class: the nearest man along the rank; shift -/
/-- the first man from s on, along the rank -/
def NrM (L : Nat → Nat → Int) (M : Nat → Int) (s : Nat) (d : Int) (q : Nat) : Prop := ∃ n : Nat, 1 ≤ n ∧ 0 ≤ (s : Int) % L 0 0 + n * d ∧ (s : Int) % L 0 0 + n * d < L 0 0 ∧ (q : Int) = s + n * d ∧ 0 < M q ∧ ∀ i : Nat, 1 ≤ i → i < n → M ((s : Int) + i * d).toNat = 0
def NrN (L : Nat → Nat → Int) (M : Nat → Int) (s : Nat) (d : Int) : Prop := ∀ n : Nat, 1 ≤ n → 0 ≤ (s : Int) % L 0 0 + n * d → (s : Int) % L 0 0 + n * d < L 0 0 → M ((s : Int) + n * d).toNat = 0
theorem on_rk {L : Nat → Nat → Int} {s : Nat} {x : Int} (H : LOk L) (sL : (s : Int) < L 0 0 * L 1 0) (h0 : 0 ≤ (s : Int) % L 0 0 + x) (h1 : (s : Int) % L 0 0 + x < L 0 0) : 0 ≤ (s : Int) + x ∧ (s : Int) + x < L 0 0 * L 1 0 := by
  have fi := H.1
  have hs := Int.mul_ediv_add_emod (s : Int) (L 0 0)
  have d0 : 0 ≤ (s : Int) / L 0 0 := Int.ediv_nonneg (by omega) (by omega)
  have d1 : (s : Int) / L 0 0 < L 1 0 := Int.ediv_lt_of_lt_mul (by omega) (by rw [Int.mul_comm]; exact sL)
  have m0 := Int.mul_nonneg (show 0 ≤ L 0 0 by omega) d0
  have m1 := Int.mul_le_mul_of_nonneg_left (show (s : Int) / L 0 0 + 1 ≤ L 1 0 by omega) (show 0 ≤ L 0 0 by omega)
  rw [Int.mul_add, Int.mul_one] at m1
  omega
theorem nrm_u {L : Nat → Nat → Int} {M : Nat → Int} {s q q' : Nat} {d : Int} (a : NrM L M s d q) (b : NrM L M s d q') : q = q' := by
  obtain ⟨n, n1, _, _, e, m, z⟩ := a
  obtain ⟨n', n1', _, _, e', m', z'⟩ := b
  have key : ∀ {n n' q q' : Nat}, 1 ≤ n → (q : Int) = s + n * d → 0 < M q → (∀ i : Nat, 1 ≤ i → i < n' → M ((s : Int) + i * d).toNat = 0) → ¬ n < n' := fun {n n' q q'} n1 e m z l => by
    have := z n n1 l
    rw [← e, Int.toNat_natCast] at this
    omega
  have k1 := key (q' := q') n1 e m z'
  have k2 := key (q' := q) n1' e' m' z
  have : n = n' := by omega
  rw [this] at e
  omega
section
variable {F : Nat} {V : Nat → Nat} {h : Hp} {L : Nat → Nat → Int} {M : Nat → Int} {o : Int32 × Hp}
theorem nrs_16 {x3 : Int32} {s : Nat} {ro : Int} (H : LOk L) (w0 : hR h (V 6) 0 = some (V 2)) (p0 : hR h (V 4) 0 = some (V 34)) (f0 : (hI h (V 2) 0).toInt = L 0 0) (P : PosC h (V 34) (V 35) (V 36) M ro) (sL : (s : Int) < L 0 0 * L 1 0) (id : x3.toInt = 1 ∨ x3.toInt = -1) : ∀ (f : Nat) {x4 x5 : Int32} {n : Nat}, 1 ≤ n → x4.toInt = (s : Int) + ((n : Int) - 1) * x3.toInt → x5.toInt = (s : Int) % L 0 0 + n * x3.toInt → 0 ≤ (s : Int) % L 0 0 + ((n : Int) - 1) * x3.toInt → (s : Int) % L 0 0 + ((n : Int) - 1) * x3.toInt < L 0 0 → (∀ i : Nat, 1 ≤ i → i < n → M ((s : Int) + i * x3.toInt).toNat = 0) → sX5_nearest_16 F f h (V 6) (V 4) x3 x4 x5 = some o → o.2 = h ∧ ((o.1 = (-1 : Int32) ∧ NrN L M s x3.toInt) ∨ (Rg 0 63 o.1 ∧ NrM L M s x3.toInt o.1.toNatClampNeg)) := by
  have z0 : (0 : Int32).toInt = 0 := rfl
  have zm : (-1 : Int32).toInt = -1 := by decide
  have sq := sq_64 H
  have fi := H.1
  intro f
  induction f with
  | zero => intro x4 x5 n _ _ _ _ _ _ e; exact absurd e (by rw [sX5_nearest_16]; exact fun z => nomatch z)
  | succ f ih =>
    intro x4 x5 n n1 e4 e5 p1 p2 no e
    have sub : ((n : Int) - 1) * x3.toInt = n * x3.toInt - x3.toInt := by rw [Int.sub_mul, Int.one_mul]
    rw [sX5_nearest_16] at e
    unfold sX5_nearest_62 at e
    -- no square more on this rank
    have none : ¬ (0 ≤ (s : Int) % L 0 0 + n * x3.toInt ∧ (s : Int) % L 0 0 + n * x3.toInt < L 0 0) → NrN L M s x3.toInt := fun out i i1 a b => by
      by_cases l : i < n
      · exact no i i1 l
      · exfalso
        apply out
        obtain ⟨j, hj⟩ : ∃ j : Nat, i = n + j := ⟨i - n, by omega⟩
        rw [hj] at a b
        rcases id with y | y
        · rw [y, Int.mul_one] at a b p1 p2 ⊢
          omega
        · rw [y, Int.mul_neg, Int.mul_one] at a b p1 p2 ⊢
          omega
    rcases br_s e with ⟨c, e⟩ | ⟨c, e⟩
    · have c := lt_i c
      rw [z0, e5] at c
      rw [so_e e]
      exact ⟨rfl, Or.inl ⟨rfl, none (by omega)⟩⟩
    have c := nlt_i c
    rw [z0, e5] at c
    replace e := ce_e w0 e
    rcases br_s e with ⟨d, e⟩ | ⟨d, e⟩
    · have d := le_i d
      rw [f0, e5] at d
      rw [so_e e]
      exact ⟨rfl, Or.inl ⟨rfl, none (by omega)⟩⟩
    have d := nle_i d
    rw [f0, e5] at d
    obtain ⟨q0, q1⟩ := on_rk H sL c d
    replace e := nm_s e; obtain ⟨v4, u4, e⟩ := e
    have t4 : v4.toInt = (s : Int) + n * x3.toInt := by
      rw [u4, ta (by rw [e4, sub]; omega), e4, sub]; omega
    have c4 : v4.toNatClampNeg = ((s : Int) + n * x3.toInt).toNat := by have := nc_i (x := v4) (by omega); omega
    replace e := ce_e p0 e
    replace e := gg_e e
    have on := P.1 v4.toNatClampNeg (by omega)
    have rg := P.2.2.2 v4.toNatClampNeg (by omega)
    rcases br_s e with ⟨m, e⟩ | ⟨m, e⟩
    · have mz : M v4.toNatClampNeg = 0 := by rw [m, zm] at on; omega
      replace e := nm_s e; obtain ⟨v8, u8, e⟩ := e
      refine ih (n := n + 1) (by omega) ?_ ?_ ?_ ?_ (fun i i1 l => ?_) e
      · rw [t4]; congr 1; congr 1; omega
      · rw [u8, ta (by rw [e5]; omega), e5, show ((n + 1 : Nat) : Int) = (n : Int) + 1 by omega, Int.add_mul, Int.one_mul]; omega
      · rw [show ((n + 1 : Nat) : Int) - 1 = (n : Int) by omega]; exact c
      · rw [show ((n + 1 : Nat) : Int) - 1 = (n : Int) by omega]; exact d
      · by_cases y : i = n
        · rw [y, ← c4]; exact mz
        · exact no i i1 (by omega)
    · rw [so_e e]
      refine ⟨rfl, Or.inr ⟨⟨by show 0 ≤ v4.toInt; omega, by show v4.toInt ≤ 63; omega⟩, n, n1, c, d, ?_, ?_, no⟩⟩
      · show (v4.toNatClampNeg : Int) = _
        omega
      · show 0 < M v4.toNatClampNeg
        by_cases y : M v4.toNatClampNeg = 0
        · exact absurd (Int32.toInt_inj.mp (by rw [on, y, zm]; rfl)) m
        · omega
theorem near_v {x2 x3 : Int32} {s : Nat} {ro : Int} (H : LOk L) (w0 : hR h (V 6) 0 = some (V 2)) (p0 : hR h (V 4) 0 = some (V 34)) (w19 : hR h (V 2) 19 = some (V 32)) (f0 : (hI h (V 2) 0).toInt = L 0 0) (f32 : (hI h (V 32) s).toInt = (s : Int) % L 0 0) (P : PosC h (V 34) (V 35) (V 36) M ro) (e2 : x2.toInt = (s : Int)) (sL : (s : Int) < L 0 0 * L 1 0) (id : x3.toInt = 1 ∨ x3.toInt = -1) (e : sX5_nearest F h (V 6) (V 4) x2 x3 = some o) : o.2 = h ∧ ((o.1 = (-1 : Int32) ∧ NrN L M s x3.toInt) ∨ (Rg 0 63 o.1 ∧ NrM L M s x3.toInt o.1.toNatClampNeg)) := by
  have fi := H.1
  have sq := sq_64 H
  have c2 : x2.toNatClampNeg = s := by have := nc_i (x := x2) (by omega); omega
  have m0 : 0 ≤ (s : Int) % L 0 0 := Int.emod_nonneg _ (by omega)
  have m1 : (s : Int) % L 0 0 < L 0 0 := Int.emod_lt_of_pos _ (by omega)
  unfold sX5_nearest at e
  replace e := ce_e w0 e
  replace e := ce_e w19 e
  replace e := gg_e e
  replace e := nm_s e; obtain ⟨v4, u4, e⟩ := e
  rw [c2] at u4
  exact nrs_16 H w0 p0 f0 P sL id F (n := 1) (Nat.le_refl _) (by rw [e2]; omega) (by rw [u4, ta (by rw [f32]; omega), f32]; omega) (by omega) (by omega) (fun i a b => by omega) e
end
section
variable {F : Nat} {V : Nat → Nat} {h o : Hp} {L : Nat → Nat → Int} {M : Nat → Int}
/-- PASS is taken, then he goes -/
theorem shc_122 (D : VD V) {x2 x3 x4 x5 x6 : Int32} {sd t s m b a k p : Int} {p0 : Nat} (W : ShW V h L M sd) (P : PkM x2 t s m b a k p) (e3 : x3.toInt = s) (e4 : x4.toInt = t) (e5 : x5.toInt = k) (isd : sd = 0 ∨ sd = 1) (m11 : m ≤ 11) (b11 : b = 15 ∨ b ≤ 11) (e6 : x6.toInt = 2 * m + sd) (rp : k = 1 → p0 < 64 ∧ ∃ n q, Pw (hJ h (V 4) 9) n q ∧ 0 < n ∧ q 0 = p0) (un' : UnM (updM (updM (if k = 1 then updM M p0 0 else M) s.toNat 0) t.toNat (cdV (if b = 15 then m else b) sd)) (L 10 0)) (e : sX5_shift_122 F h (V 6) (V 4) x2 x3 x4 x5 x6 = some o) : FrV V (wl wcM) h o ∧ ShW V o L (updM (updM (if k = 1 then updM M p0 0 else M) s.toNat 0) t.toNat (cdV (if b = 15 then m else b) sd)) sd ∧ ∀ q, bitJ (hJ o (V 4) 7) q = (bitJ (hJ h (V 4) 7) q || ((decide (k = 1) && decide (p0 = q)) || (decide (s.toNat = q) || decide (t.toNat = q)))) := by
  have z0 : (0 : Int32).toInt = 0 := rfl
  have z1 : (1 : Int32).toInt = 1 := rfl
  have zm : (-1 : Int32).toInt = -1 := by decide
  unfold sX5_shift_122 at e
  rcases br_s e with ⟨c, e⟩ | ⟨c, e⟩
  · have k1 : k = 1 := by rw [← e5, c]; rfl
    obtain ⟨p64, n, q, pw, n0, q0⟩ := rp k1
    rw [if_pos k1] at un' ⊢
    replace e := cl_s e; obtain ⟨o2, eo2, e⟩ := e
    obtain ⟨r1, r2⟩ := psq_q eo2 pw (by decide) (by rw [z0]; omega)
    have n00 : (0 : Int32).toNatClampNeg = 0 := rfl
    rw [n00, q0] at r2
    rw [r1] at e
    have c2 : o2.1.toNatClampNeg = p0 := by have := nc_i (x := o2.1) (by omega); omega
    replace e := ce_e W.1 e
    replace e := cl_s e; obtain ⟨g, eg, e⟩ := e
    have m10 : (-1 : Int32).toInt + 1 = 0 := by rw [zm]; rfl
    obtain ⟨A, Wg, tg⟩ := put_s D W (x1 := o2.1) ⟨by omega, by omega⟩ ⟨by decide, by decide⟩ (by rw [m10]; exact un_0 W.2.2.2.1) eg
    rw [m10, c2] at Wg
    rw [c2] at tg
    obtain ⟨A', W', t'⟩ := shc_145 D Wg P e3 e4 isd m11 b11 e6 un' e
    refine ⟨fv_t A A', W', fun q => ?_⟩
    rw [t', tg, decide_eq_true k1, Bool.true_and, Bool.or_assoc]
  · have k1 : ¬ k = 1 := fun y => c (Int32.toInt_inj.mp (by rw [e5, y, z1]))
    rw [if_neg k1] at un' ⊢
    obtain ⟨A', W', t'⟩ := shc_145 D W P e3 e4 isd m11 b11 e6 un' e
    refine ⟨A', W', fun q => ?_⟩
    rw [t', decide_eq_false k1, Bool.false_and, Bool.false_or]
end
end
section
/-! the class: shift whole -/
section
variable {F : Nat} {V : Nat → Nat} {h o : Hp} {L : Nat → Nat → Int} {M : Nat → Int}
/-- the board beside the men, while men are shifted -/
def ShB (V : Nat → Nat) (h : Hp) (L : Nat → Nat → Int) : Prop := hR h (V 2) 19 = some (V 32) ∧ (hI h (V 2) 0).toInt = L 0 0 ∧ ∀ s : Nat, (s : Int) < L 0 0 * L 1 0 → (hI h (V 32) s).toInt = (s : Int) % L 0 0
theorem shb_f (D : VD V) {g : Hp} (B : ShB V h L) (A : FrV V (wl wcM) h g) : ShB V g L := ⟨by rw [A.1]; exact B.1, by rw [fvi D A 2 0]; exact B.2.1, fun s hs => by rw [fvI D A 32 s]; exact B.2.2 s hs⟩
/-- a move that may be made: its squares and men -/
def MvO (L : Nat → Nat → Int) (M : Nat → Int) (p0 : Nat) (sd : Int) (v : MvT) : Prop := (0 ≤ v.2.1 ∧ v.2.1 < L 0 0 * L 1 0) ∧ (0 ≤ v.2.2.1 ∧ v.2.2.1 ≤ 11) ∧ (v.2.2.2.1 = -1 ∨ (0 ≤ v.2.2.2.1 ∧ v.2.2.2.1 ≤ 11 ∧ ¬ v.2.2.2.1 = L 10 0)) ∧ ((v.2.2.2.2.2.1 = 3 ∧ ¬ v.2.2.1 = L 10 0) ∨ ((v.2.2.2.2.2.1 = 0 ∨ v.2.2.2.2.2.1 = 1 ∨ v.2.2.2.2.2.1 = 2) ∧ (0 ≤ v.1 ∧ v.1 < L 0 0 * L 1 0) ∧ M v.1.toNat = cdV v.2.2.1 sd)) ∧ (v.2.2.2.2.2.1 = 1 → p0 < 64) ∧ (v.2.2.2.2.2.1 = 2 → ∃ d : Int, (d = 1 ∨ d = -1) ∧ v.2.1 = v.1 + 2 * d ∧ 0 ≤ v.2.2.2.2.2.2 ∧ NrM L M v.1.toNat d v.2.2.2.2.2.2.toNat ∧ (0 ≤ L 12 0 ∧ L 12 0 ≤ 11) ∧ ¬ L 12 0 = L 10 0 ∧ (0 ≤ v.1 + d ∧ v.1 + d < L 0 0 * L 1 0) ∧ ¬ v.2.2.2.2.2.2.toNat = (v.1 + d).toNat)
theorem r2_sd {m sd : Int} (m0 : 0 ≤ m) (m1 : m ≤ 11) (isd : sd = 0 ∨ sd = 1) : -2147483648 ≤ 2 * m + sd ∧ 2 * m + sd ≤ 2147483647 := by omega
theorem r2_23 {x : Int32} {m sd : Int} (m0 : 0 ≤ m) (m1 : m ≤ 11) (isd : sd = 0 ∨ sd = 1) (e : x.toInt = 2 * m + sd) : Rg (-1) 23 x := ⟨by omega, by omega⟩
theorem cd_ne {m ro sd : Int} (isd : sd = 0 ∨ sd = 1) (n : ¬ m = ro) : ∀ d : Nat, d < 2 → ¬ cdV m sd = 1 + 2 * ro + d := fun d hd z => by
  unfold cdV at z
  omega
/-- behind a shift there is still one ROYAL man a side -/
theorem un_sh {M1 : Nat → Int} {s t : Nat} {m b sd ro : Int} (isd : sd = 0 ∨ sd = 1) (U : UnM M1 ro) (s64 : s < 64) (bn : ¬ b = 15 → ¬ b = ro) (ms : M1 s = cdV m sd) : UnM (updM (updM M1 s 0) t (cdV (if b = 15 then m else b) sd)) ro := by
  by_cases r : 0 ≤ ro
  rotate_left
  · intro r'
    exact absurd r' r
  by_cases c : (if b = 15 then m else b) = ro
  · rw [c]
    have b15 : b = 15 := by
      by_cases y : b = 15
      · exact y
      · rw [if_neg y] at c
        exact absurd c (bn y)
    rw [if_pos b15] at c
    refine un_r (un_0 U) (fun d q hd hq e z => ?_)
    by_cases y : q = s
    · rw [y, upm_s] at z
      unfold cdV at z e
      omega
    · rw [upm_o y] at z
      exact y (U r d q s hd hq s64 (by rw [z, e]) (by rw [ms, c, e]))
  · exact un_o (un_0 U) (cd_ne isd c)
theorem sh_c (D : VD V) {x : Int32} {v : MvT} {sd : Int} {p0 : Nat} (H : LOk L) (HM : MOk L M) (W : ShW V h L M sd) (B : ShB V h L) (isd : sd = 0 ∨ sd = 1) (P : MvC x v) (O : MvO L M p0 sd v) (rp : v.2.2.2.2.2.1 = 1 → ∃ n q, Pw (hJ h (V 4) 9) n q ∧ 0 < n ∧ q 0 = p0) (pM : v.2.2.2.2.2.1 = 1 → ¬ p0 = v.1.toNat) (e : sX5_shift F h (V 6) (V 4) x = some o) : FrV V (wl wcM) h o ∧ ShW V o L (shM M p0 (L 12 0) sd v) sd ∧ ∀ q, q < 64 → (bitJ (hJ o (V 4) 7) q = true ↔ bitJ (hJ h (V 4) 7) q = true ∨ shT p0 v q) := by
  have z1 : (1 : Int32).toInt = 1 := rfl
  have z2 : (2 : Int32).toInt = 2 := rfl
  have z3 : (3 : Int32).toInt = 3 := rfl
  have zm : (-1 : Int32).toInt = -1 := by decide
  have sq := sq_64 H
  obtain ⟨s, t, m, b, a, k, p⟩ := v
  unfold MvC at P
  unfold MvO at O
  dsimp only at P O rp pM ⊢
  obtain ⟨⟨t0, t1⟩, ⟨m0, m1⟩, ob, ok, op, oc⟩ := O
  obtain ⟨ft, fs, fm, _, _, fk, _⟩ := pk_fd P
  unfold sX5_shift sX5_leftBy sX5_comeTo sX5_kindOf sX5_manOf at e
  replace e := cl_s e; obtain ⟨o1, eo1, e⟩ := e
  rw [so_e eo1] at e
  replace e := cl_s e; obtain ⟨o2, eo2, e⟩ := e
  rw [so_e eo2] at e
  replace e := cl_s e; obtain ⟨o3, eo3, e⟩ := e
  rw [so_e eo3] at e
  replace e := cl_s e; obtain ⟨o4, eo4, e⟩ := e
  rw [so_e eo4] at e
  dsimp only at e
  replace e := nm_s e; obtain ⟨v5, u5, e⟩ := e
  have s5 := W.2.2.2.2.2.2
  have t2 : ((2 : Int32) * ((x >>> ((12 : Int32) &&& 31)) &&& (15 : Int32))).toInt = 2 * m := by rw [tm (by rw [z2, fm]; omega), z2, fm]
  have t5 : v5.toInt = 2 * m + sd := by rw [u5, ta (by rw [t2, s5]; exact r2_sd m0 m1 isd), t2, s5]
  generalize (x >>> ((6 : Int32) &&& 31)) &&& (63 : Int32) = X6 at *
  generalize x &&& (63 : Int32) = XT at *
  generalize (x >>> ((24 : Int32) &&& 31)) &&& (3 : Int32) = XK at *
  have cT : XT.toNatClampNeg = t.toNat := by have := nc_i (x := XT) (by omega); omega
  unfold shM shT
  dsimp only
  rcases br_s e with ⟨c, e⟩ | ⟨c, e⟩
  · -- a man out of the hand
    have k3 : k = 3 := by rw [← fk, c]; rfl
    rw [if_pos k3]
    replace e := ce_e W.1 e
    replace e := cl_s e; obtain ⟨g, eg, e⟩ := e
    rw [so_e e]
    have nm3 : ¬ m = L 10 0 := by
      rcases ok with y | ⟨y, _⟩
      · exact y.2
      · omega
    have vv : v5.toInt + 1 = cdV m sd := by unfold cdV; omega
    obtain ⟨A, Wg, tg⟩ := put_s D W (x1 := XT) (x2 := v5) ⟨by omega, by omega⟩ (r2_23 m0 m1 isd t5) (by rw [vv]; exact un_o W.2.2.2.1 (cd_ne isd nm3)) eg
    rw [vv, cT] at Wg
    refine ⟨A, Wg, fun q hq => ?_⟩
    rw [tg, cT, Bool.or_eq_true, decide_eq_true_eq]
    constructor
    · rintro (y | y)
      · exact Or.inl y
      · exact Or.inr (Or.inl y.symm)
    · rintro (y | (y | y | y | y))
      · exact Or.inl y
      · exact Or.inr y.symm
      · exact absurd k3 y.1
      · omega
      · omega
  have k3 : ¬ k = 3 := fun y => c (Int32.toInt_inj.mp (by rw [fk, y, z3]))
  rw [if_neg k3] at P fs ⊢
  obtain ⟨ok1, ⟨s0, s1⟩, ms⟩ : (k = 0 ∨ k = 1 ∨ k = 2) ∧ (0 ≤ s ∧ s < L 0 0 * L 1 0) ∧ M s.toNat = cdV m sd := by
    rcases ok with y | y
    · exact absurd y.1 k3
    · exact y
  have bn : ¬ (if b = -1 then 15 else b) = 15 → ¬ (if b = -1 then 15 else b) = L 10 0 := fun y => by
    rcases ob with z | ⟨_, _, z⟩
    · exact absurd (if_pos z) y
    · by_cases w : b = -1
      · exact absurd (if_pos w) y
      · rw [if_neg w]; exact z
  have b11 : (if b = -1 then (15 : Int) else b) = 15 ∨ (if b = -1 then (15 : Int) else b) ≤ 11 := by
    by_cases w : b = -1
    · rw [if_pos w]; exact Or.inl rfl
    · rw [if_neg w]
      rcases ob with z | z
      · exact absurd z w
      · exact Or.inr z.2.1
  have nw : (if (if b = -1 then (15 : Int) else b) = 15 then m else (if b = -1 then (15 : Int) else b)) = (if b = -1 then m else b) := by
    by_cases w : b = -1
    · rw [if_pos w, if_pos w, if_pos rfl]
    · rw [if_neg w, if_neg w]
      rcases ob with z | z
      · exact absurd z w
      · rw [if_neg (by omega)]
  have c6 : X6.toNatClampNeg = s.toNat := by have := nc_i (x := X6) (by omega); omega
  unfold mdM nwV
  dsimp only
  rcases br_s e with ⟨c2, e⟩ | ⟨c2, e⟩
  rotate_left
  · -- by a STEP
    have k2 : ¬ k = 2 := fun y => c2 (Int32.toInt_inj.mp (by rw [fk, y, z2]))
    rw [if_neg k2]
    have un1 : UnM (if k = 1 then updM M p0 0 else M) (L 10 0) := by
      by_cases y : k = 1
      · rw [if_pos y]; exact un_0 W.2.2.2.1
      · rw [if_neg y]; exact W.2.2.2.1
    have ms1 : (if k = 1 then updM M p0 0 else M) s.toNat = cdV m sd := by
      by_cases y : k = 1
      · rw [if_pos y, upm_o (fun z => pM y z.symm)]; exact ms
      · rw [if_neg y]; exact ms
    obtain ⟨A, W', t'⟩ := shc_122 D W P fs ft fk isd m1 b11 t5 (fun y => ⟨op y, rp y⟩) (un_sh isd un1 (by omega) bn ms1) e
    rw [nw] at W'
    refine ⟨A, W', fun q hq => ?_⟩
    rw [t', Bool.or_eq_true, Bool.or_eq_true, Bool.or_eq_true, Bool.and_eq_true, decide_eq_true_eq, decide_eq_true_eq, decide_eq_true_eq, decide_eq_true_eq]
    constructor
    · rintro (y | (⟨y, y'⟩ | (y | y)))
      · exact Or.inl y
      · exact Or.inr (Or.inr (Or.inr (Or.inl ⟨y, y'.symm⟩)))
      · exact Or.inr (Or.inr (Or.inl ⟨k3, y.symm⟩))
      · exact Or.inr (Or.inl y.symm)
    · rintro (y | (y | y | y | y))
      · exact Or.inl y
      · exact Or.inr (Or.inr (Or.inr y.symm))
      · exact Or.inr (Or.inr (Or.inl y.2.symm))
      · exact Or.inr (Or.inl ⟨y.1, y.2.symm⟩)
      · exact absurd y.1 k2
  · -- castling
    have k2 : k = 2 := by rw [← fk, c2]; rfl
    rw [if_pos k2]
    obtain ⟨d, hd, td', p1, nr, ⟨ca0, ca1⟩, cr, ⟨d0, d1⟩, qd⟩ := oc k2
    have mid : (s + t) / 2 = s + d := by omega
    rw [mid]
    have k72 : ∀ {dd : Int32}, dd.toInt = d → sX5_shift_72 F h (V 6) (V 4) x X6 XT XK v5 dd X6 (V 4) (V 6) = some o → FrV V (wl wcM) h o ∧ ShW V o L (updM (updM (updM (updM M p.toNat 0) (s + d).toNat (cdV (L 12 0) sd)) s.toNat 0) t.toNat (cdV (if b = -1 then m else b) sd)) sd ∧ ∀ q, q < 64 → (bitJ (hJ o (V 4) 7) q = true ↔ bitJ (hJ h (V 4) 7) q = true ∨ (q = t.toNat ∨ (¬ k = 3 ∧ q = s.toNat) ∨ (k = 1 ∧ q = p0) ∨ (k = 2 ∧ (q = p.toNat ∨ q = (s + d).toNat)))) := fun {dd} edd u => by
      unfold sX5_shift_72 at u
      replace u := cl_s u; obtain ⟨o1', en, u⟩ := u
      have sN : ((s.toNat : Nat) : Int) = s := by omega
      obtain ⟨r1, r2⟩ := near_v (s := s.toNat) H W.1 W.2.1.1 B.1 B.2.1 (B.2.2 s.toNat (by omega)) W.2.2.1 (by omega) (by omega) (by rw [edd]; exact hd) en
      rw [edd] at r2
      rw [r1] at u
      have rq : Rg 0 63 o1'.1 ∧ o1'.1.toNatClampNeg = p.toNat := by
        rcases r2 with ⟨_, y⟩ | ⟨y1, y2⟩
        · obtain ⟨n, n1, a1, a2, a3, a4, _⟩ := nr
          have := y n n1 a1 a2
          rw [← a3, Int.toNat_natCast] at this
          omega
        · exact ⟨y1, nrm_u y2 nr⟩
      replace u := ce_e W.1 u
      replace u := cl_s u; obtain ⟨g, eg, u⟩ := u
      have m10 : (-1 : Int32).toInt + 1 = 0 := by rw [zm]; rfl
      obtain ⟨A, Wg, tg⟩ := put_s D W (x1 := o1'.1) rq.1 ⟨by decide, by decide⟩ (by rw [m10]; exact un_0 W.2.2.2.1) eg
      rw [m10, rq.2] at Wg
      rw [rq.2] at tg
      replace u := ce_e Wg.1 u
      replace u := ce_e Wg.1 u
      have r6 := Wg.2.2.2.2.2.1
      have g5 := Wg.2.2.2.2.2.2
      have q2 : ((2 : Int32) * (hI g (V 2) 6)).toInt = 2 * L 12 0 := by rw [tm (by rw [z2, r6]; omega), z2, r6]
      have q3 : (((2 : Int32) * (hI g (V 2) 6)) + (hI g (V 4) 5)).toInt = 2 * L 12 0 + sd := by rw [ta (by rw [q2, g5]; exact r2_sd ca0 ca1 isd), q2, g5]
      have q4 : (X6 + XT).toInt = s + t := by rw [ta (by omega), fs, ft]
      have q5 : ((X6 + XT) >>> ((1 : Int32) &&& 31)).toInt = s + d := by
        have : ((X6 + XT) >>> ((1 : Int32) &&& 31)).toInt = (X6 + XT).toInt / 2 := shr_i 1 (by decide)
        rw [this, q4, ← mid]
      have c5 : ((X6 + XT) >>> ((1 : Int32) &&& 31)).toNatClampNeg = (s + d).toNat := by have := nc_i (x := (X6 + XT) >>> ((1 : Int32) &&& 31)) (by omega); omega
      replace u := cl_s u; obtain ⟨g', eg', u⟩ := u
      have vv : (((2 : Int32) * (hI g (V 2) 6)) + (hI g (V 4) 5)).toInt + 1 = cdV (L 12 0) sd := by unfold cdV; omega
      obtain ⟨A', Wg', tg'⟩ := put_s D Wg (x1 := (X6 + XT) >>> ((1 : Int32) &&& 31)) (x2 := ((2 : Int32) * (hI g (V 2) 6)) + (hI g (V 4) 5)) ⟨by omega, by omega⟩ (r2_23 ca0 ca1 isd q3) (by rw [vv]; exact un_o Wg.2.2.2.1 (cd_ne isd cr)) eg'
      rw [vv, c5] at Wg'
      rw [c5] at tg'
      have k1 : ¬ k = 1 := by omega
      have ms2 : (updM (updM M p.toNat 0) (s + d).toNat (cdV (L 12 0) sd)) s.toNat = cdV m sd := by
        rw [upm_o (by omega)]
        obtain ⟨n, n1, _, _, a3, _⟩ := nr
        rw [upm_o (fun z => by
          rw [← z, sN] at a3
          rcases hd with y | y
          · rw [y, Int.mul_one] at a3; omega
          · rw [y, Int.mul_neg, Int.mul_one] at a3; omega)]
        exact ms
      obtain ⟨A2, W2, t2'⟩ := shc_122 (p0 := p0) D Wg' P fs ft fk isd m1 b11 t5 (fun y => absurd y k1) (by rw [if_neg k1]; exact un_sh isd Wg'.2.2.2.1 (by omega) bn ms2) u
      rw [if_neg k1, nw] at W2
      refine ⟨fv_t A (fv_t A' A2), W2, fun q hq => ?_⟩
      rw [t2', tg', tg, decide_eq_false k1, Bool.false_and, Bool.false_or, Bool.or_eq_true, Bool.or_eq_true, Bool.or_eq_true, Bool.or_eq_true, decide_eq_true_eq, decide_eq_true_eq, decide_eq_true_eq, decide_eq_true_eq]
      constructor
      · rintro (((y | y) | y) | (y | y))
        · exact Or.inl y
        · exact Or.inr (Or.inr (Or.inr (Or.inr ⟨k2, Or.inl y.symm⟩)))
        · exact Or.inr (Or.inr (Or.inr (Or.inr ⟨k2, Or.inr y.symm⟩)))
        · exact Or.inr (Or.inr (Or.inl ⟨k3, y.symm⟩))
        · exact Or.inr (Or.inl y.symm)
      · rintro (y | (y | y | y | ⟨_, y | y⟩))
        · exact Or.inl (Or.inl (Or.inl y))
        · exact Or.inr (Or.inr y.symm)
        · exact Or.inr (Or.inl y.2.symm)
        · exact absurd y.1 k1
        · exact Or.inl (Or.inl (Or.inr y.symm))
        · exact Or.inl (Or.inr y.symm)
    rcases br_s e with ⟨y, e⟩ | ⟨y, e⟩
    · have y := le_i y
      refine k72 ?_ e
      rw [zm]
      rcases hd with w | w <;> omega
    · have y := nle_i y
      refine k72 ?_ e
      rw [z1]
      rcases hd with w | w <;> omega
end
end
