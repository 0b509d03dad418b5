/-! entries of a list of moves of the reference against its board -/
def Ent (F sq : Int) (M H : Nat) (sd : Int32) (h0 : Hp) (f t m k mo : Int32) : Prop :=
  t.toInt < sq ∧ (k.toInt = 3 → 0 < (hI h0 H ((2 : Int32) * m + sd).toNatClampNeg).toInt) ∧ (¬ k.toInt = 3 → 0 ≤ f.toInt ∧ f.toInt < sq ∧ 0 < (hI h0 M f.toNatClampNeg).toInt) ∧ (k.toInt < 2 → 0 < mo.toInt → ¬ t.toInt = f.toInt ∧ WayE F M h0 f.toInt t.toInt mo.toInt)
theorem ent_c {F sq : Int} {M H : Nat} {sd : Int32} {h0 h1 : Hp} {f t m k mo : Int32} (k1 : ∀ j, hI h1 M j = hI h0 M j) (k2 : ∀ j, hI h1 H j = hI h0 H j) (E : Ent F sq M H sd h0 f t m k mo) : Ent F sq M H sd h1 f t m k mo := by
  obtain ⟨a1, a2, a3, a4⟩ := E
  refine ⟨a1, fun q => by rw [k2]; exact a2 q, fun q => by rw [k1]; exact a3 q, fun q p => ⟨(a4 q p).1, ?_⟩⟩
  obtain ⟨dx, dy, b1, b2, b3⟩ := (a4 q p).2
  exact ⟨dx, dy, b1, b2, fun j j1 j2 => by rw [k1]; exact b3 j j1 j2⟩
/-- each move of the list is one of the board's -/
def MvB (x0 b l : Nat) (h : Hp) : Prop := ∀ M H lf lt lm lk lo, hR h b 0 = some M → hR h b 5 = some H → hR h l 1 = some lf → hR h l 2 = some lt → hR h l 3 = some lm → hR h l 6 = some lk → hR h l 7 = some lo → ∀ i : Nat, (i : Int) < (hI h l 0).toInt → Ent (hI h x0 11).toInt (hI h x0 13).toInt M H (hI h b 1) h (hI h lf i) (hI h lt i) (hI h lm i) (hI h lk i) (hI h lo i)
/-- what add and set leave as it is -/
def AFr (ρ : Nat → Nat) (l : Nat) (h o : Hp) : Prop := (∀ a i, hR o a i = hR h a i) ∧ (∀ a, hN o a = hN h a) ∧ ∀ a i, ¬ (66 ≤ ρ a ∧ ρ a ≤ 72) → ¬ (a = l ∧ i = 0) → hI o a i = hI h a i
theorem add_post {ρ : Nat → Nat} {h o : Hp} {l lf lt lm lb lx lk lo : Nat} {f t m bc tk k mo : Int32} (r_l : ρ l = 14) (r_lf : ρ lf = 66) (r_lt : ρ lt = 67) (r_lm : ρ lm = 68) (r_lb : ρ lb = 69) (r_lx : ρ lx = 70) (r_lk : ρ lk = 71) (r_lo : ρ lo = 72) (e_lf : hR h l 1 = some lf) (e_lt : hR h l 2 = some lt) (e_lm : hR h l 3 = some lm) (e_lb : hR h l 4 = some lb) (e_lx : hR h l 5 = some lx) (e_lk : hR h l 6 = some lk) (e_lo : hR h l 7 = some lo) (e : sX13_add h l f t m bc tk k mo = some o) :
    AFr ρ l h o ∧ hI o l 0 = hI h l 0 + (1 : Int32) ∧ ∀ i, hI o lf i = (if i = (hI h l 0).toNatClampNeg then f else hI h lf i) ∧ hI o lt i = (if i = (hI h l 0).toNatClampNeg then t else hI h lt i) ∧ hI o lm i = (if i = (hI h l 0).toNatClampNeg then m else hI h lm i) ∧ hI o lk i = (if i = (hI h l 0).toNatClampNeg then k else hI h lk i) ∧ hI o lo i = (if i = (hI h l 0).toNatClampNeg then mo else hI h lo i) := by
  have n_l_lf : ¬ l = lf := fun q => absurd (q ▸ r_l) (by rw [r_lf]; decide)
  have n_l_lt : ¬ l = lt := fun q => absurd (q ▸ r_l) (by rw [r_lt]; decide)
  have n_l_lm : ¬ l = lm := fun q => absurd (q ▸ r_l) (by rw [r_lm]; decide)
  have n_l_lb : ¬ l = lb := fun q => absurd (q ▸ r_l) (by rw [r_lb]; decide)
  have n_l_lx : ¬ l = lx := fun q => absurd (q ▸ r_l) (by rw [r_lx]; decide)
  have n_l_lk : ¬ l = lk := fun q => absurd (q ▸ r_l) (by rw [r_lk]; decide)
  have n_l_lo : ¬ l = lo := fun q => absurd (q ▸ r_l) (by rw [r_lo]; decide)
  have n_lf_l : ¬ lf = l := fun q => absurd (q ▸ r_lf) (by rw [r_l]; decide)
  have n_lf_lt : ¬ lf = lt := fun q => absurd (q ▸ r_lf) (by rw [r_lt]; decide)
  have n_lf_lm : ¬ lf = lm := fun q => absurd (q ▸ r_lf) (by rw [r_lm]; decide)
  have n_lf_lb : ¬ lf = lb := fun q => absurd (q ▸ r_lf) (by rw [r_lb]; decide)
  have n_lf_lx : ¬ lf = lx := fun q => absurd (q ▸ r_lf) (by rw [r_lx]; decide)
  have n_lf_lk : ¬ lf = lk := fun q => absurd (q ▸ r_lf) (by rw [r_lk]; decide)
  have n_lf_lo : ¬ lf = lo := fun q => absurd (q ▸ r_lf) (by rw [r_lo]; decide)
  have n_lt_l : ¬ lt = l := fun q => absurd (q ▸ r_lt) (by rw [r_l]; decide)
  have n_lt_lf : ¬ lt = lf := fun q => absurd (q ▸ r_lt) (by rw [r_lf]; decide)
  have n_lt_lm : ¬ lt = lm := fun q => absurd (q ▸ r_lt) (by rw [r_lm]; decide)
  have n_lt_lb : ¬ lt = lb := fun q => absurd (q ▸ r_lt) (by rw [r_lb]; decide)
  have n_lt_lx : ¬ lt = lx := fun q => absurd (q ▸ r_lt) (by rw [r_lx]; decide)
  have n_lt_lk : ¬ lt = lk := fun q => absurd (q ▸ r_lt) (by rw [r_lk]; decide)
  have n_lt_lo : ¬ lt = lo := fun q => absurd (q ▸ r_lt) (by rw [r_lo]; decide)
  have n_lm_l : ¬ lm = l := fun q => absurd (q ▸ r_lm) (by rw [r_l]; decide)
  have n_lm_lf : ¬ lm = lf := fun q => absurd (q ▸ r_lm) (by rw [r_lf]; decide)
  have n_lm_lt : ¬ lm = lt := fun q => absurd (q ▸ r_lm) (by rw [r_lt]; decide)
  have n_lm_lb : ¬ lm = lb := fun q => absurd (q ▸ r_lm) (by rw [r_lb]; decide)
  have n_lm_lx : ¬ lm = lx := fun q => absurd (q ▸ r_lm) (by rw [r_lx]; decide)
  have n_lm_lk : ¬ lm = lk := fun q => absurd (q ▸ r_lm) (by rw [r_lk]; decide)
  have n_lm_lo : ¬ lm = lo := fun q => absurd (q ▸ r_lm) (by rw [r_lo]; decide)
  have n_lb_l : ¬ lb = l := fun q => absurd (q ▸ r_lb) (by rw [r_l]; decide)
  have n_lb_lf : ¬ lb = lf := fun q => absurd (q ▸ r_lb) (by rw [r_lf]; decide)
  have n_lb_lt : ¬ lb = lt := fun q => absurd (q ▸ r_lb) (by rw [r_lt]; decide)
  have n_lb_lm : ¬ lb = lm := fun q => absurd (q ▸ r_lb) (by rw [r_lm]; decide)
  have n_lb_lx : ¬ lb = lx := fun q => absurd (q ▸ r_lb) (by rw [r_lx]; decide)
  have n_lb_lk : ¬ lb = lk := fun q => absurd (q ▸ r_lb) (by rw [r_lk]; decide)
  have n_lb_lo : ¬ lb = lo := fun q => absurd (q ▸ r_lb) (by rw [r_lo]; decide)
  have n_lx_l : ¬ lx = l := fun q => absurd (q ▸ r_lx) (by rw [r_l]; decide)
  have n_lx_lf : ¬ lx = lf := fun q => absurd (q ▸ r_lx) (by rw [r_lf]; decide)
  have n_lx_lt : ¬ lx = lt := fun q => absurd (q ▸ r_lx) (by rw [r_lt]; decide)
  have n_lx_lm : ¬ lx = lm := fun q => absurd (q ▸ r_lx) (by rw [r_lm]; decide)
  have n_lx_lb : ¬ lx = lb := fun q => absurd (q ▸ r_lx) (by rw [r_lb]; decide)
  have n_lx_lk : ¬ lx = lk := fun q => absurd (q ▸ r_lx) (by rw [r_lk]; decide)
  have n_lx_lo : ¬ lx = lo := fun q => absurd (q ▸ r_lx) (by rw [r_lo]; decide)
  have n_lk_l : ¬ lk = l := fun q => absurd (q ▸ r_lk) (by rw [r_l]; decide)
  have n_lk_lf : ¬ lk = lf := fun q => absurd (q ▸ r_lk) (by rw [r_lf]; decide)
  have n_lk_lt : ¬ lk = lt := fun q => absurd (q ▸ r_lk) (by rw [r_lt]; decide)
  have n_lk_lm : ¬ lk = lm := fun q => absurd (q ▸ r_lk) (by rw [r_lm]; decide)
  have n_lk_lb : ¬ lk = lb := fun q => absurd (q ▸ r_lk) (by rw [r_lb]; decide)
  have n_lk_lx : ¬ lk = lx := fun q => absurd (q ▸ r_lk) (by rw [r_lx]; decide)
  have n_lk_lo : ¬ lk = lo := fun q => absurd (q ▸ r_lk) (by rw [r_lo]; decide)
  have n_lo_l : ¬ lo = l := fun q => absurd (q ▸ r_lo) (by rw [r_l]; decide)
  have n_lo_lf : ¬ lo = lf := fun q => absurd (q ▸ r_lo) (by rw [r_lf]; decide)
  have n_lo_lt : ¬ lo = lt := fun q => absurd (q ▸ r_lo) (by rw [r_lt]; decide)
  have n_lo_lm : ¬ lo = lm := fun q => absurd (q ▸ r_lo) (by rw [r_lm]; decide)
  have n_lo_lb : ¬ lo = lb := fun q => absurd (q ▸ r_lo) (by rw [r_lb]; decide)
  have n_lo_lx : ¬ lo = lx := fun q => absurd (q ▸ r_lo) (by rw [r_lx]; decide)
  have n_lo_lk : ¬ lo = lk := fun q => absurd (q ▸ r_lo) (by rw [r_lk]; decide)
  unfold sX13_add at e
  simp only [nm] at e
  replace e := cl_s e; obtain ⟨q_lf, w_lf, e⟩ := e
  replace w_lf : hR h l 1 = some q_lf := w_lf
  have := r_eq e_lf w_lf
  subst this
  replace e := (gd_s e).2
  replace e := cl_s e; obtain ⟨q_lt, w_lt, e⟩ := e
  replace w_lt : hR h l 2 = some q_lt := w_lt
  have := r_eq e_lt w_lt
  subst this
  replace e := (gd_s e).2
  replace e := cl_s e; obtain ⟨q_lm, w_lm, e⟩ := e
  replace w_lm : hR h l 3 = some q_lm := w_lm
  have := r_eq e_lm w_lm
  subst this
  replace e := (gd_s e).2
  replace e := cl_s e; obtain ⟨q_lb, w_lb, e⟩ := e
  replace w_lb : hR h l 4 = some q_lb := w_lb
  have := r_eq e_lb w_lb
  subst this
  replace e := (gd_s e).2
  replace e := cl_s e; obtain ⟨q_lx, w_lx, e⟩ := e
  replace w_lx : hR h l 5 = some q_lx := w_lx
  have := r_eq e_lx w_lx
  subst this
  replace e := (gd_s e).2
  replace e := cl_s e; obtain ⟨q_lk, w_lk, e⟩ := e
  replace w_lk : hR h l 6 = some q_lk := w_lk
  have := r_eq e_lk w_lk
  subst this
  replace e := (gd_s e).2
  replace e := cl_s e; obtain ⟨q_lo, w_lo, e⟩ := e
  replace w_lo : hR h l 7 = some q_lo := w_lo
  have := r_eq e_lo w_lo
  subst this
  replace e := (gd_s e).2
  have e := Option.some.inj e
  subst e
  refine ⟨⟨fun _ _ => rfl, fun _ => rfl, fun a i n1 n2 => ?_⟩, ?_, fun i => ⟨?_, ?_, ?_, ?_, ?_⟩⟩
  · have a_lf : ¬ a = q_lf := fun q => n1 (by rw [q, r_lf]; decide)
    have a_lt : ¬ a = q_lt := fun q => n1 (by rw [q, r_lt]; decide)
    have a_lm : ¬ a = q_lm := fun q => n1 (by rw [q, r_lm]; decide)
    have a_lb : ¬ a = q_lb := fun q => n1 (by rw [q, r_lb]; decide)
    have a_lx : ¬ a = q_lx := fun q => n1 (by rw [q, r_lx]; decide)
    have a_lk : ¬ a = q_lk := fun q => n1 (by rw [q, r_lk]; decide)
    have a_lo : ¬ a = q_lo := fun q => n1 (by rw [q, r_lo]; decide)
    have n2' : ¬ (a = l ∧ i = 0) := n2
    simp only [r_I, a_lf, a_lt, a_lm, a_lb, a_lx, a_lk, a_lo, n2', false_and, if_false]
  · simp [r_I, n_l_lf, n_l_lt, n_l_lm, n_l_lb, n_l_lx, n_l_lk, n_l_lo, n_lf_l, n_lf_lt, n_lf_lm, n_lf_lb, n_lf_lx, n_lf_lk, n_lf_lo, n_lt_l, n_lt_lf, n_lt_lm, n_lt_lb, n_lt_lx, n_lt_lk, n_lt_lo, n_lm_l, n_lm_lf, n_lm_lt, n_lm_lb, n_lm_lx, n_lm_lk, n_lm_lo, n_lb_l, n_lb_lf, n_lb_lt, n_lb_lm, n_lb_lx, n_lb_lk, n_lb_lo, n_lx_l, n_lx_lf, n_lx_lt, n_lx_lm, n_lx_lb, n_lx_lk, n_lx_lo, n_lk_l, n_lk_lf, n_lk_lt, n_lk_lm, n_lk_lb, n_lk_lx, n_lk_lo, n_lo_l, n_lo_lf, n_lo_lt, n_lo_lm, n_lo_lb, n_lo_lx, n_lo_lk]
  · simp [r_I, n_l_lf, n_l_lt, n_l_lm, n_l_lb, n_l_lx, n_l_lk, n_l_lo, n_lf_l, n_lf_lt, n_lf_lm, n_lf_lb, n_lf_lx, n_lf_lk, n_lf_lo, n_lt_l, n_lt_lf, n_lt_lm, n_lt_lb, n_lt_lx, n_lt_lk, n_lt_lo, n_lm_l, n_lm_lf, n_lm_lt, n_lm_lb, n_lm_lx, n_lm_lk, n_lm_lo, n_lb_l, n_lb_lf, n_lb_lt, n_lb_lm, n_lb_lx, n_lb_lk, n_lb_lo, n_lx_l, n_lx_lf, n_lx_lt, n_lx_lm, n_lx_lb, n_lx_lk, n_lx_lo, n_lk_l, n_lk_lf, n_lk_lt, n_lk_lm, n_lk_lb, n_lk_lx, n_lk_lo, n_lo_l, n_lo_lf, n_lo_lt, n_lo_lm, n_lo_lb, n_lo_lx, n_lo_lk]
  · simp [r_I, n_l_lf, n_l_lt, n_l_lm, n_l_lb, n_l_lx, n_l_lk, n_l_lo, n_lf_l, n_lf_lt, n_lf_lm, n_lf_lb, n_lf_lx, n_lf_lk, n_lf_lo, n_lt_l, n_lt_lf, n_lt_lm, n_lt_lb, n_lt_lx, n_lt_lk, n_lt_lo, n_lm_l, n_lm_lf, n_lm_lt, n_lm_lb, n_lm_lx, n_lm_lk, n_lm_lo, n_lb_l, n_lb_lf, n_lb_lt, n_lb_lm, n_lb_lx, n_lb_lk, n_lb_lo, n_lx_l, n_lx_lf, n_lx_lt, n_lx_lm, n_lx_lb, n_lx_lk, n_lx_lo, n_lk_l, n_lk_lf, n_lk_lt, n_lk_lm, n_lk_lb, n_lk_lx, n_lk_lo, n_lo_l, n_lo_lf, n_lo_lt, n_lo_lm, n_lo_lb, n_lo_lx, n_lo_lk]
  · simp [r_I, n_l_lf, n_l_lt, n_l_lm, n_l_lb, n_l_lx, n_l_lk, n_l_lo, n_lf_l, n_lf_lt, n_lf_lm, n_lf_lb, n_lf_lx, n_lf_lk, n_lf_lo, n_lt_l, n_lt_lf, n_lt_lm, n_lt_lb, n_lt_lx, n_lt_lk, n_lt_lo, n_lm_l, n_lm_lf, n_lm_lt, n_lm_lb, n_lm_lx, n_lm_lk, n_lm_lo, n_lb_l, n_lb_lf, n_lb_lt, n_lb_lm, n_lb_lx, n_lb_lk, n_lb_lo, n_lx_l, n_lx_lf, n_lx_lt, n_lx_lm, n_lx_lb, n_lx_lk, n_lx_lo, n_lk_l, n_lk_lf, n_lk_lt, n_lk_lm, n_lk_lb, n_lk_lx, n_lk_lo, n_lo_l, n_lo_lf, n_lo_lt, n_lo_lm, n_lo_lb, n_lo_lx, n_lo_lk]
  · simp [r_I, n_l_lf, n_l_lt, n_l_lm, n_l_lb, n_l_lx, n_l_lk, n_l_lo, n_lf_l, n_lf_lt, n_lf_lm, n_lf_lb, n_lf_lx, n_lf_lk, n_lf_lo, n_lt_l, n_lt_lf, n_lt_lm, n_lt_lb, n_lt_lx, n_lt_lk, n_lt_lo, n_lm_l, n_lm_lf, n_lm_lt, n_lm_lb, n_lm_lx, n_lm_lk, n_lm_lo, n_lb_l, n_lb_lf, n_lb_lt, n_lb_lm, n_lb_lx, n_lb_lk, n_lb_lo, n_lx_l, n_lx_lf, n_lx_lt, n_lx_lm, n_lx_lb, n_lx_lk, n_lx_lo, n_lk_l, n_lk_lf, n_lk_lt, n_lk_lm, n_lk_lb, n_lk_lx, n_lk_lo, n_lo_l, n_lo_lf, n_lo_lt, n_lo_lm, n_lo_lb, n_lo_lx, n_lo_lk]
  · simp [r_I, n_l_lf, n_l_lt, n_l_lm, n_l_lb, n_l_lx, n_l_lk, n_l_lo, n_lf_l, n_lf_lt, n_lf_lm, n_lf_lb, n_lf_lx, n_lf_lk, n_lf_lo, n_lt_l, n_lt_lf, n_lt_lm, n_lt_lb, n_lt_lx, n_lt_lk, n_lt_lo, n_lm_l, n_lm_lf, n_lm_lt, n_lm_lb, n_lm_lx, n_lm_lk, n_lm_lo, n_lb_l, n_lb_lf, n_lb_lt, n_lb_lm, n_lb_lx, n_lb_lk, n_lb_lo, n_lx_l, n_lx_lf, n_lx_lt, n_lx_lm, n_lx_lb, n_lx_lk, n_lx_lo, n_lk_l, n_lk_lf, n_lk_lt, n_lk_lm, n_lk_lb, n_lk_lx, n_lk_lo, n_lo_l, n_lo_lf, n_lo_lt, n_lo_lm, n_lo_lb, n_lo_lx, n_lo_lk]
theorem set_post {ρ : Nat → Nat} {h o : Hp} {l lf lt lm lb lx lk lo : Nat} {x y : Int32} (r_l : ρ l = 14) (r_lf : ρ lf = 66) (r_lt : ρ lt = 67) (r_lm : ρ lm = 68) (r_lb : ρ lb = 69) (r_lx : ρ lx = 70) (r_lk : ρ lk = 71) (r_lo : ρ lo = 72) (e_lf : hR h l 1 = some lf) (e_lt : hR h l 2 = some lt) (e_lm : hR h l 3 = some lm) (e_lb : hR h l 4 = some lb) (e_lx : hR h l 5 = some lx) (e_lk : hR h l 6 = some lk) (e_lo : hR h l 7 = some lo) (e : sX13_set h l x l y = some o) :
    AFr ρ l h o ∧ hI o l 0 = hI h l 0 ∧ ∀ i, hI o lf i = (if i = x.toNatClampNeg then hI h lf y.toNatClampNeg else hI h lf i) ∧ hI o lt i = (if i = x.toNatClampNeg then hI h lt y.toNatClampNeg else hI h lt i) ∧ hI o lm i = (if i = x.toNatClampNeg then hI h lm y.toNatClampNeg else hI h lm i) ∧ hI o lk i = (if i = x.toNatClampNeg then hI h lk y.toNatClampNeg else hI h lk i) ∧ hI o lo i = (if i = x.toNatClampNeg then hI h lo y.toNatClampNeg else hI h lo i) := by
  have n_l_lf : ¬ l = lf := fun q => absurd (q ▸ r_l) (by rw [r_lf]; decide)
  have n_l_lt : ¬ l = lt := fun q => absurd (q ▸ r_l) (by rw [r_lt]; decide)
  have n_l_lm : ¬ l = lm := fun q => absurd (q ▸ r_l) (by rw [r_lm]; decide)
  have n_l_lb : ¬ l = lb := fun q => absurd (q ▸ r_l) (by rw [r_lb]; decide)
  have n_l_lx : ¬ l = lx := fun q => absurd (q ▸ r_l) (by rw [r_lx]; decide)
  have n_l_lk : ¬ l = lk := fun q => absurd (q ▸ r_l) (by rw [r_lk]; decide)
  have n_l_lo : ¬ l = lo := fun q => absurd (q ▸ r_l) (by rw [r_lo]; decide)
  have n_lf_l : ¬ lf = l := fun q => absurd (q ▸ r_lf) (by rw [r_l]; decide)
  have n_lf_lt : ¬ lf = lt := fun q => absurd (q ▸ r_lf) (by rw [r_lt]; decide)
  have n_lf_lm : ¬ lf = lm := fun q => absurd (q ▸ r_lf) (by rw [r_lm]; decide)
  have n_lf_lb : ¬ lf = lb := fun q => absurd (q ▸ r_lf) (by rw [r_lb]; decide)
  have n_lf_lx : ¬ lf = lx := fun q => absurd (q ▸ r_lf) (by rw [r_lx]; decide)
  have n_lf_lk : ¬ lf = lk := fun q => absurd (q ▸ r_lf) (by rw [r_lk]; decide)
  have n_lf_lo : ¬ lf = lo := fun q => absurd (q ▸ r_lf) (by rw [r_lo]; decide)
  have n_lt_l : ¬ lt = l := fun q => absurd (q ▸ r_lt) (by rw [r_l]; decide)
  have n_lt_lf : ¬ lt = lf := fun q => absurd (q ▸ r_lt) (by rw [r_lf]; decide)
  have n_lt_lm : ¬ lt = lm := fun q => absurd (q ▸ r_lt) (by rw [r_lm]; decide)
  have n_lt_lb : ¬ lt = lb := fun q => absurd (q ▸ r_lt) (by rw [r_lb]; decide)
  have n_lt_lx : ¬ lt = lx := fun q => absurd (q ▸ r_lt) (by rw [r_lx]; decide)
  have n_lt_lk : ¬ lt = lk := fun q => absurd (q ▸ r_lt) (by rw [r_lk]; decide)
  have n_lt_lo : ¬ lt = lo := fun q => absurd (q ▸ r_lt) (by rw [r_lo]; decide)
  have n_lm_l : ¬ lm = l := fun q => absurd (q ▸ r_lm) (by rw [r_l]; decide)
  have n_lm_lf : ¬ lm = lf := fun q => absurd (q ▸ r_lm) (by rw [r_lf]; decide)
  have n_lm_lt : ¬ lm = lt := fun q => absurd (q ▸ r_lm) (by rw [r_lt]; decide)
  have n_lm_lb : ¬ lm = lb := fun q => absurd (q ▸ r_lm) (by rw [r_lb]; decide)
  have n_lm_lx : ¬ lm = lx := fun q => absurd (q ▸ r_lm) (by rw [r_lx]; decide)
  have n_lm_lk : ¬ lm = lk := fun q => absurd (q ▸ r_lm) (by rw [r_lk]; decide)
  have n_lm_lo : ¬ lm = lo := fun q => absurd (q ▸ r_lm) (by rw [r_lo]; decide)
  have n_lb_l : ¬ lb = l := fun q => absurd (q ▸ r_lb) (by rw [r_l]; decide)
  have n_lb_lf : ¬ lb = lf := fun q => absurd (q ▸ r_lb) (by rw [r_lf]; decide)
  have n_lb_lt : ¬ lb = lt := fun q => absurd (q ▸ r_lb) (by rw [r_lt]; decide)
  have n_lb_lm : ¬ lb = lm := fun q => absurd (q ▸ r_lb) (by rw [r_lm]; decide)
  have n_lb_lx : ¬ lb = lx := fun q => absurd (q ▸ r_lb) (by rw [r_lx]; decide)
  have n_lb_lk : ¬ lb = lk := fun q => absurd (q ▸ r_lb) (by rw [r_lk]; decide)
  have n_lb_lo : ¬ lb = lo := fun q => absurd (q ▸ r_lb) (by rw [r_lo]; decide)
  have n_lx_l : ¬ lx = l := fun q => absurd (q ▸ r_lx) (by rw [r_l]; decide)
  have n_lx_lf : ¬ lx = lf := fun q => absurd (q ▸ r_lx) (by rw [r_lf]; decide)
  have n_lx_lt : ¬ lx = lt := fun q => absurd (q ▸ r_lx) (by rw [r_lt]; decide)
  have n_lx_lm : ¬ lx = lm := fun q => absurd (q ▸ r_lx) (by rw [r_lm]; decide)
  have n_lx_lb : ¬ lx = lb := fun q => absurd (q ▸ r_lx) (by rw [r_lb]; decide)
  have n_lx_lk : ¬ lx = lk := fun q => absurd (q ▸ r_lx) (by rw [r_lk]; decide)
  have n_lx_lo : ¬ lx = lo := fun q => absurd (q ▸ r_lx) (by rw [r_lo]; decide)
  have n_lk_l : ¬ lk = l := fun q => absurd (q ▸ r_lk) (by rw [r_l]; decide)
  have n_lk_lf : ¬ lk = lf := fun q => absurd (q ▸ r_lk) (by rw [r_lf]; decide)
  have n_lk_lt : ¬ lk = lt := fun q => absurd (q ▸ r_lk) (by rw [r_lt]; decide)
  have n_lk_lm : ¬ lk = lm := fun q => absurd (q ▸ r_lk) (by rw [r_lm]; decide)
  have n_lk_lb : ¬ lk = lb := fun q => absurd (q ▸ r_lk) (by rw [r_lb]; decide)
  have n_lk_lx : ¬ lk = lx := fun q => absurd (q ▸ r_lk) (by rw [r_lx]; decide)
  have n_lk_lo : ¬ lk = lo := fun q => absurd (q ▸ r_lk) (by rw [r_lo]; decide)
  have n_lo_l : ¬ lo = l := fun q => absurd (q ▸ r_lo) (by rw [r_l]; decide)
  have n_lo_lf : ¬ lo = lf := fun q => absurd (q ▸ r_lo) (by rw [r_lf]; decide)
  have n_lo_lt : ¬ lo = lt := fun q => absurd (q ▸ r_lo) (by rw [r_lt]; decide)
  have n_lo_lm : ¬ lo = lm := fun q => absurd (q ▸ r_lo) (by rw [r_lm]; decide)
  have n_lo_lb : ¬ lo = lb := fun q => absurd (q ▸ r_lo) (by rw [r_lb]; decide)
  have n_lo_lx : ¬ lo = lx := fun q => absurd (q ▸ r_lo) (by rw [r_lx]; decide)
  have n_lo_lk : ¬ lo = lk := fun q => absurd (q ▸ r_lo) (by rw [r_lk]; decide)
  unfold sX13_set at e
  simp only [nm] at e
  replace e := cl_s e; obtain ⟨q_lf, w_lf, e⟩ := e
  replace w_lf : hR h l 1 = some q_lf := w_lf
  have := r_eq e_lf w_lf
  subst this
  replace e := cl_s e; obtain ⟨p_lf, w2_lf, e⟩ := e
  replace w2_lf : hR h l 1 = some p_lf := w2_lf
  have := r_eq w_lf w2_lf
  subst this
  replace e := (gd_s e).2
  replace e := (gd_s e).2
  replace e := cl_s e; obtain ⟨q_lt, w_lt, e⟩ := e
  replace w_lt : hR h l 2 = some q_lt := w_lt
  have := r_eq e_lt w_lt
  subst this
  replace e := cl_s e; obtain ⟨p_lt, w2_lt, e⟩ := e
  replace w2_lt : hR h l 2 = some p_lt := w2_lt
  have := r_eq w_lt w2_lt
  subst this
  replace e := (gd_s e).2
  replace e := (gd_s e).2
  replace e := cl_s e; obtain ⟨q_lm, w_lm, e⟩ := e
  replace w_lm : hR h l 3 = some q_lm := w_lm
  have := r_eq e_lm w_lm
  subst this
  replace e := cl_s e; obtain ⟨p_lm, w2_lm, e⟩ := e
  replace w2_lm : hR h l 3 = some p_lm := w2_lm
  have := r_eq w_lm w2_lm
  subst this
  replace e := (gd_s e).2
  replace e := (gd_s e).2
  replace e := cl_s e; obtain ⟨q_lb, w_lb, e⟩ := e
  replace w_lb : hR h l 4 = some q_lb := w_lb
  have := r_eq e_lb w_lb
  subst this
  replace e := cl_s e; obtain ⟨p_lb, w2_lb, e⟩ := e
  replace w2_lb : hR h l 4 = some p_lb := w2_lb
  have := r_eq w_lb w2_lb
  subst this
  replace e := (gd_s e).2
  replace e := (gd_s e).2
  replace e := cl_s e; obtain ⟨q_lx, w_lx, e⟩ := e
  replace w_lx : hR h l 5 = some q_lx := w_lx
  have := r_eq e_lx w_lx
  subst this
  replace e := cl_s e; obtain ⟨p_lx, w2_lx, e⟩ := e
  replace w2_lx : hR h l 5 = some p_lx := w2_lx
  have := r_eq w_lx w2_lx
  subst this
  replace e := (gd_s e).2
  replace e := (gd_s e).2
  replace e := cl_s e; obtain ⟨q_lk, w_lk, e⟩ := e
  replace w_lk : hR h l 6 = some q_lk := w_lk
  have := r_eq e_lk w_lk
  subst this
  replace e := cl_s e; obtain ⟨p_lk, w2_lk, e⟩ := e
  replace w2_lk : hR h l 6 = some p_lk := w2_lk
  have := r_eq w_lk w2_lk
  subst this
  replace e := (gd_s e).2
  replace e := (gd_s e).2
  replace e := cl_s e; obtain ⟨q_lo, w_lo, e⟩ := e
  replace w_lo : hR h l 7 = some q_lo := w_lo
  have := r_eq e_lo w_lo
  subst this
  replace e := cl_s e; obtain ⟨p_lo, w2_lo, e⟩ := e
  replace w2_lo : hR h l 7 = some p_lo := w2_lo
  have := r_eq w_lo w2_lo
  subst this
  replace e := (gd_s e).2
  replace e := (gd_s e).2
  have e := Option.some.inj e
  subst e
  refine ⟨⟨fun _ _ => rfl, fun _ => rfl, fun a i n1 n2 => ?_⟩, ?_, fun i => ⟨?_, ?_, ?_, ?_, ?_⟩⟩
  · have a_lf : ¬ a = p_lf := fun q => n1 (by rw [q, r_lf]; decide)
    have a_lt : ¬ a = p_lt := fun q => n1 (by rw [q, r_lt]; decide)
    have a_lm : ¬ a = p_lm := fun q => n1 (by rw [q, r_lm]; decide)
    have a_lb : ¬ a = p_lb := fun q => n1 (by rw [q, r_lb]; decide)
    have a_lx : ¬ a = p_lx := fun q => n1 (by rw [q, r_lx]; decide)
    have a_lk : ¬ a = p_lk := fun q => n1 (by rw [q, r_lk]; decide)
    have a_lo : ¬ a = p_lo := fun q => n1 (by rw [q, r_lo]; decide)
    simp only [r_I, a_lf, a_lt, a_lm, a_lb, a_lx, a_lk, a_lo, false_and, if_false]
  · simp [r_I, n_l_lf, n_l_lt, n_l_lm, n_l_lb, n_l_lx, n_l_lk, n_l_lo, n_lf_l, n_lf_lt, n_lf_lm, n_lf_lb, n_lf_lx, n_lf_lk, n_lf_lo, n_lt_l, n_lt_lf, n_lt_lm, n_lt_lb, n_lt_lx, n_lt_lk, n_lt_lo, n_lm_l, n_lm_lf, n_lm_lt, n_lm_lb, n_lm_lx, n_lm_lk, n_lm_lo, n_lb_l, n_lb_lf, n_lb_lt, n_lb_lm, n_lb_lx, n_lb_lk, n_lb_lo, n_lx_l, n_lx_lf, n_lx_lt, n_lx_lm, n_lx_lb, n_lx_lk, n_lx_lo, n_lk_l, n_lk_lf, n_lk_lt, n_lk_lm, n_lk_lb, n_lk_lx, n_lk_lo, n_lo_l, n_lo_lf, n_lo_lt, n_lo_lm, n_lo_lb, n_lo_lx, n_lo_lk]
  · simp [r_I, n_l_lf, n_l_lt, n_l_lm, n_l_lb, n_l_lx, n_l_lk, n_l_lo, n_lf_l, n_lf_lt, n_lf_lm, n_lf_lb, n_lf_lx, n_lf_lk, n_lf_lo, n_lt_l, n_lt_lf, n_lt_lm, n_lt_lb, n_lt_lx, n_lt_lk, n_lt_lo, n_lm_l, n_lm_lf, n_lm_lt, n_lm_lb, n_lm_lx, n_lm_lk, n_lm_lo, n_lb_l, n_lb_lf, n_lb_lt, n_lb_lm, n_lb_lx, n_lb_lk, n_lb_lo, n_lx_l, n_lx_lf, n_lx_lt, n_lx_lm, n_lx_lb, n_lx_lk, n_lx_lo, n_lk_l, n_lk_lf, n_lk_lt, n_lk_lm, n_lk_lb, n_lk_lx, n_lk_lo, n_lo_l, n_lo_lf, n_lo_lt, n_lo_lm, n_lo_lb, n_lo_lx, n_lo_lk]
  · simp [r_I, n_l_lf, n_l_lt, n_l_lm, n_l_lb, n_l_lx, n_l_lk, n_l_lo, n_lf_l, n_lf_lt, n_lf_lm, n_lf_lb, n_lf_lx, n_lf_lk, n_lf_lo, n_lt_l, n_lt_lf, n_lt_lm, n_lt_lb, n_lt_lx, n_lt_lk, n_lt_lo, n_lm_l, n_lm_lf, n_lm_lt, n_lm_lb, n_lm_lx, n_lm_lk, n_lm_lo, n_lb_l, n_lb_lf, n_lb_lt, n_lb_lm, n_lb_lx, n_lb_lk, n_lb_lo, n_lx_l, n_lx_lf, n_lx_lt, n_lx_lm, n_lx_lb, n_lx_lk, n_lx_lo, n_lk_l, n_lk_lf, n_lk_lt, n_lk_lm, n_lk_lb, n_lk_lx, n_lk_lo, n_lo_l, n_lo_lf, n_lo_lt, n_lo_lm, n_lo_lb, n_lo_lx, n_lo_lk]
  · simp [r_I, n_l_lf, n_l_lt, n_l_lm, n_l_lb, n_l_lx, n_l_lk, n_l_lo, n_lf_l, n_lf_lt, n_lf_lm, n_lf_lb, n_lf_lx, n_lf_lk, n_lf_lo, n_lt_l, n_lt_lf, n_lt_lm, n_lt_lb, n_lt_lx, n_lt_lk, n_lt_lo, n_lm_l, n_lm_lf, n_lm_lt, n_lm_lb, n_lm_lx, n_lm_lk, n_lm_lo, n_lb_l, n_lb_lf, n_lb_lt, n_lb_lm, n_lb_lx, n_lb_lk, n_lb_lo, n_lx_l, n_lx_lf, n_lx_lt, n_lx_lm, n_lx_lb, n_lx_lk, n_lx_lo, n_lk_l, n_lk_lf, n_lk_lt, n_lk_lm, n_lk_lb, n_lk_lx, n_lk_lo, n_lo_l, n_lo_lf, n_lo_lt, n_lo_lm, n_lo_lb, n_lo_lx, n_lo_lk]
  · simp [r_I, n_l_lf, n_l_lt, n_l_lm, n_l_lb, n_l_lx, n_l_lk, n_l_lo, n_lf_l, n_lf_lt, n_lf_lm, n_lf_lb, n_lf_lx, n_lf_lk, n_lf_lo, n_lt_l, n_lt_lf, n_lt_lm, n_lt_lb, n_lt_lx, n_lt_lk, n_lt_lo, n_lm_l, n_lm_lf, n_lm_lt, n_lm_lb, n_lm_lx, n_lm_lk, n_lm_lo, n_lb_l, n_lb_lf, n_lb_lt, n_lb_lm, n_lb_lx, n_lb_lk, n_lb_lo, n_lx_l, n_lx_lf, n_lx_lt, n_lx_lm, n_lx_lb, n_lx_lk, n_lx_lo, n_lk_l, n_lk_lf, n_lk_lt, n_lk_lm, n_lk_lb, n_lk_lx, n_lk_lo, n_lo_l, n_lo_lf, n_lo_lt, n_lo_lm, n_lo_lb, n_lo_lx, n_lo_lk]
  · simp [r_I, n_l_lf, n_l_lt, n_l_lm, n_l_lb, n_l_lx, n_l_lk, n_l_lo, n_lf_l, n_lf_lt, n_lf_lm, n_lf_lb, n_lf_lx, n_lf_lk, n_lf_lo, n_lt_l, n_lt_lf, n_lt_lm, n_lt_lb, n_lt_lx, n_lt_lk, n_lt_lo, n_lm_l, n_lm_lf, n_lm_lt, n_lm_lb, n_lm_lx, n_lm_lk, n_lm_lo, n_lb_l, n_lb_lf, n_lb_lt, n_lb_lm, n_lb_lx, n_lb_lk, n_lb_lo, n_lx_l, n_lx_lf, n_lx_lt, n_lx_lm, n_lx_lb, n_lx_lk, n_lx_lo, n_lk_l, n_lk_lf, n_lk_lt, n_lk_lm, n_lk_lb, n_lk_lx, n_lk_lo, n_lo_l, n_lo_lf, n_lo_lt, n_lo_lm, n_lo_lb, n_lo_lx, n_lo_lk]
section
variable {ρ : Nat → Nat} {c : Cm} {h o : Hp} {x0 b l : Nat}
theorem afr_r : AFr ρ l h h := ⟨fun _ _ => rfl, fun _ => rfl, fun _ _ _ _ => rfl⟩
theorem afr_t {h1 : Hp} (p : AFr ρ l h h1) (q : AFr ρ l h1 o) : AFr ρ l h o := ⟨fun a i => (q.1 a i).trans (p.1 a i), fun a => (q.2.1 a).trans (p.2.1 a), fun a i n1 n2 => (q.2.2 a i n1 n2).trans (p.2.2 a i n1 n2)⟩
theorem mv_add0 {g : Hp} {f t m bc tk k mo : Int32} (T : TH ρ c g) (f0 : AFr ρ l g h) (rx : ρ x0 = 16) (rb : ρ b = 13) (rl : ρ l = 14) (ge0 : 0 ≤ (hI h l 0).toInt) (lt0 : (hI h l 0).toInt ≤ 2999) (P : MvB x0 b l h) (E : ∀ M H, hR h b 0 = some M → hR h b 5 = some H → Ent (hI h x0 11).toInt (hI h x0 13).toInt M H (hI h b 1) h f t m k mo) (e : sX13_add h l f t m bc tk k mo = some o) : MvB x0 b l o ∧ AFr ρ l g o ∧ (hI o l 0).toInt = (hI h l 0).toInt + 1 := by
  have tr : ∀ {a i k2 : Nat}, (∃ r, hR g a i = some r ∧ ρ r = k2) → ∃ r, hR h a i = some r ∧ ρ r = k2 := fun {a i k2} q => by rw [f0.1]; exact q
  obtain ⟨lf, e1, r1⟩ := tr (thR T rl (i := 1) (k2 := 66) rfl (by decide))
  obtain ⟨lt, e2, r2⟩ := tr (thR T rl (i := 2) (k2 := 67) rfl (by decide))
  obtain ⟨lm, e3, r3⟩ := tr (thR T rl (i := 3) (k2 := 68) rfl (by decide))
  obtain ⟨lb, e4, r4⟩ := tr (thR T rl (i := 4) (k2 := 69) rfl (by decide))
  obtain ⟨lx, e5, r5⟩ := tr (thR T rl (i := 5) (k2 := 70) rfl (by decide))
  obtain ⟨lk, e6, r6⟩ := tr (thR T rl (i := 6) (k2 := 71) rfl (by decide))
  obtain ⟨lo, e7, r7⟩ := tr (thR T rl (i := 7) (k2 := 72) rfl (by decide))
  obtain ⟨M, eM, rM⟩ := tr (thR T rb (i := 0) (k2 := 62) rfl (by decide))
  obtain ⟨H, eH, rH⟩ := tr (thR T rb (i := 5) (k2 := 64) rfl (by decide))
  obtain ⟨fr, w0, wi⟩ := add_post rl r1 r2 r3 r4 r5 r6 r7 e1 e2 e3 e4 e5 e6 e7 e
  have n1 : (hI o l 0).toInt = (hI h l 0).toInt + 1 := by rw [w0]; exact ta (by show _ ≤ (hI h l 0).toInt + 1 ∧ (hI h l 0).toInt + 1 ≤ _; omega)
  refine ⟨?_, afr_t f0 fr, n1⟩
  have kM : ∀ j, hI o M j = hI h M j := fun j => fr.2.2 M j (by rw [rM]; decide) (fun q => absurd (q.1 ▸ rM) (by rw [rl]; decide))
  have kH : ∀ j, hI o H j = hI h H j := fun j => fr.2.2 H j (by rw [rH]; decide) (fun q => absurd (q.1 ▸ rH) (by rw [rl]; decide))
  have kb : hI o b 1 = hI h b 1 := fr.2.2 b 1 (by rw [rb]; decide) (fun q => absurd q.2 (by decide))
  have k11 : hI o x0 11 = hI h x0 11 := fr.2.2 x0 11 (by rw [rx]; decide) (fun q => absurd q.2 (by decide))
  have k13 : hI o x0 13 = hI h x0 13 := fr.2.2 x0 13 (by rw [rx]; decide) (fun q => absurd q.2 (by decide))
  intro M' H' lf' lt' lm' lk' lo' p1 p2 p3 p4 p5 p6 p7 i hi
  rw [fr.1] at p1 p2 p3 p4 p5 p6 p7
  have q1 := r_eq eM p1
  have q2 := r_eq eH p2
  have q3 := r_eq e1 p3
  have q4 := r_eq e2 p4
  have q5 := r_eq e3 p5
  have q6 := r_eq e6 p6
  have q7 := r_eq e7 p7
  subst q1; subst q2; subst q3; subst q4; subst q5; subst q6; subst q7
  obtain ⟨a1, a2, a3, a4, a5⟩ := wi i
  rw [a1, a2, a3, a4, a5, kb, k11, k13]
  refine ent_c kM kH ?_
  have cl0 := nc_i ge0
  by_cases q : i = (hI h l 0).toNatClampNeg
  · rw [if_pos q, if_pos q, if_pos q, if_pos q, if_pos q]
    exact E _ _ eM eH
  · rw [if_neg q, if_neg q, if_neg q, if_neg q, if_neg q]
    exact P _ _ _ _ _ _ _ eM eH e1 e2 e3 e6 e7 i (by omega)
theorem mv_add {f t m bc tk k mo : Int32} (T : TH ρ c h) (rx : ρ x0 = 16) (rb : ρ b = 13) (rl : ρ l = 14) (lt0 : (hI h l 0).toInt ≤ 2999) (P : MvB x0 b l h) (E : ∀ M H, hR h b 0 = some M → hR h b 5 = some H → Ent (hI h x0 11).toInt (hI h x0 13).toInt M H (hI h b 1) h f t m k mo) (e : sX13_add h l f t m bc tk k mo = some o) : MvB x0 b l o := (mv_add0 T afr_r rx rb rl (thI T rl (lo := 0) (hi := 3000) rfl).1 lt0 P E e).1
theorem mv_set {x y : Int32} (T : TH ρ c h) (rx : ρ x0 = 16) (rb : ρ b = 13) (rl : ρ l = 14) (hy : 0 ≤ y.toInt ∧ y.toInt < (hI h l 0).toInt) (P : MvB x0 b l h) (e : sX13_set h l x l y = some o) : MvB x0 b l o := by
  obtain ⟨lf, e1, r1⟩ := thR T rl (i := 1) (k2 := 66) rfl (by decide)
  obtain ⟨lt, e2, r2⟩ := thR T rl (i := 2) (k2 := 67) rfl (by decide)
  obtain ⟨lm, e3, r3⟩ := thR T rl (i := 3) (k2 := 68) rfl (by decide)
  obtain ⟨lb, e4, r4⟩ := thR T rl (i := 4) (k2 := 69) rfl (by decide)
  obtain ⟨lx, e5, r5⟩ := thR T rl (i := 5) (k2 := 70) rfl (by decide)
  obtain ⟨lk, e6, r6⟩ := thR T rl (i := 6) (k2 := 71) rfl (by decide)
  obtain ⟨lo, e7, r7⟩ := thR T rl (i := 7) (k2 := 72) rfl (by decide)
  obtain ⟨M, eM, rM⟩ := thR T rb (i := 0) (k2 := 62) rfl (by decide)
  obtain ⟨H, eH, rH⟩ := thR T rb (i := 5) (k2 := 64) rfl (by decide)
  obtain ⟨fr, w0, wi⟩ := set_post rl r1 r2 r3 r4 r5 r6 r7 e1 e2 e3 e4 e5 e6 e7 e
  have kM : ∀ j, hI o M j = hI h M j := fun j => fr.2.2 M j (by rw [rM]; decide) (fun q => absurd (q.1 ▸ rM) (by rw [rl]; decide))
  have kH : ∀ j, hI o H j = hI h H j := fun j => fr.2.2 H j (by rw [rH]; decide) (fun q => absurd (q.1 ▸ rH) (by rw [rl]; decide))
  have kb : hI o b 1 = hI h b 1 := fr.2.2 b 1 (by rw [rb]; decide) (fun q => absurd q.2 (by decide))
  have k11 : hI o x0 11 = hI h x0 11 := fr.2.2 x0 11 (by rw [rx]; decide) (fun q => absurd q.2 (by decide))
  have k13 : hI o x0 13 = hI h x0 13 := fr.2.2 x0 13 (by rw [rx]; decide) (fun q => absurd q.2 (by decide))
  intro M' H' lf' lt' lm' lk' lo' p1 p2 p3 p4 p5 p6 p7 i hi
  rw [fr.1] at p1 p2 p3 p4 p5 p6 p7
  rw [w0] at hi
  have q1 := r_eq eM p1
  have q2 := r_eq eH p2
  have q3 := r_eq e1 p3
  have q4 := r_eq e2 p4
  have q5 := r_eq e3 p5
  have q6 := r_eq e6 p6
  have q7 := r_eq e7 p7
  subst q1; subst q2; subst q3; subst q4; subst q5; subst q6; subst q7
  obtain ⟨a1, a2, a3, a4, a5⟩ := wi i
  rw [a1, a2, a3, a4, a5, kb, k11, k13]
  refine ent_c kM kH ?_
  by_cases q : i = x.toNatClampNeg
  · rw [if_pos q, if_pos q, if_pos q, if_pos q, if_pos q]
    exact P _ _ _ _ _ _ _ eM eH e1 e2 e3 e6 e7 _ (by rw [nc_i hy.1]; exact hy.2)
  · rw [if_neg q, if_neg q, if_neg q, if_neg q, if_neg q]
    exact P _ _ _ _ _ _ _ eM eH e1 e2 e3 e6 e7 i hi
theorem mv_cut {v : Int32} (T : TH ρ c h) (rx : ρ x0 = 16) (rb : ρ b = 13) (rl : ρ l = 14) (le : v.toInt ≤ (hI h l 0).toInt) (P : v.toInt ≤ 0 ∨ MvB x0 b l h) (e : o = wI h l 0 v) : MvB x0 b l o := by
  subst e
  intro M H lf lt lm lk lo p1 p2 p3 p4 p5 p6 p7 i hi
  rw [r_I, if_pos ⟨rfl, rfl⟩] at hi
  rcases P with P | P
  · omega
  have rM : ρ M = 62 := by obtain ⟨q, a, b⟩ := thR T rb (i := 0) (k2 := 62) rfl (by decide); rw [r_eq a p1]; exact b
  have rH : ρ H = 64 := by obtain ⟨q, a, b⟩ := thR T rb (i := 5) (k2 := 64) rfl (by decide); rw [r_eq a p2]; exact b
  have r1 : ρ lf = 66 := by obtain ⟨q, a, b⟩ := thR T rl (i := 1) (k2 := 66) rfl (by decide); rw [r_eq a p3]; exact b
  have r2 : ρ lt = 67 := by obtain ⟨q, a, b⟩ := thR T rl (i := 2) (k2 := 67) rfl (by decide); rw [r_eq a p4]; exact b
  have r3 : ρ lm = 68 := by obtain ⟨q, a, b⟩ := thR T rl (i := 3) (k2 := 68) rfl (by decide); rw [r_eq a p5]; exact b
  have r6 : ρ lk = 71 := by obtain ⟨q, a, b⟩ := thR T rl (i := 6) (k2 := 71) rfl (by decide); rw [r_eq a p6]; exact b
  have r7 : ρ lo = 72 := by obtain ⟨q, a, b⟩ := thR T rl (i := 7) (k2 := 72) rfl (by decide); rw [r_eq a p7]; exact b
  have ne : ∀ {a k : Nat}, ρ a = k → k ≠ 14 → ∀ j, hI (wI h l 0 v) a j = hI h a j := fun ha hk j => by rw [r_I, if_neg (fun q => hk (by rw [← ha, q.1, rl]))]
  rw [ne r1 (by decide), ne r2 (by decide), ne r3 (by decide), ne r6 (by decide), ne r7 (by decide), ne rb (by decide), ne rx (by decide), ne rx (by decide)]
  exact ent_c (fun j => ne rM (by decide) j) (fun j => ne rH (by decide) j) (P _ _ _ _ _ _ _ p1 p2 p3 p4 p5 p6 p7 i (by omega))
theorem mv_fr {S : Nat → Nat → Nat → Bool} {h2 : Hp} (T : TH ρ c h) (rx : ρ x0 = 16) (rb : ρ b = 13) (rl : ρ l = 14) (f : Fr ρ (cat c S h) h h2)
    (s1 : ∀ w, S 16 w 11 = false) (s2 : ∀ w, S 16 w 13 = false) (s3 : S 13 (cw c b) 0 = false) (s4 : S 13 (cw c b) 1 = false) (s5 : S 13 (cw c b) 5 = false) (s6 : ∀ i, S 62 (cw c b) i = false) (s7 : ∀ i, S 64 (cw c b) i = false)
    (t0 : S 14 (cw c l) 0 = false) (t1 : S 14 (cw c l) 1 = false) (t2 : S 14 (cw c l) 2 = false) (t3 : S 14 (cw c l) 3 = false) (t6 : S 14 (cw c l) 6 = false) (t7 : S 14 (cw c l) 7 = false)
    (u1 : ∀ i, S 66 (cw c l) i = false) (u2 : ∀ i, S 67 (cw c l) i = false) (u3 : ∀ i, S 68 (cw c l) i = false) (u6 : ∀ i, S 71 (cw c l) i = false) (u7 : ∀ i, S 72 (cw c l) i = false) (P : MvB x0 b l h) : MvB x0 b l h2 := by
  intro M H lf lt lm lk lo p1 p2 p3 p4 p5 p6 p7 i hi
  have g : ∀ {a k j : Nat}, ρ a = k → k ≠ 0 → S k (cw c a) j = false → hI h2 a j = hI h a j ∧ hR h2 a j = hR h a j := fun {a k j} ha hk hs => by
    have := f.1 a j (by rw [ha]; exact hk) (by rw [ha]; exact hs)
    exact ⟨this.1, this.2.2⟩
  rw [(g rb (by decide) s3).2] at p1
  rw [(g rb (by decide) s5).2] at p2
  rw [(g rl (by decide) t1).2] at p3
  rw [(g rl (by decide) t2).2] at p4
  rw [(g rl (by decide) t3).2] at p5
  rw [(g rl (by decide) t6).2] at p6
  rw [(g rl (by decide) t7).2] at p7
  have wM : ∀ {q j : Nat}, hR h b j = some q → cw c q = cw c b := fun hq => th_ih T rb (by decide) hq rfl
  have wl : ∀ {q j : Nat}, hR h l j = some q → cw c q = cw c l := fun hq => th_ih T rl (by decide) hq rfl
  have rM : ρ M = 62 := by obtain ⟨q, a, b⟩ := thR T rb (i := 0) (k2 := 62) rfl (by decide); rw [r_eq a p1]; exact b
  have rH : ρ H = 64 := by obtain ⟨q, a, b⟩ := thR T rb (i := 5) (k2 := 64) rfl (by decide); rw [r_eq a p2]; exact b
  have r1 : ρ lf = 66 := by obtain ⟨q, a, b⟩ := thR T rl (i := 1) (k2 := 66) rfl (by decide); rw [r_eq a p3]; exact b
  have r2 : ρ lt = 67 := by obtain ⟨q, a, b⟩ := thR T rl (i := 2) (k2 := 67) rfl (by decide); rw [r_eq a p4]; exact b
  have r3 : ρ lm = 68 := by obtain ⟨q, a, b⟩ := thR T rl (i := 3) (k2 := 68) rfl (by decide); rw [r_eq a p5]; exact b
  have r6 : ρ lk = 71 := by obtain ⟨q, a, b⟩ := thR T rl (i := 6) (k2 := 71) rfl (by decide); rw [r_eq a p6]; exact b
  have r7 : ρ lo = 72 := by obtain ⟨q, a, b⟩ := thR T rl (i := 7) (k2 := 72) rfl (by decide); rw [r_eq a p7]; exact b
  rw [(g rl (by decide) t0).1] at hi
  rw [(g r1 (by decide) (by rw [wl p3]; exact u1 _)).1, (g r2 (by decide) (by rw [wl p4]; exact u2 _)).1, (g r3 (by decide) (by rw [wl p5]; exact u3 _)).1, (g r6 (by decide) (by rw [wl p6]; exact u6 _)).1, (g r7 (by decide) (by rw [wl p7]; exact u7 _)).1, (g rb (by decide) s4).1, (g rx (by decide) (s1 _)).1, (g rx (by decide) (s2 _)).1]
  exact ent_c (fun j => (g rM (by decide) (by rw [wM p1]; exact s6 _)).1) (fun j => (g rH (by decide) (by rw [wM p2]; exact s7 _)).1) (P _ _ _ _ _ _ _ p1 p2 p3 p4 p5 p6 p7 i hi)
end
