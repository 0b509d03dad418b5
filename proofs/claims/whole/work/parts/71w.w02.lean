section
/-! entries of a list of moves of the reference against its board -/
def Ent (F sq : Int) (M H : Nat) (sd : Int32) (h0 : Hp) (f t m k mo : Int32) : Prop :=
  t.toInt < sq ∧ (k.toInt = 3 → 0 < (hI h0 H ((2 : Int32) * m + sd).toNatClampNeg).toInt) ∧ (¬ k.toInt = 3 → 0 ≤ f.toInt ∧ f.toInt < sq ∧ 0 < (hI h0 M f.toNatClampNeg).toInt) ∧ (k.toInt < 2 → 0 < mo.toInt → ¬ t.toInt = f.toInt ∧ WayE F M h0 f.toInt t.toInt mo.toInt)
theorem ent_c {F sq : Int} {M H : Nat} {sd : Int32} {h0 h1 : Hp} {f t m k mo : Int32} (k1 : ∀ j, hI h1 M j = hI h0 M j) (k2 : ∀ j, hI h1 H j = hI h0 H j) (E : Ent F sq M H sd h0 f t m k mo) : Ent F sq M H sd h1 f t m k mo := by
  obtain ⟨a1, a2, a3, a4⟩ := E
  refine ⟨a1, fun q => by rw [k2]; exact a2 q, fun q => by rw [k1]; exact a3 q, fun q p => ⟨(a4 q p).1, ?_⟩⟩
  obtain ⟨dx, dy, b1, b2, b3⟩ := (a4 q p).2
  exact ⟨dx, dy, b1, b2, fun j j1 j2 => by rw [k1]; exact b3 j j1 j2⟩
/-- each move of the list is one of the board's -/
def MvB (x0 b l : Nat) (h : Hp) : Prop := ∀ M H lf lt lm lk lo, hR h b 0 = some M → hR h b 5 = some H → hR h l 1 = some lf → hR h l 2 = some lt → hR h l 3 = some lm → hR h l 6 = some lk → hR h l 7 = some lo → ∀ i : Nat, (i : Int) < (hI h l 0).toInt → Ent (hI h x0 11).toInt (hI h x0 13).toInt M H (hI h b 1) h (hI h lf i) (hI h lt i) (hI h lm i) (hI h lk i) (hI h lo i)
/-- what add and set leave as it is -/
def AFr (ρ : Nat → Nat) (l : Nat) (h o : Hp) : Prop := (∀ a i, hR o a i = hR h a i) ∧ (∀ a, hN o a = hN h a) ∧ ∀ a i, ¬ (66 ≤ ρ a ∧ ρ a ≤ 72) → ¬ (a = l ∧ i = 0) → hI o a i = hI h a i
theorem add_post {ρ : Nat → Nat} {h o : Hp} {l lf lt lm lb lx lk lo : Nat} {f t m bc tk k mo : Int32} (r_l : ρ l = 14) (r_lf : ρ lf = 66) (r_lt : ρ lt = 67) (r_lm : ρ lm = 68) (r_lb : ρ lb = 69) (r_lx : ρ lx = 70) (r_lk : ρ lk = 71) (r_lo : ρ lo = 72) (e_lf : hR h l 1 = some lf) (e_lt : hR h l 2 = some lt) (e_lm : hR h l 3 = some lm) (e_lb : hR h l 4 = some lb) (e_lx : hR h l 5 = some lx) (e_lk : hR h l 6 = some lk) (e_lo : hR h l 7 = some lo) (e : sX13_add h l f t m bc tk k mo = some o) :
    AFr ρ l h o ∧ hI o l 0 = hI h l 0 + (1 : Int32) ∧ ∀ i, hI o lf i = (if i = (hI h l 0).toNatClampNeg then f else hI h lf i) ∧ hI o lt i = (if i = (hI h l 0).toNatClampNeg then t else hI h lt i) ∧ hI o lm i = (if i = (hI h l 0).toNatClampNeg then m else hI h lm i) ∧ hI o lk i = (if i = (hI h l 0).toNatClampNeg then k else hI h lk i) ∧ hI o lo i = (if i = (hI h l 0).toNatClampNeg then mo else hI h lo i) := by
  have n_l_lf : ¬ l = lf := fun q => absurd (q ▸ r_l) (by rw [r_lf]; decide)
  have n_l_lt : ¬ l = lt := fun q => absurd (q ▸ r_l) (by rw [r_lt]; decide)
  have n_l_lm : ¬ l = lm := fun q => absurd (q ▸ r_l) (by rw [r_lm]; decide)
  have n_l_lb : ¬ l = lb := fun q => absurd (q ▸ r_l) (by rw [r_lb]; decide)
  have n_l_lx : ¬ l = lx := fun q => absurd (q ▸ r_l) (by rw [r_lx]; decide)
  have n_l_lk : ¬ l = lk := fun q => absurd (q ▸ r_l) (by rw [r_lk]; decide)
  have n_l_lo : ¬ l = lo := fun q => absurd (q ▸ r_l) (by rw [r_lo]; decide)
  have n_lf_l : ¬ lf = l := fun q => absurd (q ▸ r_lf) (by rw [r_l]; decide)
  have n_lf_lt : ¬ lf = lt := fun q => absurd (q ▸ r_lf) (by rw [r_lt]; decide)
  have n_lf_lm : ¬ lf = lm := fun q => absurd (q ▸ r_lf) (by rw [r_lm]; decide)
  have n_lf_lb : ¬ lf = lb := fun q => absurd (q ▸ r_lf) (by rw [r_lb]; decide)
  have n_lf_lx : ¬ lf = lx := fun q => absurd (q ▸ r_lf) (by rw [r_lx]; decide)
  have n_lf_lk : ¬ lf = lk := fun q => absurd (q ▸ r_lf) (by rw [r_lk]; decide)
  have n_lf_lo : ¬ lf = lo := fun q => absurd (q ▸ r_lf) (by rw [r_lo]; decide)
  have n_lt_l : ¬ lt = l := fun q => absurd (q ▸ r_lt) (by rw [r_l]; decide)
  have n_lt_lf : ¬ lt = lf := fun q => absurd (q ▸ r_lt) (by rw [r_lf]; decide)
  have n_lt_lm : ¬ lt = lm := fun q => absurd (q ▸ r_lt) (by rw [r_lm]; decide)
  have n_lt_lb : ¬ lt = lb := fun q => absurd (q ▸ r_lt) (by rw [r_lb]; decide)
  have n_lt_lx : ¬ lt = lx := fun q => absurd (q ▸ r_lt) (by rw [r_lx]; decide)
  have n_lt_lk : ¬ lt = lk := fun q => absurd (q ▸ r_lt) (by rw [r_lk]; decide)
  have n_lt_lo : ¬ lt = lo := fun q => absurd (q ▸ r_lt) (by rw [r_lo]; decide)
  have n_lm_l : ¬ lm = l := fun q => absurd (q ▸ r_lm) (by rw [r_l]; decide)
  have n_lm_lf : ¬ lm = lf := fun q => absurd (q ▸ r_lm) (by rw [r_lf]; decide)
  have n_lm_lt : ¬ lm = lt := fun q => absurd (q ▸ r_lm) (by rw [r_lt]; decide)
  have n_lm_lb : ¬ lm = lb := fun q => absurd (q ▸ r_lm) (by rw [r_lb]; decide)
  have n_lm_lx : ¬ lm = lx := fun q => absurd (q ▸ r_lm) (by rw [r_lx]; decide)
  have n_lm_lk : ¬ lm = lk := fun q => absurd (q ▸ r_lm) (by rw [r_lk]; decide)
  have n_lm_lo : ¬ lm = lo := fun q => absurd (q ▸ r_lm) (by rw [r_lo]; decide)
  have n_lb_l : ¬ lb = l := fun q => absurd (q ▸ r_lb) (by rw [r_l]; decide)
  have n_lb_lf : ¬ lb = lf := fun q => absurd (q ▸ r_lb) (by rw [r_lf]; decide)
  have n_lb_lt : ¬ lb = lt := fun q => absurd (q ▸ r_lb) (by rw [r_lt]; decide)
  have n_lb_lm : ¬ lb = lm := fun q => absurd (q ▸ r_lb) (by rw [r_lm]; decide)
  have n_lb_lx : ¬ lb = lx := fun q => absurd (q ▸ r_lb) (by rw [r_lx]; decide)
  have n_lb_lk : ¬ lb = lk := fun q => absurd (q ▸ r_lb) (by rw [r_lk]; decide)
  have n_lb_lo : ¬ lb = lo := fun q => absurd (q ▸ r_lb) (by rw [r_lo]; decide)
  have n_lx_l : ¬ lx = l := fun q => absurd (q ▸ r_lx) (by rw [r_l]; decide)
  have n_lx_lf : ¬ lx = lf := fun q => absurd (q ▸ r_lx) (by rw [r_lf]; decide)
  have n_lx_lt : ¬ lx = lt := fun q => absurd (q ▸ r_lx) (by rw [r_lt]; decide)
  have n_lx_lm : ¬ lx = lm := fun q => absurd (q ▸ r_lx) (by rw [r_lm]; decide)
  have n_lx_lb : ¬ lx = lb := fun q => absurd (q ▸ r_lx) (by rw [r_lb]; decide)
  have n_lx_lk : ¬ lx = lk := fun q => absurd (q ▸ r_lx) (by rw [r_lk]; decide)
  have n_lx_lo : ¬ lx = lo := fun q => absurd (q ▸ r_lx) (by rw [r_lo]; decide)
  have n_lk_l : ¬ lk = l := fun q => absurd (q ▸ r_lk) (by rw [r_l]; decide)
  have n_lk_lf : ¬ lk = lf := fun q => absurd (q ▸ r_lk) (by rw [r_lf]; decide)
  have n_lk_lt : ¬ lk = lt := fun q => absurd (q ▸ r_lk) (by rw [r_lt]; decide)
  have n_lk_lm : ¬ lk = lm := fun q => absurd (q ▸ r_lk) (by rw [r_lm]; decide)
  have n_lk_lb : ¬ lk = lb := fun q => absurd (q ▸ r_lk) (by rw [r_lb]; decide)
  have n_lk_lx : ¬ lk = lx := fun q => absurd (q ▸ r_lk) (by rw [r_lx]; decide)
  have n_lk_lo : ¬ lk = lo := fun q => absurd (q ▸ r_lk) (by rw [r_lo]; decide)
  have n_lo_l : ¬ lo = l := fun q => absurd (q ▸ r_lo) (by rw [r_l]; decide)
  have n_lo_lf : ¬ lo = lf := fun q => absurd (q ▸ r_lo) (by rw [r_lf]; decide)
  have n_lo_lt : ¬ lo = lt := fun q => absurd (q ▸ r_lo) (by rw [r_lt]; decide)
  have n_lo_lm : ¬ lo = lm := fun q => absurd (q ▸ r_lo) (by rw [r_lm]; decide)
  have n_lo_lb : ¬ lo = lb := fun q => absurd (q ▸ r_lo) (by rw [r_lb]; decide)
  have n_lo_lx : ¬ lo = lx := fun q => absurd (q ▸ r_lo) (by rw [r_lx]; decide)
  have n_lo_lk : ¬ lo = lk := fun q => absurd (q ▸ r_lo) (by rw [r_lk]; decide)
  unfold sX13_add at e
  simp only [nm] at e
  replace e := cl_s e; obtain ⟨q_lf, w_lf, e⟩ := e
  replace w_lf : hR h l 1 = some q_lf := w_lf
  have := r_eq e_lf w_lf
  subst this
  replace e := (gd_s e).2
  replace e := cl_s e; obtain ⟨q_lt, w_lt, e⟩ := e
  replace w_lt : hR h l 2 = some q_lt := w_lt
  have := r_eq e_lt w_lt
  subst this
  replace e := (gd_s e).2
  replace e := cl_s e; obtain ⟨q_lm, w_lm, e⟩ := e
  replace w_lm : hR h l 3 = some q_lm := w_lm
  have := r_eq e_lm w_lm
  subst this
  replace e := (gd_s e).2
  replace e := cl_s e; obtain ⟨q_lb, w_lb, e⟩ := e
  replace w_lb : hR h l 4 = some q_lb := w_lb
  have := r_eq e_lb w_lb
  subst this
  replace e := (gd_s e).2
  replace e := cl_s e; obtain ⟨q_lx, w_lx, e⟩ := e
  replace w_lx : hR h l 5 = some q_lx := w_lx
  have := r_eq e_lx w_lx
  subst this
  replace e := (gd_s e).2
  replace e := cl_s e; obtain ⟨q_lk, w_lk, e⟩ := e
  replace w_lk : hR h l 6 = some q_lk := w_lk
  have := r_eq e_lk w_lk
  subst this
  replace e := (gd_s e).2
  replace e := cl_s e; obtain ⟨q_lo, w_lo, e⟩ := e
  replace w_lo : hR h l 7 = some q_lo := w_lo
  have := r_eq e_lo w_lo
  subst this
  replace e := (gd_s e).2
  have e := Option.some.inj e
  subst e
  refine ⟨⟨fun _ _ => rfl, fun _ => rfl, fun a i n1 n2 => ?_⟩, ?_, fun i => ⟨?_, ?_, ?_, ?_, ?_⟩⟩
  · have a_lf : ¬ a = q_lf := fun q => n1 (by rw [q, r_lf]; decide)
    have a_lt : ¬ a = q_lt := fun q => n1 (by rw [q, r_lt]; decide)
    have a_lm : ¬ a = q_lm := fun q => n1 (by rw [q, r_lm]; decide)
    have a_lb : ¬ a = q_lb := fun q => n1 (by rw [q, r_lb]; decide)
    have a_lx : ¬ a = q_lx := fun q => n1 (by rw [q, r_lx]; decide)
    have a_lk : ¬ a = q_lk := fun q => n1 (by rw [q, r_lk]; decide)
    have a_lo : ¬ a = q_lo := fun q => n1 (by rw [q, r_lo]; decide)
    have n2' : ¬ (a = l ∧ i = 0) := n2
    simp only [r_I, a_lf, a_lt, a_lm, a_lb, a_lx, a_lk, a_lo, n2', false_and, if_false]
  · simp [r_I, n_l_lf, n_l_lt, n_l_lm, n_l_lb, n_l_lx, n_l_lk, n_l_lo, n_lf_l, n_lf_lt, n_lf_lm, n_lf_lb, n_lf_lx, n_lf_lk, n_lf_lo, n_lt_l, n_lt_lf, n_lt_lm, n_lt_lb, n_lt_lx, n_lt_lk, n_lt_lo, n_lm_l, n_lm_lf, n_lm_lt, n_lm_lb, n_lm_lx, n_lm_lk, n_lm_lo, n_lb_l, n_lb_lf, n_lb_lt, n_lb_lm, n_lb_lx, n_lb_lk, n_lb_lo, n_lx_l, n_lx_lf, n_lx_lt, n_lx_lm, n_lx_lb, n_lx_lk, n_lx_lo, n_lk_l, n_lk_lf, n_lk_lt, n_lk_lm, n_lk_lb, n_lk_lx, n_lk_lo, n_lo_l, n_lo_lf, n_lo_lt, n_lo_lm, n_lo_lb, n_lo_lx, n_lo_lk]
  · simp [r_I, n_l_lf, n_l_lt, n_l_lm, n_l_lb, n_l_lx, n_l_lk, n_l_lo, n_lf_l, n_lf_lt, n_lf_lm, n_lf_lb, n_lf_lx, n_lf_lk, n_lf_lo, n_lt_l, n_lt_lf, n_lt_lm, n_lt_lb, n_lt_lx, n_lt_lk, n_lt_lo, n_lm_l, n_lm_lf, n_lm_lt, n_lm_lb, n_lm_lx, n_lm_lk, n_lm_lo, n_lb_l, n_lb_lf, n_lb_lt, n_lb_lm, n_lb_lx, n_lb_lk, n_lb_lo, n_lx_l, n_lx_lf, n_lx_lt, n_lx_lm, n_lx_lb, n_lx_lk, n_lx_lo, n_lk_l, n_lk_lf, n_lk_lt, n_lk_lm, n_lk_lb, n_lk_lx, n_lk_lo, n_lo_l, n_lo_lf, n_lo_lt, n_lo_lm, n_lo_lb, n_lo_lx, n_lo_lk]
  · simp [r_I, n_l_lf, n_l_lt, n_l_lm, n_l_lb, n_l_lx, n_l_lk, n_l_lo, n_lf_l, n_lf_lt, n_lf_lm, n_lf_lb, n_lf_lx, n_lf_lk, n_lf_lo, n_lt_l, n_lt_lf, n_lt_lm, n_lt_lb, n_lt_lx, n_lt_lk, n_lt_lo, n_lm_l, n_lm_lf, n_lm_lt, n_lm_lb, n_lm_lx, n_lm_lk, n_lm_lo, n_lb_l, n_lb_lf, n_lb_lt, n_lb_lm, n_lb_lx, n_lb_lk, n_lb_lo, n_lx_l, n_lx_lf, n_lx_lt, n_lx_lm, n_lx_lb, n_lx_lk, n_lx_lo, n_lk_l, n_lk_lf, n_lk_lt, n_lk_lm, n_lk_lb, n_lk_lx, n_lk_lo, n_lo_l, n_lo_lf, n_lo_lt, n_lo_lm, n_lo_lb, n_lo_lx, n_lo_lk]
  · simp [r_I, n_l_lf, n_l_lt, n_l_lm, n_l_lb, n_l_lx, n_l_lk, n_l_lo, n_lf_l, n_lf_lt, n_lf_lm, n_lf_lb, n_lf_lx, n_lf_lk, n_lf_lo, n_lt_l, n_lt_lf, n_lt_lm, n_lt_lb, n_lt_lx, n_lt_lk, n_lt_lo, n_lm_l, n_lm_lf, n_lm_lt, n_lm_lb, n_lm_lx, n_lm_lk, n_lm_lo, n_lb_l, n_lb_lf, n_lb_lt, n_lb_lm, n_lb_lx, n_lb_lk, n_lb_lo, n_lx_l, n_lx_lf, n_lx_lt, n_lx_lm, n_lx_lb, n_lx_lk, n_lx_lo, n_lk_l, n_lk_lf, n_lk_lt, n_lk_lm, n_lk_lb, n_lk_lx, n_lk_lo, n_lo_l, n_lo_lf, n_lo_lt, n_lo_lm, n_lo_lb, n_lo_lx, n_lo_lk]
  · simp [r_I, n_l_lf, n_l_lt, n_l_lm, n_l_lb, n_l_lx, n_l_lk, n_l_lo, n_lf_l, n_lf_lt, n_lf_lm, n_lf_lb, n_lf_lx, n_lf_lk, n_lf_lo, n_lt_l, n_lt_lf, n_lt_lm, n_lt_lb, n_lt_lx, n_lt_lk, n_lt_lo, n_lm_l, n_lm_lf, n_lm_lt, n_lm_lb, n_lm_lx, n_lm_lk, n_lm_lo, n_lb_l, n_lb_lf, n_lb_lt, n_lb_lm, n_lb_lx, n_lb_lk, n_lb_lo, n_lx_l, n_lx_lf, n_lx_lt, n_lx_lm, n_lx_lb, n_lx_lk, n_lx_lo, n_lk_l, n_lk_lf, n_lk_lt, n_lk_lm, n_lk_lb, n_lk_lx, n_lk_lo, n_lo_l, n_lo_lf, n_lo_lt, n_lo_lm, n_lo_lb, n_lo_lx, n_lo_lk]
  · simp [r_I, n_l_lf, n_l_lt, n_l_lm, n_l_lb, n_l_lx, n_l_lk, n_l_lo, n_lf_l, n_lf_lt, n_lf_lm, n_lf_lb, n_lf_lx, n_lf_lk, n_lf_lo, n_lt_l, n_lt_lf, n_lt_lm, n_lt_lb, n_lt_lx, n_lt_lk, n_lt_lo, n_lm_l, n_lm_lf, n_lm_lt, n_lm_lb, n_lm_lx, n_lm_lk, n_lm_lo, n_lb_l, n_lb_lf, n_lb_lt, n_lb_lm, n_lb_lx, n_lb_lk, n_lb_lo, n_lx_l, n_lx_lf, n_lx_lt, n_lx_lm, n_lx_lb, n_lx_lk, n_lx_lo, n_lk_l, n_lk_lf, n_lk_lt, n_lk_lm, n_lk_lb, n_lk_lx, n_lk_lo, n_lo_l, n_lo_lf, n_lo_lt, n_lo_lm, n_lo_lb, n_lo_lx, n_lo_lk]
theorem set_post {ρ : Nat → Nat} {h o : Hp} {l lf lt lm lb lx lk lo : Nat} {x y : Int32} (r_l : ρ l = 14) (r_lf : ρ lf = 66) (r_lt : ρ lt = 67) (r_lm : ρ lm = 68) (r_lb : ρ lb = 69) (r_lx : ρ lx = 70) (r_lk : ρ lk = 71) (r_lo : ρ lo = 72) (e_lf : hR h l 1 = some lf) (e_lt : hR h l 2 = some lt) (e_lm : hR h l 3 = some lm) (e_lb : hR h l 4 = some lb) (e_lx : hR h l 5 = some lx) (e_lk : hR h l 6 = some lk) (e_lo : hR h l 7 = some lo) (e : sX13_set h l x l y = some o) :
    AFr ρ l h o ∧ hI o l 0 = hI h l 0 ∧ ∀ i, hI o lf i = (if i = x.toNatClampNeg then hI h lf y.toNatClampNeg else hI h lf i) ∧ hI o lt i = (if i = x.toNatClampNeg then hI h lt y.toNatClampNeg else hI h lt i) ∧ hI o lm i = (if i = x.toNatClampNeg then hI h lm y.toNatClampNeg else hI h lm i) ∧ hI o lk i = (if i = x.toNatClampNeg then hI h lk y.toNatClampNeg else hI h lk i) ∧ hI o lo i = (if i = x.toNatClampNeg then hI h lo y.toNatClampNeg else hI h lo i) := by
  have n_l_lf : ¬ l = lf := fun q => absurd (q ▸ r_l) (by rw [r_lf]; decide)
  have n_l_lt : ¬ l = lt := fun q => absurd (q ▸ r_l) (by rw [r_lt]; decide)
  have n_l_lm : ¬ l = lm := fun q => absurd (q ▸ r_l) (by rw [r_lm]; decide)
  have n_l_lb : ¬ l = lb := fun q => absurd (q ▸ r_l) (by rw [r_lb]; decide)
  have n_l_lx : ¬ l = lx := fun q => absurd (q ▸ r_l) (by rw [r_lx]; decide)
  have n_l_lk : ¬ l = lk := fun q => absurd (q ▸ r_l) (by rw [r_lk]; decide)
  have n_l_lo : ¬ l = lo := fun q => absurd (q ▸ r_l) (by rw [r_lo]; decide)
  have n_lf_l : ¬ lf = l := fun q => absurd (q ▸ r_lf) (by rw [r_l]; decide)
  have n_lf_lt : ¬ lf = lt := fun q => absurd (q ▸ r_lf) (by rw [r_lt]; decide)
  have n_lf_lm : ¬ lf = lm := fun q => absurd (q ▸ r_lf) (by rw [r_lm]; decide)
  have n_lf_lb : ¬ lf = lb := fun q => absurd (q ▸ r_lf) (by rw [r_lb]; decide)
  have n_lf_lx : ¬ lf = lx := fun q => absurd (q ▸ r_lf) (by rw [r_lx]; decide)
  have n_lf_lk : ¬ lf = lk := fun q => absurd (q ▸ r_lf) (by rw [r_lk]; decide)
  have n_lf_lo : ¬ lf = lo := fun q => absurd (q ▸ r_lf) (by rw [r_lo]; decide)
  have n_lt_l : ¬ lt = l := fun q => absurd (q ▸ r_lt) (by rw [r_l]; decide)
  have n_lt_lf : ¬ lt = lf := fun q => absurd (q ▸ r_lt) (by rw [r_lf]; decide)
  have n_lt_lm : ¬ lt = lm := fun q => absurd (q ▸ r_lt) (by rw [r_lm]; decide)
  have n_lt_lb : ¬ lt = lb := fun q => absurd (q ▸ r_lt) (by rw [r_lb]; decide)
  have n_lt_lx : ¬ lt = lx := fun q => absurd (q ▸ r_lt) (by rw [r_lx]; decide)
  have n_lt_lk : ¬ lt = lk := fun q => absurd (q ▸ r_lt) (by rw [r_lk]; decide)
  have n_lt_lo : ¬ lt = lo := fun q => absurd (q ▸ r_lt) (by rw [r_lo]; decide)
  have n_lm_l : ¬ lm = l := fun q => absurd (q ▸ r_lm) (by rw [r_l]; decide)
  have n_lm_lf : ¬ lm = lf := fun q => absurd (q ▸ r_lm) (by rw [r_lf]; decide)
  have n_lm_lt : ¬ lm = lt := fun q => absurd (q ▸ r_lm) (by rw [r_lt]; decide)
  have n_lm_lb : ¬ lm = lb := fun q => absurd (q ▸ r_lm) (by rw [r_lb]; decide)
  have n_lm_lx : ¬ lm = lx := fun q => absurd (q ▸ r_lm) (by rw [r_lx]; decide)
  have n_lm_lk : ¬ lm = lk := fun q => absurd (q ▸ r_lm) (by rw [r_lk]; decide)
  have n_lm_lo : ¬ lm = lo := fun q => absurd (q ▸ r_lm) (by rw [r_lo]; decide)
  have n_lb_l : ¬ lb = l := fun q => absurd (q ▸ r_lb) (by rw [r_l]; decide)
  have n_lb_lf : ¬ lb = lf := fun q => absurd (q ▸ r_lb) (by rw [r_lf]; decide)
  have n_lb_lt : ¬ lb = lt := fun q => absurd (q ▸ r_lb) (by rw [r_lt]; decide)
  have n_lb_lm : ¬ lb = lm := fun q => absurd (q ▸ r_lb) (by rw [r_lm]; decide)
  have n_lb_lx : ¬ lb = lx := fun q => absurd (q ▸ r_lb) (by rw [r_lx]; decide)
  have n_lb_lk : ¬ lb = lk := fun q => absurd (q ▸ r_lb) (by rw [r_lk]; decide)
  have n_lb_lo : ¬ lb = lo := fun q => absurd (q ▸ r_lb) (by rw [r_lo]; decide)
  have n_lx_l : ¬ lx = l := fun q => absurd (q ▸ r_lx) (by rw [r_l]; decide)
  have n_lx_lf : ¬ lx = lf := fun q => absurd (q ▸ r_lx) (by rw [r_lf]; decide)
  have n_lx_lt : ¬ lx = lt := fun q => absurd (q ▸ r_lx) (by rw [r_lt]; decide)
  have n_lx_lm : ¬ lx = lm := fun q => absurd (q ▸ r_lx) (by rw [r_lm]; decide)
  have n_lx_lb : ¬ lx = lb := fun q => absurd (q ▸ r_lx) (by rw [r_lb]; decide)
  have n_lx_lk : ¬ lx = lk := fun q => absurd (q ▸ r_lx) (by rw [r_lk]; decide)
  have n_lx_lo : ¬ lx = lo := fun q => absurd (q ▸ r_lx) (by rw [r_lo]; decide)
  have n_lk_l : ¬ lk = l := fun q => absurd (q ▸ r_lk) (by rw [r_l]; decide)
  have n_lk_lf : ¬ lk = lf := fun q => absurd (q ▸ r_lk) (by rw [r_lf]; decide)
  have n_lk_lt : ¬ lk = lt := fun q => absurd (q ▸ r_lk) (by rw [r_lt]; decide)
  have n_lk_lm : ¬ lk = lm := fun q => absurd (q ▸ r_lk) (by rw [r_lm]; decide)
  have n_lk_lb : ¬ lk = lb := fun q => absurd (q ▸ r_lk) (by rw [r_lb]; decide)
  have n_lk_lx : ¬ lk = lx := fun q => absurd (q ▸ r_lk) (by rw [r_lx]; decide)
  have n_lk_lo : ¬ lk = lo := fun q => absurd (q ▸ r_lk) (by rw [r_lo]; decide)
  have n_lo_l : ¬ lo = l := fun q => absurd (q ▸ r_lo) (by rw [r_l]; decide)
  have n_lo_lf : ¬ lo = lf := fun q => absurd (q ▸ r_lo) (by rw [r_lf]; decide)
  have n_lo_lt : ¬ lo = lt := fun q => absurd (q ▸ r_lo) (by rw [r_lt]; decide)
  have n_lo_lm : ¬ lo = lm := fun q => absurd (q ▸ r_lo) (by rw [r_lm]; decide)
  have n_lo_lb : ¬ lo = lb := fun q => absurd (q ▸ r_lo) (by rw [r_lb]; decide)
  have n_lo_lx : ¬ lo = lx := fun q => absurd (q ▸ r_lo) (by rw [r_lx]; decide)
  have n_lo_lk : ¬ lo = lk := fun q => absurd (q ▸ r_lo) (by rw [r_lk]; decide)
  unfold sX13_set at e
  simp only [nm] at e
  replace e := cl_s e; obtain ⟨q_lf, w_lf, e⟩ := e
  replace w_lf : hR h l 1 = some q_lf := w_lf
  have := r_eq e_lf w_lf
  subst this
  replace e := cl_s e; obtain ⟨p_lf, w2_lf, e⟩ := e
  replace w2_lf : hR h l 1 = some p_lf := w2_lf
  have := r_eq w_lf w2_lf
  subst this
  replace e := (gd_s e).2
  replace e := (gd_s e).2
  replace e := cl_s e; obtain ⟨q_lt, w_lt, e⟩ := e
  replace w_lt : hR h l 2 = some q_lt := w_lt
  have := r_eq e_lt w_lt
  subst this
  replace e := cl_s e; obtain ⟨p_lt, w2_lt, e⟩ := e
  replace w2_lt : hR h l 2 = some p_lt := w2_lt
  have := r_eq w_lt w2_lt
  subst this
  replace e := (gd_s e).2
  replace e := (gd_s e).2
  replace e := cl_s e; obtain ⟨q_lm, w_lm, e⟩ := e
  replace w_lm : hR h l 3 = some q_lm := w_lm
  have := r_eq e_lm w_lm
  subst this
  replace e := cl_s e; obtain ⟨p_lm, w2_lm, e⟩ := e
  replace w2_lm : hR h l 3 = some p_lm := w2_lm
  have := r_eq w_lm w2_lm
  subst this
  replace e := (gd_s e).2
  replace e := (gd_s e).2
  replace e := cl_s e; obtain ⟨q_lb, w_lb, e⟩ := e
  replace w_lb : hR h l 4 = some q_lb := w_lb
  have := r_eq e_lb w_lb
  subst this
  replace e := cl_s e; obtain ⟨p_lb, w2_lb, e⟩ := e
  replace w2_lb : hR h l 4 = some p_lb := w2_lb
  have := r_eq w_lb w2_lb
  subst this
  replace e := (gd_s e).2
  replace e := (gd_s e).2
  replace e := cl_s e; obtain ⟨q_lx, w_lx, e⟩ := e
  replace w_lx : hR h l 5 = some q_lx := w_lx
  have := r_eq e_lx w_lx
  subst this
  replace e := cl_s e; obtain ⟨p_lx, w2_lx, e⟩ := e
  replace w2_lx : hR h l 5 = some p_lx := w2_lx
  have := r_eq w_lx w2_lx
  subst this
  replace e := (gd_s e).2
  replace e := (gd_s e).2
  replace e := cl_s e; obtain ⟨q_lk, w_lk, e⟩ := e
  replace w_lk : hR h l 6 = some q_lk := w_lk
  have := r_eq e_lk w_lk
  subst this
  replace e := cl_s e; obtain ⟨p_lk, w2_lk, e⟩ := e
  replace w2_lk : hR h l 6 = some p_lk := w2_lk
  have := r_eq w_lk w2_lk
  subst this
  replace e := (gd_s e).2
  replace e := (gd_s e).2
  replace e := cl_s e; obtain ⟨q_lo, w_lo, e⟩ := e
  replace w_lo : hR h l 7 = some q_lo := w_lo
  have := r_eq e_lo w_lo
  subst this
  replace e := cl_s e; obtain ⟨p_lo, w2_lo, e⟩ := e
  replace w2_lo : hR h l 7 = some p_lo := w2_lo
  have := r_eq w_lo w2_lo
  subst this
  replace e := (gd_s e).2
  replace e := (gd_s e).2
  have e := Option.some.inj e
  subst e
  refine ⟨⟨fun _ _ => rfl, fun _ => rfl, fun a i n1 n2 => ?_⟩, ?_, fun i => ⟨?_, ?_, ?_, ?_, ?_⟩⟩
  · have a_lf : ¬ a = p_lf := fun q => n1 (by rw [q, r_lf]; decide)
    have a_lt : ¬ a = p_lt := fun q => n1 (by rw [q, r_lt]; decide)
    have a_lm : ¬ a = p_lm := fun q => n1 (by rw [q, r_lm]; decide)
    have a_lb : ¬ a = p_lb := fun q => n1 (by rw [q, r_lb]; decide)
    have a_lx : ¬ a = p_lx := fun q => n1 (by rw [q, r_lx]; decide)
    have a_lk : ¬ a = p_lk := fun q => n1 (by rw [q, r_lk]; decide)
    have a_lo : ¬ a = p_lo := fun q => n1 (by rw [q, r_lo]; decide)
    simp only [r_I, a_lf, a_lt, a_lm, a_lb, a_lx, a_lk, a_lo, false_and, if_false]
  · simp [r_I, n_l_lf, n_l_lt, n_l_lm, n_l_lb, n_l_lx, n_l_lk, n_l_lo, n_lf_l, n_lf_lt, n_lf_lm, n_lf_lb, n_lf_lx, n_lf_lk, n_lf_lo, n_lt_l, n_lt_lf, n_lt_lm, n_lt_lb, n_lt_lx, n_lt_lk, n_lt_lo, n_lm_l, n_lm_lf, n_lm_lt, n_lm_lb, n_lm_lx, n_lm_lk, n_lm_lo, n_lb_l, n_lb_lf, n_lb_lt, n_lb_lm, n_lb_lx, n_lb_lk, n_lb_lo, n_lx_l, n_lx_lf, n_lx_lt, n_lx_lm, n_lx_lb, n_lx_lk, n_lx_lo, n_lk_l, n_lk_lf, n_lk_lt, n_lk_lm, n_lk_lb, n_lk_lx, n_lk_lo, n_lo_l, n_lo_lf, n_lo_lt, n_lo_lm, n_lo_lb, n_lo_lx, n_lo_lk]
  · simp [r_I, n_l_lf, n_l_lt, n_l_lm, n_l_lb, n_l_lx, n_l_lk, n_l_lo, n_lf_l, n_lf_lt, n_lf_lm, n_lf_lb, n_lf_lx, n_lf_lk, n_lf_lo, n_lt_l, n_lt_lf, n_lt_lm, n_lt_lb, n_lt_lx, n_lt_lk, n_lt_lo, n_lm_l, n_lm_lf, n_lm_lt, n_lm_lb, n_lm_lx, n_lm_lk, n_lm_lo, n_lb_l, n_lb_lf, n_lb_lt, n_lb_lm, n_lb_lx, n_lb_lk, n_lb_lo, n_lx_l, n_lx_lf, n_lx_lt, n_lx_lm, n_lx_lb, n_lx_lk, n_lx_lo, n_lk_l, n_lk_lf, n_lk_lt, n_lk_lm, n_lk_lb, n_lk_lx, n_lk_lo, n_lo_l, n_lo_lf, n_lo_lt, n_lo_lm, n_lo_lb, n_lo_lx, n_lo_lk]
  · simp [r_I, n_l_lf, n_l_lt, n_l_lm, n_l_lb, n_l_lx, n_l_lk, n_l_lo, n_lf_l, n_lf_lt, n_lf_lm, n_lf_lb, n_lf_lx, n_lf_lk, n_lf_lo, n_lt_l, n_lt_lf, n_lt_lm, n_lt_lb, n_lt_lx, n_lt_lk, n_lt_lo, n_lm_l, n_lm_lf, n_lm_lt, n_lm_lb, n_lm_lx, n_lm_lk, n_lm_lo, n_lb_l, n_lb_lf, n_lb_lt, n_lb_lm, n_lb_lx, n_lb_lk, n_lb_lo, n_lx_l, n_lx_lf, n_lx_lt, n_lx_lm, n_lx_lb, n_lx_lk, n_lx_lo, n_lk_l, n_lk_lf, n_lk_lt, n_lk_lm, n_lk_lb, n_lk_lx, n_lk_lo, n_lo_l, n_lo_lf, n_lo_lt, n_lo_lm, n_lo_lb, n_lo_lx, n_lo_lk]
  · simp [r_I, n_l_lf, n_l_lt, n_l_lm, n_l_lb, n_l_lx, n_l_lk, n_l_lo, n_lf_l, n_lf_lt, n_lf_lm, n_lf_lb, n_lf_lx, n_lf_lk, n_lf_lo, n_lt_l, n_lt_lf, n_lt_lm, n_lt_lb, n_lt_lx, n_lt_lk, n_lt_lo, n_lm_l, n_lm_lf, n_lm_lt, n_lm_lb, n_lm_lx, n_lm_lk, n_lm_lo, n_lb_l, n_lb_lf, n_lb_lt, n_lb_lm, n_lb_lx, n_lb_lk, n_lb_lo, n_lx_l, n_lx_lf, n_lx_lt, n_lx_lm, n_lx_lb, n_lx_lk, n_lx_lo, n_lk_l, n_lk_lf, n_lk_lt, n_lk_lm, n_lk_lb, n_lk_lx, n_lk_lo, n_lo_l, n_lo_lf, n_lo_lt, n_lo_lm, n_lo_lb, n_lo_lx, n_lo_lk]
  · simp [r_I, n_l_lf, n_l_lt, n_l_lm, n_l_lb, n_l_lx, n_l_lk, n_l_lo, n_lf_l, n_lf_lt, n_lf_lm, n_lf_lb, n_lf_lx, n_lf_lk, n_lf_lo, n_lt_l, n_lt_lf, n_lt_lm, n_lt_lb, n_lt_lx, n_lt_lk, n_lt_lo, n_lm_l, n_lm_lf, n_lm_lt, n_lm_lb, n_lm_lx, n_lm_lk, n_lm_lo, n_lb_l, n_lb_lf, n_lb_lt, n_lb_lm, n_lb_lx, n_lb_lk, n_lb_lo, n_lx_l, n_lx_lf, n_lx_lt, n_lx_lm, n_lx_lb, n_lx_lk, n_lx_lo, n_lk_l, n_lk_lf, n_lk_lt, n_lk_lm, n_lk_lb, n_lk_lx, n_lk_lo, n_lo_l, n_lo_lf, n_lo_lt, n_lo_lm, n_lo_lb, n_lo_lx, n_lo_lk]
  · simp [r_I, n_l_lf, n_l_lt, n_l_lm, n_l_lb, n_l_lx, n_l_lk, n_l_lo, n_lf_l, n_lf_lt, n_lf_lm, n_lf_lb, n_lf_lx, n_lf_lk, n_lf_lo, n_lt_l, n_lt_lf, n_lt_lm, n_lt_lb, n_lt_lx, n_lt_lk, n_lt_lo, n_lm_l, n_lm_lf, n_lm_lt, n_lm_lb, n_lm_lx, n_lm_lk, n_lm_lo, n_lb_l, n_lb_lf, n_lb_lt, n_lb_lm, n_lb_lx, n_lb_lk, n_lb_lo, n_lx_l, n_lx_lf, n_lx_lt, n_lx_lm, n_lx_lb, n_lx_lk, n_lx_lo, n_lk_l, n_lk_lf, n_lk_lt, n_lk_lm, n_lk_lb, n_lk_lx, n_lk_lo, n_lo_l, n_lo_lf, n_lo_lt, n_lo_lm, n_lo_lb, n_lo_lx, n_lo_lk]
section
variable {ρ : Nat → Nat} {c : Cm} {h o : Hp} {x0 b l : Nat}
theorem afr_r : AFr ρ l h h := ⟨fun _ _ => rfl, fun _ => rfl, fun _ _ _ _ => rfl⟩
theorem afr_t {h1 : Hp} (p : AFr ρ l h h1) (q : AFr ρ l h1 o) : AFr ρ l h o := ⟨fun a i => (q.1 a i).trans (p.1 a i), fun a => (q.2.1 a).trans (p.2.1 a), fun a i n1 n2 => (q.2.2 a i n1 n2).trans (p.2.2 a i n1 n2)⟩
theorem mv_add0 {g : Hp} {f t m bc tk k mo : Int32} (T : TH ρ c g) (f0 : AFr ρ l g h) (rx : ρ x0 = 16) (rb : ρ b = 13) (rl : ρ l = 14) (ge0 : 0 ≤ (hI h l 0).toInt) (lt0 : (hI h l 0).toInt ≤ 2999) (P : MvB x0 b l h) (E : ∀ M H, hR h b 0 = some M → hR h b 5 = some H → Ent (hI h x0 11).toInt (hI h x0 13).toInt M H (hI h b 1) h f t m k mo) (e : sX13_add h l f t m bc tk k mo = some o) : MvB x0 b l o ∧ AFr ρ l g o ∧ (hI o l 0).toInt = (hI h l 0).toInt + 1 := by
  have tr : ∀ {a i k2 : Nat}, (∃ r, hR g a i = some r ∧ ρ r = k2) → ∃ r, hR h a i = some r ∧ ρ r = k2 := fun {a i k2} q => by rw [f0.1]; exact q
  obtain ⟨lf, e1, r1⟩ := tr (thR T rl (i := 1) (k2 := 66) rfl (by decide))
  obtain ⟨lt, e2, r2⟩ := tr (thR T rl (i := 2) (k2 := 67) rfl (by decide))
  obtain ⟨lm, e3, r3⟩ := tr (thR T rl (i := 3) (k2 := 68) rfl (by decide))
  obtain ⟨lb, e4, r4⟩ := tr (thR T rl (i := 4) (k2 := 69) rfl (by decide))
  obtain ⟨lx, e5, r5⟩ := tr (thR T rl (i := 5) (k2 := 70) rfl (by decide))
  obtain ⟨lk, e6, r6⟩ := tr (thR T rl (i := 6) (k2 := 71) rfl (by decide))
  obtain ⟨lo, e7, r7⟩ := tr (thR T rl (i := 7) (k2 := 72) rfl (by decide))
  obtain ⟨M, eM, rM⟩ := tr (thR T rb (i := 0) (k2 := 62) rfl (by decide))
  obtain ⟨H, eH, rH⟩ := tr (thR T rb (i := 5) (k2 := 64) rfl (by decide))
  obtain ⟨fr, w0, wi⟩ := add_post rl r1 r2 r3 r4 r5 r6 r7 e1 e2 e3 e4 e5 e6 e7 e
  have n1 : (hI o l 0).toInt = (hI h l 0).toInt + 1 := by rw [w0]; exact ta (by show _ ≤ (hI h l 0).toInt + 1 ∧ (hI h l 0).toInt + 1 ≤ _; omega)
  refine ⟨?_, afr_t f0 fr, n1⟩
  have kM : ∀ j, hI o M j = hI h M j := fun j => fr.2.2 M j (by rw [rM]; decide) (fun q => absurd (q.1 ▸ rM) (by rw [rl]; decide))
  have kH : ∀ j, hI o H j = hI h H j := fun j => fr.2.2 H j (by rw [rH]; decide) (fun q => absurd (q.1 ▸ rH) (by rw [rl]; decide))
  have kb : hI o b 1 = hI h b 1 := fr.2.2 b 1 (by rw [rb]; decide) (fun q => absurd q.2 (by decide))
  have k11 : hI o x0 11 = hI h x0 11 := fr.2.2 x0 11 (by rw [rx]; decide) (fun q => absurd q.2 (by decide))
  have k13 : hI o x0 13 = hI h x0 13 := fr.2.2 x0 13 (by rw [rx]; decide) (fun q => absurd q.2 (by decide))
  intro M' H' lf' lt' lm' lk' lo' p1 p2 p3 p4 p5 p6 p7 i hi
  rw [fr.1] at p1 p2 p3 p4 p5 p6 p7
  have q1 := r_eq eM p1
  have q2 := r_eq eH p2
  have q3 := r_eq e1 p3
  have q4 := r_eq e2 p4
  have q5 := r_eq e3 p5
  have q6 := r_eq e6 p6
  have q7 := r_eq e7 p7
  subst q1; subst q2; subst q3; subst q4; subst q5; subst q6; subst q7
  obtain ⟨a1, a2, a3, a4, a5⟩ := wi i
  rw [a1, a2, a3, a4, a5, kb, k11, k13]
  refine ent_c kM kH ?_
  have cl0 := nc_i ge0
  by_cases q : i = (hI h l 0).toNatClampNeg
  · rw [if_pos q, if_pos q, if_pos q, if_pos q, if_pos q]
    exact E _ _ eM eH
  · rw [if_neg q, if_neg q, if_neg q, if_neg q, if_neg q]
    exact P _ _ _ _ _ _ _ eM eH e1 e2 e3 e6 e7 i (by omega)
theorem mv_add {f t m bc tk k mo : Int32} (T : TH ρ c h) (rx : ρ x0 = 16) (rb : ρ b = 13) (rl : ρ l = 14) (lt0 : (hI h l 0).toInt ≤ 2999) (P : MvB x0 b l h) (E : ∀ M H, hR h b 0 = some M → hR h b 5 = some H → Ent (hI h x0 11).toInt (hI h x0 13).toInt M H (hI h b 1) h f t m k mo) (e : sX13_add h l f t m bc tk k mo = some o) : MvB x0 b l o := (mv_add0 T afr_r rx rb rl (thI T rl (lo := 0) (hi := 3000) rfl).1 lt0 P E e).1
theorem mv_set {x y : Int32} (T : TH ρ c h) (rx : ρ x0 = 16) (rb : ρ b = 13) (rl : ρ l = 14) (hy : 0 ≤ y.toInt ∧ y.toInt < (hI h l 0).toInt) (P : MvB x0 b l h) (e : sX13_set h l x l y = some o) : MvB x0 b l o := by
  obtain ⟨lf, e1, r1⟩ := thR T rl (i := 1) (k2 := 66) rfl (by decide)
  obtain ⟨lt, e2, r2⟩ := thR T rl (i := 2) (k2 := 67) rfl (by decide)
  obtain ⟨lm, e3, r3⟩ := thR T rl (i := 3) (k2 := 68) rfl (by decide)
  obtain ⟨lb, e4, r4⟩ := thR T rl (i := 4) (k2 := 69) rfl (by decide)
  obtain ⟨lx, e5, r5⟩ := thR T rl (i := 5) (k2 := 70) rfl (by decide)
  obtain ⟨lk, e6, r6⟩ := thR T rl (i := 6) (k2 := 71) rfl (by decide)
  obtain ⟨lo, e7, r7⟩ := thR T rl (i := 7) (k2 := 72) rfl (by decide)
  obtain ⟨M, eM, rM⟩ := thR T rb (i := 0) (k2 := 62) rfl (by decide)
  obtain ⟨H, eH, rH⟩ := thR T rb (i := 5) (k2 := 64) rfl (by decide)
  obtain ⟨fr, w0, wi⟩ := set_post rl r1 r2 r3 r4 r5 r6 r7 e1 e2 e3 e4 e5 e6 e7 e
  have kM : ∀ j, hI o M j = hI h M j := fun j => fr.2.2 M j (by rw [rM]; decide) (fun q => absurd (q.1 ▸ rM) (by rw [rl]; decide))
  have kH : ∀ j, hI o H j = hI h H j := fun j => fr.2.2 H j (by rw [rH]; decide) (fun q => absurd (q.1 ▸ rH) (by rw [rl]; decide))
  have kb : hI o b 1 = hI h b 1 := fr.2.2 b 1 (by rw [rb]; decide) (fun q => absurd q.2 (by decide))
  have k11 : hI o x0 11 = hI h x0 11 := fr.2.2 x0 11 (by rw [rx]; decide) (fun q => absurd q.2 (by decide))
  have k13 : hI o x0 13 = hI h x0 13 := fr.2.2 x0 13 (by rw [rx]; decide) (fun q => absurd q.2 (by decide))
  intro M' H' lf' lt' lm' lk' lo' p1 p2 p3 p4 p5 p6 p7 i hi
  rw [fr.1] at p1 p2 p3 p4 p5 p6 p7
  rw [w0] at hi
  have q1 := r_eq eM p1
  have q2 := r_eq eH p2
  have q3 := r_eq e1 p3
  have q4 := r_eq e2 p4
  have q5 := r_eq e3 p5
  have q6 := r_eq e6 p6
  have q7 := r_eq e7 p7
  subst q1; subst q2; subst q3; subst q4; subst q5; subst q6; subst q7
  obtain ⟨a1, a2, a3, a4, a5⟩ := wi i
  rw [a1, a2, a3, a4, a5, kb, k11, k13]
  refine ent_c kM kH ?_
  by_cases q : i = x.toNatClampNeg
  · rw [if_pos q, if_pos q, if_pos q, if_pos q, if_pos q]
    exact P _ _ _ _ _ _ _ eM eH e1 e2 e3 e6 e7 _ (by rw [nc_i hy.1]; exact hy.2)
  · rw [if_neg q, if_neg q, if_neg q, if_neg q, if_neg q]
    exact P _ _ _ _ _ _ _ eM eH e1 e2 e3 e6 e7 i hi
theorem mv_cut {v : Int32} (T : TH ρ c h) (rx : ρ x0 = 16) (rb : ρ b = 13) (rl : ρ l = 14) (le : v.toInt ≤ (hI h l 0).toInt) (P : v.toInt ≤ 0 ∨ MvB x0 b l h) (e : o = wI h l 0 v) : MvB x0 b l o := by
  subst e
  intro M H lf lt lm lk lo p1 p2 p3 p4 p5 p6 p7 i hi
  rw [r_I, if_pos ⟨rfl, rfl⟩] at hi
  rcases P with P | P
  · omega
  have rM : ρ M = 62 := by obtain ⟨q, a, b⟩ := thR T rb (i := 0) (k2 := 62) rfl (by decide); rw [r_eq a p1]; exact b
  have rH : ρ H = 64 := by obtain ⟨q, a, b⟩ := thR T rb (i := 5) (k2 := 64) rfl (by decide); rw [r_eq a p2]; exact b
  have r1 : ρ lf = 66 := by obtain ⟨q, a, b⟩ := thR T rl (i := 1) (k2 := 66) rfl (by decide); rw [r_eq a p3]; exact b
  have r2 : ρ lt = 67 := by obtain ⟨q, a, b⟩ := thR T rl (i := 2) (k2 := 67) rfl (by decide); rw [r_eq a p4]; exact b
  have r3 : ρ lm = 68 := by obtain ⟨q, a, b⟩ := thR T rl (i := 3) (k2 := 68) rfl (by decide); rw [r_eq a p5]; exact b
  have r6 : ρ lk = 71 := by obtain ⟨q, a, b⟩ := thR T rl (i := 6) (k2 := 71) rfl (by decide); rw [r_eq a p6]; exact b
  have r7 : ρ lo = 72 := by obtain ⟨q, a, b⟩ := thR T rl (i := 7) (k2 := 72) rfl (by decide); rw [r_eq a p7]; exact b
  have ne : ∀ {a k : Nat}, ρ a = k → k ≠ 14 → ∀ j, hI (wI h l 0 v) a j = hI h a j := fun ha hk j => by rw [r_I, if_neg (fun q => hk (by rw [← ha, q.1, rl]))]
  rw [ne r1 (by decide), ne r2 (by decide), ne r3 (by decide), ne r6 (by decide), ne r7 (by decide), ne rb (by decide), ne rx (by decide), ne rx (by decide)]
  exact ent_c (fun j => ne rM (by decide) j) (fun j => ne rH (by decide) j) (P _ _ _ _ _ _ _ p1 p2 p3 p4 p5 p6 p7 i (by omega))
theorem mv_fr {S : Nat → Nat → Nat → Bool} {h2 : Hp} (T : TH ρ c h) (rx : ρ x0 = 16) (rb : ρ b = 13) (rl : ρ l = 14) (f : Fr ρ (cat c S h) h h2)
    (s1 : ∀ w, S 16 w 11 = false) (s2 : ∀ w, S 16 w 13 = false) (s3 : S 13 (cw c b) 0 = false) (s4 : S 13 (cw c b) 1 = false) (s5 : S 13 (cw c b) 5 = false) (s6 : ∀ i, S 62 (cw c b) i = false) (s7 : ∀ i, S 64 (cw c b) i = false)
    (t0 : S 14 (cw c l) 0 = false) (t1 : S 14 (cw c l) 1 = false) (t2 : S 14 (cw c l) 2 = false) (t3 : S 14 (cw c l) 3 = false) (t6 : S 14 (cw c l) 6 = false) (t7 : S 14 (cw c l) 7 = false)
    (u1 : ∀ i, S 66 (cw c l) i = false) (u2 : ∀ i, S 67 (cw c l) i = false) (u3 : ∀ i, S 68 (cw c l) i = false) (u6 : ∀ i, S 71 (cw c l) i = false) (u7 : ∀ i, S 72 (cw c l) i = false) (P : MvB x0 b l h) : MvB x0 b l h2 := by
  intro M H lf lt lm lk lo p1 p2 p3 p4 p5 p6 p7 i hi
  have g : ∀ {a k j : Nat}, ρ a = k → k ≠ 0 → S k (cw c a) j = false → hI h2 a j = hI h a j ∧ hR h2 a j = hR h a j := fun {a k j} ha hk hs => by
    have := f.1 a j (by rw [ha]; exact hk) (by rw [ha]; exact hs)
    exact ⟨this.1, this.2.2⟩
  rw [(g rb (by decide) s3).2] at p1
  rw [(g rb (by decide) s5).2] at p2
  rw [(g rl (by decide) t1).2] at p3
  rw [(g rl (by decide) t2).2] at p4
  rw [(g rl (by decide) t3).2] at p5
  rw [(g rl (by decide) t6).2] at p6
  rw [(g rl (by decide) t7).2] at p7
  have wM : ∀ {q j : Nat}, hR h b j = some q → cw c q = cw c b := fun hq => th_ih T rb (by decide) hq rfl
  have wl : ∀ {q j : Nat}, hR h l j = some q → cw c q = cw c l := fun hq => th_ih T rl (by decide) hq rfl
  have rM : ρ M = 62 := by obtain ⟨q, a, b⟩ := thR T rb (i := 0) (k2 := 62) rfl (by decide); rw [r_eq a p1]; exact b
  have rH : ρ H = 64 := by obtain ⟨q, a, b⟩ := thR T rb (i := 5) (k2 := 64) rfl (by decide); rw [r_eq a p2]; exact b
  have r1 : ρ lf = 66 := by obtain ⟨q, a, b⟩ := thR T rl (i := 1) (k2 := 66) rfl (by decide); rw [r_eq a p3]; exact b
  have r2 : ρ lt = 67 := by obtain ⟨q, a, b⟩ := thR T rl (i := 2) (k2 := 67) rfl (by decide); rw [r_eq a p4]; exact b
  have r3 : ρ lm = 68 := by obtain ⟨q, a, b⟩ := thR T rl (i := 3) (k2 := 68) rfl (by decide); rw [r_eq a p5]; exact b
  have r6 : ρ lk = 71 := by obtain ⟨q, a, b⟩ := thR T rl (i := 6) (k2 := 71) rfl (by decide); rw [r_eq a p6]; exact b
  have r7 : ρ lo = 72 := by obtain ⟨q, a, b⟩ := thR T rl (i := 7) (k2 := 72) rfl (by decide); rw [r_eq a p7]; exact b
  rw [(g rl (by decide) t0).1] at hi
  rw [(g r1 (by decide) (by rw [wl p3]; exact u1 _)).1, (g r2 (by decide) (by rw [wl p4]; exact u2 _)).1, (g r3 (by decide) (by rw [wl p5]; exact u3 _)).1, (g r6 (by decide) (by rw [wl p6]; exact u6 _)).1, (g r7 (by decide) (by rw [wl p7]; exact u7 _)).1, (g rb (by decide) s4).1, (g rx (by decide) (s1 _)).1, (g rx (by decide) (s2 _)).1]
  exact ent_c (fun j => (g rM (by decide) (by rw [wM p1]; exact s6 _)).1) (fun j => (g rH (by decide) (by rw [wM p2]; exact s7 _)).1) (P _ _ _ _ _ _ _ p1 p2 p3 p4 p5 p6 p7 i hi)
end
end
section
/-! trySteps: what it adds; how many moves there can be -/
theorem oth_post {h : Hp} {x0 : Nat} {m : Int32} {o : Int32 × Hp} (e : sX15_becomesOthers h x0 m = some o) : o.2 = h := by
  unfold sX15_becomesOthers sX15_becomesOthers_17 at e
  obtain ⟨_, _, e⟩ := cl_s e
  obtain ⟨_, _, e⟩ := cl_s e
  replace e := (gd_s e).2
  rcases br_s e with ⟨_, e⟩ | ⟨_, e⟩
  · rw [← Option.some.inj (gd_s e).2]
  · rw [← Option.some.inj (gd_s e).2]
/-- the rank that is a side's last -/
def lc (sd : Int32) (R : Int) : Int := if sd = 0 then R - 1 else 0
theorem rank_last {h : Hp} {x0 : Nat} {q sd : Int32} {o : Int32 × Hp} (iq : Rg 0 63 q) (iF : Rg 3 8 (hI h x0 11)) (iR : Rg 3 8 (hI h x0 12)) (e : sX15_rankFor h x0 q sd = some o) (w : o.1 = hI h x0 12) : q.toInt / (hI h x0 11).toInt = lc sd (hI h x0 12).toInt := by
  have t2 := td iq iF ⟨by decide, by decide⟩
  have q2 := rg_divv iq iF ⟨by decide, by decide⟩
  have := q2.1
  have := q2.2
  have := iR.1
  have := iR.2
  unfold sX15_rankFor sX15_rankFor_26 at e
  rcases br_s e with ⟨c1, e⟩ | ⟨c1, e⟩
  · replace e := (gd_s e).2
    have := Option.some.inj e
    rw [← this] at w
    have w := eq_i w
    rw [ta (by show _ ≤ (q / hI h x0 11).toInt + 1 ∧ (q / hI h x0 11).toInt + 1 ≤ _; omega)] at w
    have : (1 : Int32).toInt = 1 := rfl
    unfold lc
    rw [if_pos c1, ← t2]
    omega
  · replace e := (gd_s e).2
    have := Option.some.inj e
    rw [← this] at w
    have w := eq_i w
    rw [ts (by omega)] at w
    unfold lc
    rw [if_neg c1, ← t2]
    omega
theorem ts_post {ρ : Nat → Nat} {c : Cm} {F x0 b l : Nat} {h o : Hp} {s t m sd : Int32} (T : TH ρ c h) (rx : ρ x0 = 16) (rb : ρ b = 13) (rl : ρ l = 14) (is : Rg 0 63 s) (it : Rg 0 63 t) (tq : t.toInt < (hI h x0 13).toInt) (sq : s.toInt < (hI h x0 13).toInt) (lt0 : (hI h l 0).toInt ≤ 2994) (P : MvB x0 b l h) (mn : ∀ M, hR h b 0 = some M → 0 < (hI h M s.toNatClampNeg).toInt ∧ (hI h M s.toNatClampNeg - (1 : Int32)) &&& (1 : Int32) = sd) (LE : LedOk x0 b s sd h) (st : StepAt x0 t h) (e0 : sX15_trySteps F h x0 b s t m l = some o) :
    MvB x0 b l o ∧ AFr ρ l h o ∧ (hI h l 0).toInt ≤ (hI o l 0).toInt ∧ ((hI o l 0).toInt ≤ (hI h l 0).toInt + 1 ∨ ((hI o l 0).toInt ≤ (hI h l 0).toInt + 6 ∧ t.toInt / (hI h x0 11).toInt = lc (hI h b 1) (hI h x0 12).toInt)) := by
  obtain ⟨S, e25, rS⟩ := thR T rx (i := 25) (k2 := 87) rfl (by decide)
  obtain ⟨Fa, e26, rFa⟩ := thR T rx (i := 26) (k2 := 88) rfl (by decide)
  obtain ⟨M, eM, rM⟩ := thR T rb (i := 0) (k2 := 62) rfl (by decide)
  obtain ⟨H, eH, rH⟩ := thR T rb (i := 5) (k2 := 64) rfl (by decide)
  obtain ⟨R, eR, rR⟩ := thR T rx (i := 4) (k2 := 15) rfl (by decide)
  obtain ⟨Fl, eFl, rFl⟩ := thR T rR (i := 5) (k2 := 75) rfl (by decide)
  obtain ⟨Bm, eBm, rBm⟩ := thR T rR (i := 14) (k2 := 81) rfl (by decide)
  have iF : Rg 3 8 (hI h x0 11) := thI T rx rfl
  have iR : Rg 3 8 (hI h x0 12) := thI T rx rfl
  have i0 : Rg 0 3000 (hI h l 0) := thI T rl rfl
  have iBm : ∀ i, Rg 0 6 (hI h Bm i) := fun i => thI T rBm rfl
  have g0 := i0.1
  have L := LE S Fa M R Fl e25 e26 eM eR eFl t.toNatClampNeg (by rw [nc_i it.1]; exact tq) (st S e25)
  rw [nc_i it.1] at L
  obtain ⟨mn1, mn2⟩ := mn M eM
  have nts : ¬ t.toInt = s.toInt := by
    intro q
    have : t = s := Int32.toInt_inj.mp q
    rw [this] at L
    rcases L.1 with w | w
    · omega
    · exact w mn2
  -- an entry of these
  have E : ∀ k mo : Int32, (k = 0 ∨ k = 1) → (0 < mo.toInt → WayE (hI h x0 11).toInt M h s.toInt t.toInt mo.toInt) → Ent (hI h x0 11).toInt (hI h x0 13).toInt M H (hI h b 1) h s t m k mo := by
    intro k mo hk hm
    have k3 : ¬ k.toInt = 3 := by rcases hk with q | q <;> rw [q] <;> decide
    exact ⟨tq, fun q => absurd q k3, fun _ => ⟨is.1, sq, mn1⟩, fun _ q => ⟨nts, hm q⟩⟩
  have kk : ∀ {g : Hp}, AFr ρ l h g → (∀ j, hI g M j = hI h M j) ∧ (∀ j, hI g H j = hI h H j) ∧ hI g b 1 = hI h b 1 ∧ hI g x0 11 = hI h x0 11 ∧ hI g x0 13 = hI h x0 13 := fun fr =>
    ⟨fun j => fr.2.2 M j (by rw [rM]; decide) (fun q => absurd (q.1 ▸ rM) (by rw [rl]; decide)), fun j => fr.2.2 H j (by rw [rH]; decide) (fun q => absurd (q.1 ▸ rH) (by rw [rl]; decide)), fr.2.2 b 1 (by rw [rb]; decide) (fun q => absurd q.2 (by decide)), fr.2.2 x0 11 (by rw [rx]; decide) (fun q => absurd q.2 (by decide)), fr.2.2 x0 13 (by rw [rx]; decide) (fun q => absurd q.2 (by decide))⟩
  have one : ∀ (g g2 : Hp) (k mo bc tk : Int32), AFr ρ l h g → 0 ≤ (hI g l 0).toInt → (hI g l 0).toInt ≤ 2999 → MvB x0 b l g → (k = 0 ∨ k = 1) → (0 < mo.toInt → WayE (hI h x0 11).toInt M h s.toInt t.toInt mo.toInt) → sX13_add g l s t m bc tk k mo = some g2 → MvB x0 b l g2 ∧ AFr ρ l h g2 ∧ (hI g2 l 0).toInt = (hI g l 0).toInt + 1 := by
    intro g g2 k mo bc tk fr ge le Pg hk hm e
    refine mv_add0 T fr rx rb rl ge le Pg (fun M' H' p1 p2 => ?_) e
    rw [fr.1] at p1 p2
    have q1 := r_eq eM p1
    have q2 := r_eq eH p2
    subst q1; subst q2
    obtain ⟨a1, a2, a3, a4, a5⟩ := kk fr
    rw [a3, a4, a5]
    exact ent_c a1 a2 (E k mo hk hm)
  have loop : ∀ (k mo tk : Int32), (k = 0 ∨ k = 1) → (0 < mo.toInt → WayE (hI h x0 11).toInt M h s.toInt t.toInt mo.toInt) → ∀ (f : Nat) (g : Hp) (x9 : Int32), AFr ρ l h g → MvB x0 b l g → 0 ≤ x9.toInt → x9.toInt ≤ 6 → (hI g l 0).toInt = (hI h l 0).toInt + x9.toInt → sX15_trySteps_152 F f g x0 s t m l tk mo k x9 = some o → MvB x0 b l o ∧ AFr ρ l h o ∧ (hI h l 0).toInt ≤ (hI o l 0).toInt ∧ (hI o l 0).toInt ≤ (hI h l 0).toInt + 6 := by
    intro k mo tk hk hm f
    induction f with
    | zero => intro g x9 _ _ _ _ _ e; exact absurd e (by simp [sX15_trySteps_152])
    | succ f ih =>
      intro g x9 fr Pg a1 a2 a3 e
      unfold sX15_trySteps_152 at e
      replace e := cl_s e; obtain ⟨R', p1, e⟩ := e
      rw [fr.1] at p1
      have := r_eq eR p1
      subst this
      replace e := cl_s e; obtain ⟨B', p2, e⟩ := e
      rw [fr.1] at p2
      have := r_eq eBm p2
      subst this
      replace e := (gd_s e).2
      replace e := br_s e; rcases e with ⟨_, e⟩ | ⟨c1, e⟩
      · unfold sX15_trySteps_223 at e
        have := Option.some.inj e
        subst this
        exact ⟨Pg, fr, by omega, by omega⟩
      replace c1 := nle_i c1
      rw [fr.2.2 B' _ (by rw [rBm]; decide) (fun q => absurd (q.1 ▸ rBm) (by rw [rl]; decide))] at c1
      have b6 := (iBm m.toNatClampNeg).2
      replace e := cl_s e; obtain ⟨_, _, e⟩ := e
      replace e := cl_s e; obtain ⟨_, _, e⟩ := e
      replace e := (gd_s e).2
      replace e := cl_s e; obtain ⟨g2, e8, e⟩ := e
      obtain ⟨z1, z2, z3⟩ := one g g2 k mo _ tk fr (by omega) (by omega) Pg hk hm e8
      simp only [nm] at e
      have x1 : (x9 + (1 : Int32)).toInt = x9.toInt + 1 := ta (by show _ ≤ x9.toInt + 1 ∧ x9.toInt + 1 ≤ _; omega)
      exact ih g2 _ z2 z1 (by rw [x1]; omega) (by rw [x1]; omega) (by rw [x1]; omega) e
  have b106 : ∀ (k mo tk : Int32), (k = 0 ∨ k = 1) → (0 < mo.toInt → WayE (hI h x0 11).toInt M h s.toInt t.toInt mo.toInt) → sX15_trySteps_106 F h x0 b s t m l tk mo k = some o → MvB x0 b l o ∧ AFr ρ l h o ∧ (hI h l 0).toInt ≤ (hI o l 0).toInt ∧ ((hI o l 0).toInt ≤ (hI h l 0).toInt + 1 ∨ ((hI o l 0).toInt ≤ (hI h l 0).toInt + 6 ∧ t.toInt / (hI h x0 11).toInt = lc (hI h b 1) (hI h x0 12).toInt)) := by
    intro k mo tk hk hm e
    have b207 : sX15_trySteps_207 F h s t m l tk mo k = some o → MvB x0 b l o ∧ AFr ρ l h o ∧ (hI h l 0).toInt ≤ (hI o l 0).toInt ∧ ((hI o l 0).toInt ≤ (hI h l 0).toInt + 1 ∨ ((hI o l 0).toInt ≤ (hI h l 0).toInt + 6 ∧ t.toInt / (hI h x0 11).toInt = lc (hI h b 1) (hI h x0 12).toInt)) := by
      intro e
      unfold sX15_trySteps_207 sX15_trySteps_223 at e
      replace e := cl_s e; obtain ⟨g2, e8, e⟩ := e
      have := Option.some.inj e
      subst this
      obtain ⟨z1, z2, z3⟩ := one h g2 k mo _ tk afr_r g0 (by omega) P hk hm e8
      exact ⟨z1, z2, by omega, Or.inl (by omega)⟩
    have b149 : t.toInt / (hI h x0 11).toInt = lc (hI h b 1) (hI h x0 12).toInt → sX15_trySteps_149 F h x0 s t m l tk mo k = some o → MvB x0 b l o ∧ AFr ρ l h o ∧ (hI h l 0).toInt ≤ (hI o l 0).toInt ∧ ((hI o l 0).toInt ≤ (hI h l 0).toInt + 1 ∨ ((hI o l 0).toInt ≤ (hI h l 0).toInt + 6 ∧ t.toInt / (hI h x0 11).toInt = lc (hI h b 1) (hI h x0 12).toInt)) := by
      intro ra e
      unfold sX15_trySteps_149 at e
      obtain ⟨z1, z2, z3, z4⟩ := loop k mo tk hk hm F h _ afr_r P (by decide) (by decide) (by show _ = _ + (0 : Int); omega) e
      exact ⟨z1, z2, z3, Or.inr ⟨z4, ra⟩⟩
    unfold sX15_trySteps_106 at e
    replace e := cl_s e; obtain ⟨o1, e1, e⟩ := e
    have h1 := oth_post e1
    obtain ⟨v1, g1⟩ := o1
    replace h1 : g1 = h := h1
    subst h1
    replace e := br_s e; rcases e with ⟨_, e⟩ | ⟨_, e⟩
    · exact b207 e
    replace e := cl_s e; obtain ⟨o3, e3, e⟩ := e
    have h3 := (rank_post e3).1
    obtain ⟨v3, g3⟩ := o3
    replace h3 : g3 = g1 := h3
    subst h3
    replace e := br_s e; rcases e with ⟨c3, e⟩ | ⟨_, e⟩
    · have ra := rank_last it iF iR e3 c3
      replace e := cl_s e; obtain ⟨_, _, e⟩ := e
      replace e := br_s e; rcases e with ⟨_, e⟩ | ⟨_, e⟩
      · exact b149 ra e
      replace e := br_s e; rcases e with ⟨_, e⟩ | ⟨_, e⟩
      · exact b149 ra e
      · exact b207 e
    · exact b207 e
  have b90 : ∀ (mo tk : Int32), (0 < mo.toInt → WayE (hI h x0 11).toInt M h s.toInt t.toInt mo.toInt) → sX15_trySteps_90 F h x0 b s t m l tk mo = some o → MvB x0 b l o ∧ AFr ρ l h o ∧ (hI h l 0).toInt ≤ (hI o l 0).toInt ∧ ((hI o l 0).toInt ≤ (hI h l 0).toInt + 1 ∨ ((hI o l 0).toInt ≤ (hI h l 0).toInt + 6 ∧ t.toInt / (hI h x0 11).toInt = lc (hI h b 1) (hI h x0 12).toInt)) := by
    intro mo tk hm e
    unfold sX15_trySteps_90 at e
    replace e := cl_s e; obtain ⟨_, _, e⟩ := e
    replace e := (gd_s e).2
    replace e := br_s e; rcases e with ⟨_, e⟩ | ⟨_, e⟩
    · exact b106 _ _ _ (Or.inl rfl) hm e
    · exact b106 _ _ _ (Or.inr rfl) hm e
  have b48 : ∀ (tk : Int32), sX15_trySteps_48 F h x0 b s t m l tk = some o → MvB x0 b l o ∧ AFr ρ l h o ∧ (hI h l 0).toInt ≤ (hI o l 0).toInt ∧ ((hI o l 0).toInt ≤ (hI h l 0).toInt + 1 ∨ ((hI o l 0).toInt ≤ (hI h l 0).toInt + 6 ∧ t.toInt / (hI h x0 11).toInt = lc (hI h b 1) (hI h x0 12).toInt)) := by
    intro tk e
    have z : 0 < (0 : Int32).toInt → WayE (hI h x0 11).toInt M h s.toInt t.toInt (0 : Int32).toInt := fun q => absurd q (by decide)
    unfold sX15_trySteps_48 sX15_trySteps_89 at e
    replace e := cl_s e; obtain ⟨R', p1, e⟩ := e
    have := r_eq eR p1
    subst this
    replace e := cl_s e; obtain ⟨Fl', p2, e⟩ := e
    have := r_eq eFl p2
    subst this
    replace e := cl_s e; obtain ⟨S', p3, e⟩ := e
    have := r_eq e25 p3
    subst this
    replace e := (gd_s e).2
    replace e := (gd_s e).2
    replace e := br_s e; rcases e with ⟨_, e⟩ | ⟨c1, e⟩
    · exact b90 _ _ z e
    replace e := cl_s e; obtain ⟨_, _, e⟩ := e
    replace e := (gd_s e).2
    replace e := br_s e; rcases e with ⟨_, e⟩ | ⟨_, e⟩
    · exact b90 _ _ z e
    replace e := cl_s e; obtain ⟨F', p4, e⟩ := e
    have := r_eq e26 p4
    subst this
    replace e := (gd_s e).2
    exact b90 _ _ (fun _ => L.2 c1) e
  have e := e0
  unfold sX15_trySteps at e
  replace e := cl_s e; obtain ⟨_, _, e⟩ := e
  replace e := (gd_s e).2
  replace e := br_s e; rcases e with ⟨_, e⟩ | ⟨_, e⟩
  · replace e := cl_s e; obtain ⟨_, _, e⟩ := e
    replace e := (gd_s e).2
    replace e := br_s e; rcases e with ⟨_, e⟩ | ⟨_, e⟩
    · exact b48 _ e
    replace e := cl_s e; obtain ⟨_, _, e⟩ := e
    replace e := (gd_s e).2
    replace e := cl_s e; obtain ⟨o9, e9, e⟩ := e
    unfold sX15_manOf at e9
    have := Option.some.inj e9
    subst this
    exact b48 _ e
  · replace e := cl_s e; obtain ⟨_, _, e⟩ := e
    replace e := cl_s e; obtain ⟨_, _, e⟩ := e
    replace e := (gd_s e).2
    replace e := (gd_s e).2
    replace e := cl_s e; obtain ⟨o14, e14, e⟩ := e
    unfold sX15_manOf at e14
    have := Option.some.inj e14
    subst this
    exact b48 _ e
/-! how many moves there can be -/
def ow (v sd : Int32) : Bool := decide (0 < v.toInt) && decide ((v - (1 : Int32)) &&& (1 : Int32) = sd)
def Kc (g : Nat → Int32) (sd : Int32) : Nat → Int
  | 0 => 0
  | n + 1 => Kc g sd n + if ow (g n) sd = true then 1 else 0
def Ac (g : Nat → Int32) (sd : Int32) (F cc : Int) : Nat → Int
  | 0 => 0
  | n + 1 => Ac g sd F cc n + if ow (g n) sd = true then 0 else if (n : Int) / F = cc then 6 else 1
def Oc (g : Nat → Int32) : Nat → Int
  | 0 => 0
  | n + 1 => Oc g n + if (g n).toInt = 0 then 1 else 0
section
variable {g : Nat → Int32} {sd : Int32} {F cc : Int}
theorem kc_1 {n : Nat} : (ow (g n) sd = true ∧ Kc g sd (n + 1) = Kc g sd n + 1) ∨ (¬ ow (g n) sd = true ∧ Kc g sd (n + 1) = Kc g sd n) := by
  by_cases q : ow (g n) sd = true
  · exact Or.inl ⟨q, by simp [Kc, q]⟩
  · exact Or.inr ⟨q, by simp [Kc, q]⟩
theorem ec_1 {n : Nat} : ((g n).toInt = 0 ∧ Oc g (n + 1) = Oc g n + 1) ∨ (¬ (g n).toInt = 0 ∧ Oc g (n + 1) = Oc g n) := by
  by_cases q : (g n).toInt = 0
  · exact Or.inl ⟨q, by simp [Oc, q]⟩
  · exact Or.inr ⟨q, by simp [Oc, q]⟩
theorem ac_1 {n : Nat} : (ow (g n) sd = true ∧ Ac g sd F cc (n + 1) = Ac g sd F cc n) ∨ (¬ ow (g n) sd = true ∧ (n : Int) / F = cc ∧ Ac g sd F cc (n + 1) = Ac g sd F cc n + 6) ∨ (¬ ow (g n) sd = true ∧ ¬ (n : Int) / F = cc ∧ Ac g sd F cc (n + 1) = Ac g sd F cc n + 1) := by
  by_cases q : ow (g n) sd = true
  · exact Or.inl ⟨q, by simp [Ac, q]⟩
  · by_cases p : (n : Int) / F = cc
    · exact Or.inr (Or.inl ⟨q, p, by simp [Ac, q, p]⟩)
    · exact Or.inr (Or.inr ⟨q, p, by simp [Ac, q, p]⟩)
theorem ow_pos {v : Int32} (h : ow v sd = true) : 0 < v.toInt := by
  unfold ow at h
  rw [Bool.and_eq_true, decide_eq_true_eq] at h
  exact h.1
theorem ke_b (n : Nat) : 0 ≤ Kc g sd n ∧ 0 ≤ Oc g n ∧ Kc g sd n + Oc g n ≤ n := by
  induction n with
  | zero => simp [Kc, Oc]
  | succ n ih =>
    rcases kc_1 (g := g) (sd := sd) (n := n) with ⟨a, b⟩ | ⟨a, b⟩ <;> rcases ec_1 (g := g) (n := n) with ⟨c, d⟩ | ⟨c, d⟩
    · exact absurd (ow_pos a) (by omega)
    · omega
    · omega
    · omega
theorem kc_m {n m : Nat} (h : n ≤ m) : Kc g sd n ≤ Kc g sd m := by
  induction h with
  | refl => exact Int.le_refl _
  | step _ ih => rcases kc_1 (g := g) (sd := sd) with ⟨_, b⟩ | ⟨_, b⟩ <;> rw [b] <;> omega
theorem ec_m {n m : Nat} (h : n ≤ m) : Oc g n ≤ Oc g m := by
  induction h with
  | refl => exact Int.le_refl _
  | step _ ih => rcases ec_1 (g := g) with ⟨_, b⟩ | ⟨_, b⟩ <;> rw [b] <;> omega
theorem ac_m {n m : Nat} (h : n ≤ m) : Ac g sd F cc n ≤ Ac g sd F cc m := by
  induction h with
  | refl => exact Int.le_refl _
  | step _ ih => rcases ac_1 (g := g) (sd := sd) (F := F) (cc := cc) with ⟨_, b⟩ | ⟨_, _, b⟩ | ⟨_, _, b⟩ <;> rw [b] <;> omega
theorem ac_0 (n : Nat) : 0 ≤ Ac g sd F cc n := ac_m (n := 0) (Nat.zero_le n)
def Lc (F c0 : Int) (n : Nat) : Int := if (n : Int) ≤ c0 then 0 else if (n : Int) ≤ c0 + F then n - c0 else F
theorem ac_b0 (hF : 0 < F) (n : Nat) : Ac g sd F cc n + Kc g sd n ≤ n + 5 * Lc F (cc * F) n := by
  induction n with
  | zero => simp [Ac, Kc, Lc]; split <;> (try split) <;> omega
  | succ n ih =>
    have m1 : Lc F (cc * F) n ≤ Lc F (cc * F) (n + 1) := by unfold Lc; split <;> split <;> (try split) <;> (try split) <;> omega
    rcases ac_1 (g := g) (sd := sd) (F := F) (cc := cc) (n := n) with ⟨a, b⟩ | ⟨a, p, b⟩ | ⟨a, p, b⟩ <;> rcases kc_1 (g := g) (sd := sd) (n := n) with ⟨c, d⟩ | ⟨c, d⟩
    · omega
    · exact absurd a c
    · exact absurd c a
    · have q1 := Int.emod_nonneg (n : Int) (show F ≠ 0 by omega)
      have q2 := Int.emod_lt_of_pos (n : Int) hF
      have q3 := Int.mul_ediv_add_emod (n : Int) F
      rw [p, Int.mul_comm] at q3
      have : Lc F (cc * F) (n + 1) = Lc F (cc * F) n + 1 := by
        unfold Lc
        rw [if_neg (by omega), if_pos (by omega)]
        by_cases w : (n : Int) ≤ cc * F
        · rw [if_pos w]; omega
        · rw [if_neg w, if_pos (by omega)]; omega
      omega
    · exact absurd c a
    · omega
theorem ac_b (hF : 0 < F) (h8 : F ≤ 8) (n : Nat) : Ac g sd F cc n + Kc g sd n ≤ n + 40 := by
  have := ac_b0 (g := g) (sd := sd) (cc := cc) hF n
  have : Lc F (cc * F) n ≤ F := by unfold Lc; split <;> (try split) <;> omega
  omega
end
theorem kd_b (k : Int) (h0 : 0 ≤ k) (h1 : k ≤ 64) : k * (106 - k) + 12 * (64 - k) ≤ 2977 ∧ k * (106 - k) ≤ 2809 ∧ 0 ≤ k * (106 - k) := by
  have all : ∀ j : Fin 65, (j.val : Int) * (106 - (j.val : Int)) + 12 * (64 - (j.val : Int)) ≤ 2977 ∧ (j.val : Int) * (106 - (j.val : Int)) ≤ 2809 ∧ 0 ≤ (j.val : Int) * (106 - (j.val : Int)) := by decide
  have := all ⟨k.toNat, by omega⟩
  have e : ((k.toNat : Nat) : Int) = k := by omega
  simp only [e] at this
  exact this
end
