section
/-! make: the first blocks -/
section
variable {zq : Nat} {ρ : Nat → Nat} {c : Cm} {h o g h0 : Hp} {x0 x1 x2 x4 M P H C R A B P1 lb lx lk lo j F : Nat} {tk kd mo p0 x3 x5 x6 x7 x8 x10 q v : Int32}
theorem lv_z {y : Nat} (Q : MkZ ρ x0 x1 x2 x4 M P H C R A B P1 lb lx lk lo j tk kd mo p0 h) (e : sX15_leave h y x4 q = some o) : MfZ x0 x4 M P H C h o ∧ q.toNatClampNeg < 64 ∧ (∀ i, hI o M i = if i = q.toNatClampNeg then (0 : Int32) else hI h M i) ∧ (∀ i, hI o H i = hI h H i) ∧ hI o x4 3 = hI h x4 3 ∧ cRt (hJ o x4 2) zq ≤ cRt (hJ h x4 2) zq := by
  unfold sX15_leave at e
  simp only [nm] at e
  replace e := cl_s e; obtain ⟨M', em, e⟩ := e
  have y : M' = M := r_eq Q.1.1 em
  subst y
  have gi := (gd_s e).1
  replace e := (gd_s e).2
  rw [Q.2.2.2.1.1] at gi
  have gb := inb_r gi
  have cq := nc_i gb.1
  obtain ⟨b1, b2, b3, b4, b5, b6, b7, b8, b9, b10⟩ := Q.2.1
  have ne : ∀ {a d p q : Nat}, ρ a = p → ρ d = q → p ≠ q → ¬ a = d := fun ha hd hpq z => hpq (by rw [← ha, z]; exact hd)
  rw [← Option.some.inj e]
  refine ⟨mfz_t (mfz_w (Or.inl rfl)) mfz_J, by omega, fun i => ?_, fun i => ?_, ?_, ?_⟩
  · show hI (wI h M' q.toNatClampNeg (0 : Int32)) M' i = _
    rw [r_I]
    by_cases z : i = q.toNatClampNeg
    · rw [if_pos ⟨rfl, z⟩, if_pos z]
    · rw [if_neg (fun w => z w.2), if_neg z]
  · show hI (wI h M' q.toNatClampNeg (0 : Int32)) H i = _
    rw [rI_a (ne b4 b2 (by decide))]
  · show hI (wI h M' q.toNatClampNeg (0 : Int32)) x4 3 = _
    rw [rI_a (ne b1 b2 (by decide))]
  · have : hJ (wJ (wI h M' q.toNatClampNeg (0 : Int32)) x4 2 ((hJ h x4 2) &&& (((1 : Int64) <<< (q.toInt64 &&& 63)) ^^^ (-1 : Int64)))) x4 2 = (hJ h x4 2) &&& (((1 : Int64) <<< (q.toInt64 &&& 63)) ^^^ (-1 : Int64)) := by rw [r_J, if_pos ⟨rfl, rfl⟩]
    show cRt (hJ (wJ (wI h M' q.toNatClampNeg (0 : Int32)) x4 2 ((hJ h x4 2) &&& (((1 : Int64) <<< (q.toInt64 &&& 63)) ^^^ (-1 : Int64)))) x4 2) zq ≤ _
    rw [this]
    exact crt_and _ _ _
theorem cm_z {y : Nat} (Q : MkZ ρ x0 x1 x2 x4 M P H C R A B P1 lb lx lk lo j tk kd mo p0 h) (e : sX15_come h y x4 q v = some o) : MfZ x0 x4 M P H C h o ∧ q.toNatClampNeg < 64 ∧ (∀ i, hI o M i = if i = q.toNatClampNeg then v else hI h M i) ∧ (∀ i, hI o H i = hI h H i) ∧ hI o x4 3 = hI h x4 3 ∧ cRt (hJ o x4 2) zq ≤ cRt (hJ h x4 2) zq := by
  unfold sX15_come at e
  simp only [nm] at e
  replace e := cl_s e; obtain ⟨M', em, e⟩ := e
  have y : M' = M := r_eq Q.1.1 em
  subst y
  have gi := (gd_s e).1
  replace e := (gd_s e).2
  rw [Q.2.2.2.1.1] at gi
  have gb := inb_r gi
  have cq := nc_i gb.1
  obtain ⟨b1, b2, b3, b4, b5, b6, b7, b8, b9, b10⟩ := Q.2.1
  have ne : ∀ {a d p q : Nat}, ρ a = p → ρ d = q → p ≠ q → ¬ a = d := fun ha hd hpq z => hpq (by rw [← ha, z]; exact hd)
  rw [← Option.some.inj e]
  refine ⟨mfz_t (mfz_w (Or.inl rfl)) mfz_J, by omega, fun i => ?_, fun i => ?_, ?_, ?_⟩
  · show hI (wI h M' q.toNatClampNeg v) M' i = _
    rw [r_I]
    by_cases z : i = q.toNatClampNeg
    · rw [if_pos ⟨rfl, z⟩, if_pos z]
    · rw [if_neg (fun w => z w.2), if_neg z]
  · show hI (wI h M' q.toNatClampNeg v) H i = _
    rw [rI_a (ne b4 b2 (by decide))]
  · show hI (wI h M' q.toNatClampNeg v) x4 3 = _
    rw [rI_a (ne b1 b2 (by decide))]
  · have : hJ (wJ (wI h M' q.toNatClampNeg v) x4 2 ((hJ h x4 2) &&& (((1 : Int64) <<< (q.toInt64 &&& 63)) ^^^ (-1 : Int64)))) x4 2 = (hJ h x4 2) &&& (((1 : Int64) <<< (q.toInt64 &&& 63)) ^^^ (-1 : Int64)) := by rw [r_J, if_pos ⟨rfl, rfl⟩]
    show cRt (hJ (wJ (wI h M' q.toNatClampNeg v) x4 2 ((hJ h x4 2) &&& (((1 : Int64) <<< (q.toInt64 &&& 63)) ^^^ (-1 : Int64)))) x4 2) zq ≤ _
    rw [this]
    exact crt_and _ _ _
theorem lv_t {y : Nat} (Q : MkZ ρ x0 x1 x2 x4 M P H C R A B P1 lb lx lk lo j tk kd mo p0 h) (e : sX15_leave h y x4 q = some o) : tot M H o = tot M H h - (if 0 < (hI h M q.toNatClampNeg).toInt then 1 else 0) := by
  obtain ⟨_, l64, kM, kH, _, _⟩ := lv_z (zq := 0) Q e
  rw [tot_M l64 kH kM, if_neg (show ¬ 0 < (0 : Int32).toInt by decide)]
  omega
theorem cm_t {y : Nat} (Q : MkZ ρ x0 x1 x2 x4 M P H C R A B P1 lb lx lk lo j tk kd mo p0 h) (e : sX15_come h y x4 q v = some o) : tot M H o ≤ tot M H h + 1 := by
  obtain ⟨_, l64, kM, kH, _, _⟩ := cm_z (zq := 0) Q e
  rw [tot_M l64 kH kM]
  split <;> split <;> omega
/-- few men, and no pass -/
def MY (zq : Nat) (M H x4 : Nat) (n : Int) (h : Hp) : Prop := tot M H h ≤ n ∧ cRt (hJ h x4 2) zq ≤ 16 ∧ hI h x4 3 = 0
theorem my_lv {y : Nat} {n : Int} (Q : MkZ ρ x0 x1 x2 x4 M P H C R A B P1 lb lx lk lo j tk kd mo p0 h) (Y : MY zq M H x4 n h) (e : sX15_leave h y x4 q = some o) : MkZ ρ x0 x1 x2 x4 M P H C R A B P1 lb lx lk lo j tk kd mo p0 o ∧ MY zq M H x4 n o := by
  obtain ⟨k, l64, kM, kH, k3, kJ⟩ := lv_z (zq := zq) Q e
  have t := lv_t Q e
  refine ⟨mkz_k k Q, ?_, by have := Y.2.1; omega, by rw [k3]; exact Y.2.2⟩
  have := Y.1
  rw [t]
  split <;> omega
theorem my_d {y : Int32} (X : MY zq M H x4 96 h) : WrD zq M P H x4 y h := by
  have z0 : (0 : Int32).toInt = 0 := rfl
  refine ⟨X.1, X.2.1, by rw [X.2.2]; decide, fun n => ?_⟩
  rw [X.2.2, z0] at n
  omega
theorem bl_8 {n : Int} : ∀ (f : Nat) {h : Hp} {y3 : Int32}, MkZ ρ x0 x1 x2 x4 M P H C R A B P1 lb lx lk lo j tk kd mo p0 h → MY zq M H x4 n h → sX15_blast_8 F f h x0 x4 q y3 = some o → MkZ ρ x0 x1 x2 x4 M P H C R A B P1 lb lx lk lo j tk kd mo p0 o ∧ MY zq M H x4 n o := by
  intro f
  induction f with
  | zero => intro h y3 _ _ e; exact absurd e (by simp [sX15_blast_8])
  | succ f ih =>
    intro h y3 Q Y e
    unfold sX15_blast_8 sX15_blast_60 at e
    have b61 : ∀ {t0 : Int32}, sX15_blast_61 F (sX15_blast_8 F f) h x0 x4 q y3 t0 = some o → MkZ ρ x0 x1 x2 x4 M P H C R A B P1 lb lx lk lo j tk kd mo p0 o ∧ MY zq M H x4 n o := by
      intro t0 e
      unfold sX15_blast_61 sX15_blast_105 at e
      simp only [nm] at e
      replace e := br_s e; rcases e with ⟨_, e⟩ | ⟨_, e⟩
      · exact ih Q Y e
      replace e := cl_s e; obtain ⟨_, _, e⟩ := e
      replace e := (gd_s e).2
      replace e := br_s e; rcases e with ⟨_, e⟩ | ⟨_, e⟩
      · exact ih Q Y e
      replace e := cl_s e; obtain ⟨_, _, e⟩ := e
      replace e := cl_s e; obtain ⟨_, _, e⟩ := e
      replace e := (gd_s e).2
      replace e := cl_s e; obtain ⟨o8, e8, e⟩ := e
      unfold sX15_manOf at e8
      have := Option.some.inj e8; subst this
      dsimp only at e
      replace e := br_s e; rcases e with ⟨_, e⟩ | ⟨_, e⟩
      · replace e := cl_s e; obtain ⟨o10, e10, e⟩ := e
        obtain ⟨Q10, Y10⟩ := my_lv Q Y e10
        exact ih Q10 Y10 e
      · exact ih Q Y e
    replace e := br_s e; rcases e with ⟨_, e⟩ | ⟨_, e⟩
    · rw [← Option.some.inj e]; exact ⟨Q, Y⟩
    replace e := (gd_s e).2
    replace e := (gd_s e).2
    replace e := br_s e; rcases e with ⟨_, e⟩ | ⟨_, e⟩
    · exact b61 e
    replace e := (gd_s e).2
    replace e := (gd_s e).2
    replace e := br_s e; rcases e with ⟨_, e⟩ | ⟨_, e⟩
    · exact b61 e
    · exact b61 e
theorem mk_339 {x9 : Int32} (hj : j = x3.toNatClampNeg) (h5 : Rg 0 1 x5) (m8 : kd = (0 : Int32) ∨ kd = (1 : Int32) → mo.toInt ≤ 8) (hk : Rg 0 3 kd) (Q : MkZ ρ x0 x1 x2 x4 M P H C R A B P1 lb lx lk lo j tk kd mo p0 h) (X : MX zq M H x4 kd x5 x7 h) (e : sX15_make_339 F h x0 x1 x2 x3 x4 x5 x6 x7 x8 x9 x10 = some o) : WrE zq x4 o := by
  unfold sX15_make_339 at e
  replace e := br_s e; rcases e with ⟨_, e⟩ | ⟨_, e⟩
  · exact mk_365 hj h5 m8 hk Q X e
  replace e := cl_s e; obtain ⟨_, _, e⟩ := e
  replace e := br_s e; rcases e with ⟨_, e⟩ | ⟨_, e⟩
  · exact mk_365 hj h5 m8 hk Q X e
  replace e := cl_s e; obtain ⟨o4, e4, e⟩ := e
  unfold sX15_blast at e4
  replace e4 := cl_s e4; obtain ⟨o1, e1, e4⟩ := e4
  obtain ⟨Q1, Y1⟩ := my_lv Q ⟨X.1, X.2.1, X.2.2.1⟩ e1
  obtain ⟨Q4, Y4⟩ := bl_8 F Q1 Y1 e4
  exact mk_508 Q4 (my_d Y4) e
theorem mk_294 {x9 : Int32} (hj : j = x3.toNatClampNeg) (h5 : Rg 0 1 x5) (m8 : kd = (0 : Int32) ∨ kd = (1 : Int32) → mo.toInt ≤ 8) (hk : Rg 0 3 kd) : ∀ (f : Nat) {h : Hp} {x11 : Int32}, MkZ ρ x0 x1 x2 x4 M P H C R A B P1 lb lx lk lo j tk kd mo p0 h → MX zq M H x4 kd x5 x7 h → sX15_make_294 F f h x0 x1 x2 x3 x4 x5 x6 x7 x8 x9 x10 x11 = some o → WrE zq x4 o := by
  intro f
  induction f with
  | zero => intro h x11 _ _ e; exact absurd e (by simp [sX15_make_294])
  | succ f ih =>
    intro h x11 Q X e
    unfold sX15_make_294 sX15_make_333 at e
    replace e := br_s e; rcases e with ⟨_, e⟩ | ⟨_, e⟩
    · exact mk_339 hj h5 m8 hk Q X e
    replace e := cl_s e; obtain ⟨o2, e2, e⟩ := e
    rw [(rank_post e2).1] at e
    replace e := br_s e; rcases e with ⟨_, e⟩ | ⟨_, e⟩
    · replace e := nm_s e; obtain ⟨h4, w4, e⟩ := e
      replace e := nm_s e; obtain ⟨_, _, e⟩ := e
      refine ih (mkz_k (by rw [w4]; exact mfz_J) Q) ?_ e
      have kM : ∀ i, hI h4 M i = hI h M i := fun i => by rw [w4]; rfl
      have kH : ∀ i, hI h4 H i = hI h H i := fun i => by rw [w4]; rfl
      refine ⟨by rw [tot_k kM kH]; exact X.1, ?_, by rw [w4]; exact X.2.2.1, fun n => by rw [kM]; exact X.2.2.2 n⟩
      have := crt_and (hJ h x4 2) (((1 : Int64) <<< (x11.toInt64 &&& 63)) ^^^ (-1 : Int64)) zq
      rw [w4, r_J, if_pos ⟨rfl, rfl⟩]
      have := X.2.1
      omega
    · replace e := nm_s e; obtain ⟨_, _, e⟩ := e
      exact ih Q X e
theorem mk_273 {x9 : Int32} (hj : j = x3.toNatClampNeg) (h5 : Rg 0 1 x5) (m8 : kd = (0 : Int32) ∨ kd = (1 : Int32) → mo.toInt ≤ 8) (hk : Rg 0 3 kd) (Q : MkZ ρ x0 x1 x2 x4 M P H C R A B P1 lb lx lk lo j tk kd mo p0 h) (X : MX zq M H x4 kd x5 x7 h) (e : sX15_make_273 F h x0 x1 x2 x3 x4 x5 x6 x7 x8 x9 x10 = some o) : WrE zq x4 o := by
  unfold sX15_make_273 at e
  replace e := br_s e; rcases e with ⟨_, e⟩ | ⟨_, e⟩
  · exact mk_339 hj h5 m8 hk Q X e
  replace e := cl_s e; obtain ⟨_, _, e⟩ := e
  replace e := br_s e; rcases e with ⟨_, e⟩ | ⟨_, e⟩
  · exact mk_294 hj h5 m8 hk F Q X e
  · exact mk_339 hj h5 m8 hk Q X e
theorem mk_219 {t0 : Int32} (hj : j = x3.toNatClampNeg) (h5 : Rg 0 1 x5) (m8 : kd = (0 : Int32) ∨ kd = (1 : Int32) → mo.toInt ≤ 8) (hk : Rg 0 3 kd) (ht : Rg 0 11 t0) (Q : MkZ ρ x0 x1 x2 x4 M P H C R A B P1 lb lx lk lo j tk kd mo p0 h) (Y : MY zq M H x4 95 h) (hm : kd = (2 : Int32) → 0 < (hI h M mo.toNatClampNeg).toInt) (e : sX15_make_219 F h x0 x1 x2 x3 x4 x5 x6 x7 x8 kd x10 t0 x7 x4 x0 = some o) : WrE zq x4 o := by
  unfold sX15_make_219 at e
  replace e := cl_s e; obtain ⟨o1, e1, e⟩ := e
  unfold sX15_valueOf at e1
  have e1 := Option.some.inj e1
  obtain ⟨v, hv⟩ : ∃ v, v = o1.1 := ⟨_, rfl⟩
  have ev : v = ((1 : Int32) + ((2 : Int32) * t0)) + x5 := by rw [hv, ← e1]
  have eh : o1.2 = h := by rw [← e1]
  rw [eh, ← hv] at e
  obtain ⟨vp, vs⟩ := val_ps ht h5 ev
  replace e := cl_s e; obtain ⟨o2, e2, e⟩ := e
  obtain ⟨k2, l2, kM2, kH2, k32, kJ2⟩ := cm_z (zq := zq) Q e2
  have t2 := cm_t Q e2
  have Q2 := mkz_k k2 Q
  have y1 := Y.1
  have y2 := Y.2.1
  have m7 : hI o2 M x7.toNatClampNeg = v := by rw [kM2, if_pos rfl]
  replace e := br_s e; rcases e with ⟨kz, e⟩ | ⟨kz, e⟩
  · replace e := cl_s e; obtain ⟨_, _, e⟩ := e
    replace e := cl_s e; obtain ⟨lo', eo, e⟩ := e
    have y : lo' = lo := r_eq Q2.1.2.2.2.2.2.2.2.2 eo
    subst y
    replace e := (gd_s e).2
    replace e := (gd_s e).2
    replace e := nm_s e; obtain ⟨v8, w8, e⟩ := e
    replace e := cl_s e; obtain ⟨lo'', eo', e⟩ := e
    have y : lo'' = lo' := r_eq eo eo'
    subst y
    replace e := (gd_s e).2
    rw [← hj, Q2.2.2.2.2.1.2.2.1] at e
    replace e := cl_s e; obtain ⟨o11, e11, e⟩ := e
    obtain ⟨k11, l11, kM11, kH11, k311, kJ11⟩ := lv_z (zq := zq) Q2 e11
    have t11 := lv_t Q2 e11
    have mp : 0 < (hI o2 M mo.toNatClampNeg).toInt := by
      rw [kM2]
      split
      · exact vp
      · exact hm kz
    rw [if_pos mp] at t11
    have Q11 := mkz_k k11 Q2
    replace e := cl_s e; obtain ⟨o12, e12, e⟩ := e
    obtain ⟨k12, l12, kM12, kH12, k312, kJ12⟩ := cm_z (zq := zq) Q11 e12
    have t12 := cm_t Q11 e12
    exact mk_273 hj h5 m8 hk (mkz_k k12 Q11) ⟨by omega, by omega, by rw [k312, k311, k32]; exact Y.2.2, fun n => absurd kz n⟩ e
  · exact mk_273 hj h5 m8 hk Q2 ⟨by omega, by omega, by rw [k32]; exact Y.2.2, fun _ => by rw [m7]; exact ⟨vp, vs⟩⟩ e
theorem mk_193 (hj : j = x3.toNatClampNeg) (h5 : Rg 0 1 x5) (m8 : kd = (0 : Int32) ∨ kd = (1 : Int32) → mo.toInt ≤ 8) (hk : Rg 0 3 kd) (h8 : Rg 0 11 x8) (Q : MkZ ρ x0 x1 x2 x4 M P H C R A B P1 lb lx lk lo j tk kd mo p0 h) (Y : MY zq M H x4 95 h) (hm : kd = (2 : Int32) → 0 < (hI h M mo.toNatClampNeg).toInt) (e : sX15_make_193 F h x0 x1 x2 x3 x4 x5 x6 x7 x8 kd x10 = some o) : WrE zq x4 o := by
  unfold sX15_make_193 at e
  replace e := cl_s e; obtain ⟨lb', eb, e⟩ := e
  have y : lb' = lb := r_eq Q.1.2.2.2.2.2.1 eb
  subst y
  replace e := (gd_s e).2
  replace e := br_s e; rcases e with ⟨_, e⟩ | ⟨n, e⟩
  · exact mk_219 hj h5 m8 hk h8 Q Y hm e
  replace e := cl_s e; obtain ⟨lb'', eb', e⟩ := e
  have y : lb'' = lb' := r_eq eb eb'
  subst y
  replace e := (gd_s e).2
  refine mk_219 hj h5 m8 hk ?_ Q Y hm e
  have r := Q.2.2.2.2.2.1
  rw [hj] at r
  exact rg_nlo n r (rg_b rfl)
/-- before a man is lifted -/
def M0 (zq : Nat) (M H x4 : Nat) (kd mo x5 x6 x8 : Int32) (h : Hp) : Prop := MY zq M H x4 96 h ∧ (kd = (3 : Int32) → 0 < (hI h H (((2 : Int32) * x8) + x5).toNatClampNeg).toInt) ∧ (¬ kd = (3 : Int32) → 0 < (hI h M x6.toNatClampNeg).toInt) ∧ (kd = (2 : Int32) → ¬ mo.toNatClampNeg = x6.toNatClampNeg ∧ 0 < (hI h M mo.toNatClampNeg).toInt)
theorem mk_159 (hj : j = x3.toNatClampNeg) (h5 : Rg 0 1 x5) (m8 : kd = (0 : Int32) ∨ kd = (1 : Int32) → mo.toInt ≤ 8) (hk : Rg 0 3 kd) (h8 : Rg 0 11 x8) (Q : MkZ ρ x0 x1 x2 x4 M P H C R A B P1 lb lx lk lo j tk kd mo p0 h) (Z : M0 zq M H x4 kd mo x5 x6 x8 h) (e : sX15_make_159 F h x0 x1 x2 x3 x4 x5 x6 x7 x8 kd x10 = some o) : WrE zq x4 o := by
  obtain ⟨Y, z1, z2, z3⟩ := Z
  have y1 := Y.1
  have y2 := Y.2.1
  obtain ⟨b1, b2, b3, b4, b5, b6, b7, b8, b9, b10⟩ := Q.2.1
  have ne : ∀ {a d p q : Nat}, ρ a = p → ρ d = q → p ≠ q → ¬ a = d := fun ha hd hpq z => hpq (by rw [← ha, z]; exact hd)
  unfold sX15_make_159 at e
  replace e := br_s e; rcases e with ⟨kz, e⟩ | ⟨kz, e⟩
  · replace e := cl_s e; obtain ⟨H', eh, e⟩ := e
    have y : H' = H := r_eq Q.1.2.2.1 eh
    subst y
    have gi := (gd_s e).1
    rw [Q.2.2.2.1.2] at gi
    have gb := inb_r gi
    have cq := nc_i gb.1
    replace e := (gd_s e).2
    replace e := (gd_s e).2
    replace e := nm_s e; obtain ⟨h6, w6, e⟩ := e
    have hp := z1 kz
    have kM : ∀ i, hI h6 M i = hI h M i := fun i => by rw [w6, rI_a (ne b2 b4 (by decide))]
    have tt : tot M H' h6 = tot M H' h - 1 := by
      have o1 : (1 : Int32).toInt = 1 := rfl
      have tv : (hI h H' (((2 : Int32) * x8) + x5).toNatClampNeg - (1 : Int32)).toInt = (hI h H' (((2 : Int32) * x8) + x5).toNatClampNeg).toInt - 1 := by
        have := (rg_top (hI h H' (((2 : Int32) * x8) + x5).toNatClampNeg)).2
        rw [ts (by rw [o1]; omega), o1]
      rw [tot_H (h := h) (j := (((2 : Int32) * x8) + x5).toNatClampNeg) (by omega) kM (fun i => by
        rw [w6, r_I]
        by_cases z : i = (((2 : Int32) * x8) + x5).toNatClampNeg
        · rw [if_pos ⟨rfl, z⟩, if_pos z]
        · rw [if_neg (fun w => z w.2), if_neg z]), tv]
      omega
    refine mk_193 hj h5 m8 hk h8 (mkz_k (by rw [w6]; exact mfz_w (Or.inr (Or.inr (Or.inl rfl)))) Q) ⟨by omega, by rw [w6]; exact y2, by rw [w6, rI_a (ne b1 b4 (by decide))]; exact Y.2.2⟩ (fun n => ?_) e
    rw [kz] at n
    exact absurd n (by decide)
  · replace e := cl_s e; obtain ⟨o2, e2, e⟩ := e
    obtain ⟨k2, l2, kM2, kH2, k32, kJ2⟩ := lv_z (zq := zq) Q e2
    have t2 := lv_t Q e2
    rw [if_pos (z2 kz)] at t2
    refine mk_193 hj h5 m8 hk h8 (mkz_k k2 Q) ⟨by omega, by omega, by rw [k32]; exact Y.2.2⟩ (fun n => ?_) e
    rw [kM2, if_neg (z3 n).1]
    exact (z3 n).2
theorem mk_92 (hj : j = x3.toNatClampNeg) (h5 : Rg 0 1 x5) (m8 : kd = (0 : Int32) ∨ kd = (1 : Int32) → mo.toInt ≤ 8) (hk : Rg 0 3 kd) (h8 : Rg 0 11 x8) (k01 : kd = (0 : Int32) ∨ kd = (1 : Int32)) (Q : MkZ ρ x0 x1 x2 x4 M P H C R A B P1 lb lx lk lo j tk kd mo p0 h) (Z : M0 zq M H x4 kd mo x5 x6 x8 h) (mq : 0 < (hI h M q.toNatClampNeg).toInt) (nq : ¬ x6.toNatClampNeg = q.toNatClampNeg) (e : sX15_make_92 F h x0 x1 x2 x3 x4 x5 x6 x7 x8 kd x10 q x4 x0 = some o) : WrE zq x4 o := by
  obtain ⟨Y, z1, z2, z3⟩ := Z
  have y1 := Y.1
  have y2 := Y.2.1
  have n3 : ¬ kd = (3 : Int32) := fun z => by rcases k01 with w | w <;> rw [w] at z <;> exact absurd z (by decide)
  have n2 : ¬ kd = (2 : Int32) := fun z => by rcases k01 with w | w <;> rw [w] at z <;> exact absurd z (by decide)
  unfold sX15_make_92 at e
  replace e := cl_s e; obtain ⟨o1, e1, e⟩ := e
  obtain ⟨k1, l1, kM1, kH1, k31, kJ1⟩ := lv_z (zq := zq) Q e1
  have t1 := lv_t Q e1
  rw [if_pos mq] at t1
  have Q1 := mkz_k k1 Q
  have m6 : 0 < (hI o1 M x6.toNatClampNeg).toInt := by rw [kM1, if_neg nq]; exact z2 n3
  have go : sX15_make_159 F o1 x0 x1 x2 x3 x4 x5 x6 x7 x8 kd x10 = some o → WrE zq x4 o := fun e => mk_159 hj h5 m8 hk h8 Q1 ⟨⟨by omega, by omega, by rw [k31]; exact Y.2.2⟩, fun z => absurd z n3, fun _ => m6, fun z => absurd z n2⟩ e
  replace e := cl_s e; obtain ⟨_, _, e⟩ := e
  replace e := (gd_s e).2
  replace e := nm_s e; obtain ⟨v4, w4, e⟩ := e
  replace e := cl_s e; obtain ⟨_, _, e⟩ := e
  replace e := br_s e; rcases e with ⟨_, e⟩ | ⟨_, e⟩
  · exact go e
  replace e := cl_s e; obtain ⟨_, _, e⟩ := e
  replace e := (gd_s e).2
  replace e := cl_s e; obtain ⟨_, _, e⟩ := e
  replace e := br_s e; rcases e with ⟨_, e⟩ | ⟨_, e⟩
  · exact go e
  replace e := cl_s e; obtain ⟨H', eh, e⟩ := e
  have y : H' = H := r_eq Q1.1.2.2.1 eh
  subst y
  have gi := (gd_s e).1
  rw [Q1.2.2.2.1.2] at gi
  have gb := inb_r gi
  have cq := nc_i gb.1
  replace e := (gd_s e).2
  replace e := br_s e; rcases e with ⟨_, e⟩ | ⟨n16, e⟩
  · exact go e
  have n16 := nle_i n16
  have o16 : (16 : Int32).toInt = 16 := rfl
  replace e := cl_s e; obtain ⟨H'', eh', e⟩ := e
  have y : H'' = H' := r_eq eh eh'
  subst y
  replace e := (gd_s e).2
  replace e := (gd_s e).2
  replace e := nm_s e; obtain ⟨h17, w17, e⟩ := e
  obtain ⟨b1, b2, b3, b4, b5, b6, b7, b8, b9, b10⟩ := Q.2.1
  have ne : ∀ {a d p q : Nat}, ρ a = p → ρ d = q → p ≠ q → ¬ a = d := fun ha hd hpq z => hpq (by rw [← ha, z]; exact hd)
  have kM : ∀ i, hI h17 M i = hI o1 M i := fun i => by rw [w17, rI_a (ne b2 b4 (by decide))]
  have tt : tot M H'' h17 = tot M H'' o1 + 1 := by
    have u1 : (1 : Int32).toInt = 1 := rfl
    have tv : (hI o1 H'' v4.toNatClampNeg + (1 : Int32)).toInt = (hI o1 H'' v4.toNatClampNeg).toInt + 1 := by
      have := (rg_top (hI o1 H'' v4.toNatClampNeg)).1
      rw [ta (by rw [u1]; omega), u1]
    rw [tot_H (h := o1) (j := v4.toNatClampNeg) (by omega) kM (fun i => by
      rw [w17, r_I]
      by_cases z : i = v4.toNatClampNeg
      · rw [if_pos ⟨rfl, z⟩, if_pos z]
      · rw [if_neg (fun w => z w.2), if_neg z]), tv]
    omega
  refine mk_159 hj h5 m8 hk h8 (mkz_k (by rw [w17]; exact mfz_w (Or.inr (Or.inr (Or.inl rfl)))) Q1) ⟨⟨by omega, ?_, ?_⟩, fun z => absurd z n3, fun _ => by rw [kM]; exact m6, fun z => absurd z n2⟩ e
  · rw [w17]; show cRt (hJ o1 x4 2) zq ≤ 16; omega
  · rw [w17, rI_a (ne b1 b4 (by decide)), k31]; exact Y.2.2
theorem mk_65 (hj : j = x3.toNatClampNeg) (h5 : Rg 0 1 x5) (m8 : kd = (0 : Int32) ∨ kd = (1 : Int32) → mo.toInt ≤ 8) (hk : Rg 0 3 kd) (h8 : Rg 0 11 x8) (Q : MkZ ρ x0 x1 x2 x4 M P H C R A B P1 lb lx lk lo j tk kd mo p0 h) (Z : M0 zq M H x4 kd mo x5 x6 x8 h) (t1 : ¬ x10 = 0 → kd = (1 : Int32) → 0 < (hI h M p0.toNatClampNeg).toInt ∧ ¬ x6.toNatClampNeg = p0.toNatClampNeg) (t2 : ¬ x10 = 0 → ¬ kd = (1 : Int32) → kd = (0 : Int32) ∧ 0 < (hI h M x7.toNatClampNeg).toInt ∧ ¬ x6.toNatClampNeg = x7.toNatClampNeg) (e : sX15_make_65 F h x0 x1 x2 x3 x4 x5 x6 x7 x8 kd x10 = some o) : WrE zq x4 o := by
  unfold sX15_make_65 at e
  replace e := br_s e; rcases e with ⟨_, e⟩ | ⟨n, e⟩
  · exact mk_159 hj h5 m8 hk h8 Q Z e
  replace e := br_s e; rcases e with ⟨kz, e⟩ | ⟨kz, e⟩
  · replace e := cl_s e; obtain ⟨P', ep, e⟩ := e
    have y : P' = P1 := r_eq Q.1.2.2.2.2.1 ep
    subst y
    replace e := (gd_s e).2
    have z0 : (0 : Int32).toNatClampNeg = 0 := rfl
    rw [z0, Q.2.2.2.2.1.2.2.2] at e
    exact mk_92 hj h5 m8 hk h8 (Or.inr kz) Q Z (t1 n kz).1 (t1 n kz).2 e
  · obtain ⟨k0, u1, u2⟩ := t2 n kz
    exact mk_92 hj h5 m8 hk h8 (Or.inl k0) Q Z u1 u2 e
end
end
section
/-! make: the whole -/
/-- the list's moves fit the board as to who is taken -/
def MvZ (b l : Nat) (h : Hp) : Prop := ∀ M lf lt lx lk lo, hR h b 0 = some M → hR h l 1 = some lf → hR h l 2 = some lt → hR h l 5 = some lx → hR h l 6 = some lk → hR h l 7 = some lo → L2 l lf lt lx lk lo (hI h M) (hI h b 1) (hI h b 3).toInt h
section
variable {zq : Nat} {ρ : Nat → Nat} {c : Cm} {h o : Hp} {x0 x1 x2 x4 F : Nat} {x3 : Int32}
theorem make_z (T : TH ρ c h) (r0 : ρ x0 = 16) (r1 : ρ x1 = 13) (r2 : ρ x2 = 14) (r4 : ρ x4 = 13) (np : ∀ P1 P, hR h x1 4 = some P1 → hR h x4 4 = some P → ¬ P1 = P) (W : WrE zq x1 h) (mv : MvB x0 x1 x2 h) (mz : MvZ x1 x2 h) (i3 : 0 ≤ x3.toInt ∧ x3.toInt < (hI h x2 0).toInt) (e : sX15_make F h x0 x1 x2 x3 x4 = some o) : WrE zq x4 o := by
  obtain ⟨M1, eM1, rM1⟩ := thR T r1 (i := 0) (k2 := 62) rfl (by decide)
  obtain ⟨M, eM, rM⟩ := thR T r4 (i := 0) (k2 := 62) rfl (by decide)
  obtain ⟨P1, eP1, rP1⟩ := thR T r1 (i := 4) (k2 := 63) rfl (by decide)
  obtain ⟨P, eP, rP⟩ := thR T r4 (i := 4) (k2 := 63) rfl (by decide)
  obtain ⟨H1, eH1, rH1⟩ := thR T r1 (i := 5) (k2 := 64) rfl (by decide)
  obtain ⟨H, eH, rH⟩ := thR T r4 (i := 5) (k2 := 64) rfl (by decide)
  obtain ⟨C, eC, rC⟩ := thR T r4 (i := 6) (k2 := 65) rfl (by decide)
  obtain ⟨lf, elf, rlf⟩ := thR T r2 (i := 1) (k2 := 66) rfl (by decide)
  obtain ⟨lt, elt, rlt⟩ := thR T r2 (i := 2) (k2 := 67) rfl (by decide)
  obtain ⟨lm, elm, rlm⟩ := thR T r2 (i := 3) (k2 := 68) rfl (by decide)
  obtain ⟨lb, elb, rlb⟩ := thR T r2 (i := 4) (k2 := 69) rfl (by decide)
  obtain ⟨lx, elx, rlx⟩ := thR T r2 (i := 5) (k2 := 70) rfl (by decide)
  obtain ⟨lk, elk, rlk⟩ := thR T r2 (i := 6) (k2 := 71) rfl (by decide)
  obtain ⟨lo, elo, rlo⟩ := thR T r2 (i := 7) (k2 := 72) rfl (by decide)
  obtain ⟨R, eR, rR⟩ := thR T r0 (i := 4) (k2 := 15) rfl (by decide)
  obtain ⟨A, eA, rA⟩ := thR T rR (i := 6) (k2 := 76) rfl (by decide)
  obtain ⟨B, eB, rB⟩ := thR T rR (i := 7) (k2 := 77) rfl (by decide)
  have nP := np P1 P eP1 eP
  have nM : hN h M = 64 := thN T rM rfl (by decide)
  have nH : hN h H = 24 := thN T rH rfl (by decide)
  obtain ⟨n, hn⟩ : ∃ n, n = x3.toNatClampNeg := ⟨_, rfl⟩
  have cn := nc_i i3.1
  have E := mz M1 lf lt lx lk lo eM1 elf elt elx elk elo n (by omega)
  have N := mv M1 H1 lf lt lm lk lo eM1 eH1 elf elt elm elk elo n (by omega)
  have if' : Rg (-1) 63 (hI h lf n) := thI T rlf rfl
  have it : Rg 0 63 (hI h lt n) := thI T rlt rfl
  have im : Rg 0 11 (hI h lm n) := thI T rlm rfl
  have ib : Rg (-1) 11 (hI h lb n) := thI T rlb rfl
  have ik : Rg 0 3 (hI h lk n) := thI T rlk rfl
  have io : Rg 0 63 (hI h lo n) := thI T rlo rfl
  have is : Rg 0 1 (hI h x1 1) := thI T r1 rfl
  have ip : Rg 0 63 (hI h P1 0) := thI T rP1 rfl
  unfold sX15_make at e
  replace e := cl_s e; obtain ⟨o1, e1, e⟩ := e
  have W1 := wr_copy T r4 r1 W e1
  obtain ⟨f1, fM, fH, f3, f4, f5, f6, fo, fx⟩ := cpy_post r4 r1 rM1 rM rP1 rP rH1 rH rC eM1 eM eP1 eP eH1 eH eC e1
  obtain ⟨_, _, fN⟩ := cpy_j e1
  have kL : ∀ {a q : Nat} (i : Nat), ρ a = q → ¬ (q = 13 ∨ (62 ≤ q ∧ q ≤ 65)) → hI o1 a i = hI h a i := fun {a q} i ra nq => fo a i (by rw [ra]; exact nq)
  have ne : ∀ {a d p q : Nat}, ρ a = p → ρ d = q → p ≠ q → ¬ a = d := fun ha hd hpq z => hpq (by rw [← ha, z]; exact hd)
  replace e := nm_s e; obtain ⟨v2, w2, e⟩ := e
  rw [f6] at w2
  replace e := cl_s e; obtain ⟨a3, q3, e⟩ := e
  have y : a3 = lf := r_eq elf (by rw [f1] at q3; exact q3)
  subst y
  replace e := (gd_s e).2
  replace e := nm_s e; obtain ⟨v5, w5, e⟩ := e
  replace e := cl_s e; obtain ⟨a6, q6, e⟩ := e
  have y : a6 = lt := r_eq elt (by rw [f1] at q6; exact q6)
  subst y
  replace e := (gd_s e).2
  replace e := nm_s e; obtain ⟨v8, w8, e⟩ := e
  replace e := cl_s e; obtain ⟨a9, q9, e⟩ := e
  have y : a9 = lm := r_eq elm (by rw [f1] at q9; exact q9)
  subst y
  replace e := (gd_s e).2
  replace e := nm_s e; obtain ⟨v11, w11, e⟩ := e
  replace e := cl_s e; obtain ⟨a12, q12, e⟩ := e
  have y : a12 = lk := r_eq elk (by rw [f1] at q12; exact q12)
  subst y
  replace e := (gd_s e).2
  replace e := nm_s e; obtain ⟨v14, w14, e⟩ := e
  rw [← hn, kL n rlf (by decide)] at w5
  rw [← hn, kL n rlt (by decide)] at w8
  rw [← hn, kL n rlm (by decide)] at w11
  rw [← hn, kL n rlk (by decide)] at w14
  replace e := nm_s e; obtain ⟨h15, w15, e⟩ := e
  replace e := cl_s e; obtain ⟨a16, q16, e⟩ := e
  have y : a16 = lx := r_eq elx (by rw [w15] at q16; rw [← f1]; exact q16)
  subst y
  have kI : ∀ {a i : Nat}, ¬ a = x4 → hI h15 a i = hI o1 a i := fun {a i} n => by rw [w15, rI_a n]
  have vx : hI h15 a16 n = hI h a16 n := by rw [kI (ne rlx r4 (by decide)), kL n rlx (by decide)]
  replace e := (gd_s e).2
  rw [← hn, vx] at e
  have kR : ∀ a i, hR h15 a i = hR h a i := fun a i => by rw [w15]; exact f1 a i
  have kM : ∀ i, i < 64 → hI h15 M i = hI h M1 i := fun i hi => by rw [kI (ne rM r4 (by decide))]; exact fM i hi
  have kP : hI h15 P1 0 = hI h P1 0 := by rw [kI (ne rP1 r4 (by decide)), fx P1 0 (ne rP1 r4 (by decide)) (ne rP1 rM (by decide)) nP (ne rP1 rH (by decide)) (ne rP1 rC (by decide))]
  have Q : MkZ ρ x0 x1 x2 x4 M P H C R A B P1 lb a16 a12 lo n (hI h a16 n) (hI h a12 n) (hI h lo n) (hI h P1 0) h15 := by
    refine ⟨⟨by rw [kR]; exact eM, by rw [kR]; exact eP, by rw [kR]; exact eH, by rw [kR]; exact eC, by rw [kR]; exact eP1, by rw [kR]; exact elb, by rw [kR]; exact elx, by rw [kR]; exact elk, by rw [kR]; exact elo⟩, ⟨r4, rM, rP, rH, rC, rP1, rlb, rlx, rlk, rlo⟩, nP, ⟨?_, ?_⟩, ⟨vx, ?_, ?_, kP⟩, ?_, ⟨⟨by rw [kR]; exact eR, by rw [kR]; exact eA, by rw [kR]; exact eB⟩, ⟨r0, rA, rB⟩, fun i => ?_, fun i => ?_⟩⟩
    · rw [w15]; show hN o1 M = 64; rw [fN]; exact nM
    · rw [w15]; show hN o1 H = 24; rw [fN]; exact nH
    · rw [kI (ne rlk r4 (by decide)), kL n rlk (by decide)]
    · rw [kI (ne rlo r4 (by decide)), kL n rlo (by decide)]
    · rw [kI (ne rlb r4 (by decide)), kL n rlb (by decide)]; exact ib
    · rw [kI (ne rA r4 (by decide)), kL i rA (by decide)]; exact thI T rA rfl
    · rw [kI (ne rB r4 (by decide)), kL i rB (by decide)]; exact thI T rB rfl
  rw [w2, w5, w8, w11, w14] at e
  obtain ⟨E1, E2', E3, E4, E5⟩ := E
  obtain ⟨N1, N2, N3, N4⟩ := N
  have nc6 : ∀ {x : Int32} {lo' : Int}, Rg lo' 63 x → x.toNatClampNeg < 64 := fun {x lo'} r => by
    by_cases w : 0 ≤ x.toInt
    · have := nc_i w; have := r.2; omega
    · have : x.toNatClampNeg = 0 := by
        show x.toInt.toNat = 0
        omega
      omega
  have W15 : tot M H h15 ≤ 96 := by
    have := W1.1 M H (by rw [f1]; exact eM) (by rw [f1]; exact eH)
    rw [tot_k (h := o1) (fun i => kI (ne rM r4 (by decide))) (fun i => kI (ne rH r4 (by decide)))]
    exact this
  have Z : M0 zq M H x4 (hI h a12 n) (hI h lo n) (hI h x1 1) (hI h a3 n) (hI h a9 n) h15 := by
    refine ⟨⟨W15, by rw [w15]; exact W1.2.1, by rw [w15, rI_s]⟩, fun k3 => ?_, fun k3 => ?_, fun k2 => ?_⟩
    · have hi := N2 (by rw [k3]; rfl)
      have z2 : (2 : Int32).toInt = 2 := rfl
      obtain ⟨m0, m1⟩ := im
      obtain ⟨s0, s1⟩ := is
      have t1 : ((2 : Int32) * hI h a9 n).toInt = 2 * (hI h a9 n).toInt := by rw [tm (by rw [z2]; omega), z2]
      have t2 : ((2 : Int32) * hI h a9 n + hI h x1 1).toInt = 2 * (hI h a9 n).toInt + (hI h x1 1).toInt := by rw [ta (by rw [t1]; omega), t1]
      have := nc_i (x := (2 : Int32) * hI h a9 n + hI h x1 1) (by omega)
      rw [kI (ne rH r4 (by decide)), fH _ (by omega)]
      exact hi
    · rw [kM _ (nc6 if')]; exact (E5 k3).1
    · rw [kM _ (nc6 io)]; exact E3 k2
  have fin : ∀ {x10 : Int32}, (x10 = 0 ∨ ¬ hI h a16 n = (-1 : Int32)) → sX15_make_65 F h15 x0 x1 x2 x3 x4 (hI h x1 1) (hI h a3 n) (hI h a6 n) (hI h a9 n) (hI h a12 n) x10 = some o → WrE zq x4 o := by
    intro x10 hx e
    refine mk_65 hn is E4 ik im Q Z (fun n0 k1 => ?_) (fun n0 k1 => ?_) e
    · have n1 := E2' k1
      obtain ⟨u1, u2⟩ := W.2.2.2 (by omega) M1 P1 eM1 eP1
      refine ⟨by rw [kM _ (nc6 ip)]; exact u1, fun z => u2 ?_⟩
      rw [← z]
      exact (E5 (by rw [k1]; decide)).2
    · obtain ⟨k0, u1, u2⟩ := E1 (hx.resolve_left n0) k1
      exact ⟨k0, by rw [kM _ (nc6 it)]; exact u1, fun z => u2 z.symm⟩
  replace e := br_s e; rcases e with ⟨_, e⟩ | ⟨nx, e⟩
  · exact fin (Or.inl rfl) e
  · exact fin (Or.inr nx) e
end
end
section
/-! legal moves fit their board -/
section
variable {ρ : Nat → Nat} {c : Cm} {gg : Nat → Int32} {sd : Int32} {np : Int} {x0 b l lf lt lx lk lo F wb wl : Nat} {h o : Hp} {x3 x4 x5 : Int32}
def LR (ρ : Nat → Nat) (l lf lt lx lk lo : Nat) (h : Hp) : Prop := (hR h l 1 = some lf ∧ hR h l 2 = some lt ∧ hR h l 5 = some lx ∧ hR h l 6 = some lk ∧ hR h l 7 = some lo)
theorem lr_r (T : TH ρ c h) (rl : ρ l = 14) (E : LR ρ l lf lt lx lk lo h) : ρ lf = 66 ∧ ρ lt = 67 ∧ ρ lx = 70 ∧ ρ lk = 71 ∧ ρ lo = 72 := by
  obtain ⟨e1, e2, e5, e6, e7⟩ := E
  exact ⟨rr T (thR T rl (i := 1) (k2 := 66) rfl (by decide)) e1, rr T (thR T rl (i := 2) (k2 := 67) rfl (by decide)) e2, rr T (thR T rl (i := 5) (k2 := 70) rfl (by decide)) e5, rr T (thR T rl (i := 6) (k2 := 71) rfl (by decide)) e6, rr T (thR T rl (i := 7) (k2 := 72) rfl (by decide)) e7⟩
theorem l2_fr {S : Nat → Nat → Nat → Bool} (T : TH ρ c h) (rl : ρ l = 14) (E : LR ρ l lf lt lx lk lo h) (f : Fr ρ (cat c S h) h o) (s1 : ∀ w i, i < 8 → S 14 w i = false) (s2 : ∀ k w i, 66 ≤ k → k ≤ 72 → S k w i = false) (P : L2 l lf lt lx lk lo gg sd np h) : L2 l lf lt lx lk lo gg sd np o ∧ LR ρ l lf lt lx lk lo o ∧ hI o l 0 = hI h l 0 := by
  obtain ⟨q1, q2, q5, q6, q7⟩ := lr_r T rl E
  have k0 : hI o l 0 = hI h l 0 := (fr_RI f rl (by decide) (fun w => s1 w 0 (by decide))).1
  have kR : ∀ {i : Nat}, i < 8 → hR o l i = hR h l i := fun {i} hi => (fr_RI f rl (by decide) (fun w => s1 w i hi)).2.2
  obtain ⟨e1, e2, e5, e6, e7⟩ := E
  refine ⟨fun i hi => ?_, ⟨by rw [kR (by decide)]; exact e1, by rw [kR (by decide)]; exact e2, by rw [kR (by decide)]; exact e5, by rw [kR (by decide)]; exact e6, by rw [kR (by decide)]; exact e7⟩, k0⟩
  rw [k0] at hi
  rw [(fr_RI f q1 (by decide) (fun w => s2 66 w i (by decide) (by decide))).1, (fr_RI f q2 (by decide) (fun w => s2 67 w i (by decide) (by decide))).1, (fr_RI f q5 (by decide) (fun w => s2 70 w i (by decide) (by decide))).1, (fr_RI f q6 (by decide) (fun w => s2 71 w i (by decide) (by decide))).1, (fr_RI f q7 (by decide) (fun w => s2 72 w i (by decide) (by decide))).1]
  exact P i hi
theorem set_lx {lm lb : Nat} {x y : Int32} (r_l : ρ l = 14) (r_lf : ρ lf = 66) (r_lt : ρ lt = 67) (r_lm : ρ lm = 68) (r_lb : ρ lb = 69) (r_lx : ρ lx = 70) (r_lk : ρ lk = 71) (r_lo : ρ lo = 72) (e_lf : hR h l 1 = some lf) (e_lt : hR h l 2 = some lt) (e_lm : hR h l 3 = some lm) (e_lb : hR h l 4 = some lb) (e_lx : hR h l 5 = some lx) (e_lk : hR h l 6 = some lk) (e_lo : hR h l 7 = some lo) (e : sX13_set h l x l y = some o) (i : Nat) : hI o lx i = if i = x.toNatClampNeg then hI h lx y.toNatClampNeg else hI h lx i := by
  have ne : ∀ {a d p q : Nat}, ρ a = p → ρ d = q → p ≠ q → ¬ a = d := fun ha hd hpq z => hpq (by rw [← ha, z]; exact hd)
  unfold sX13_set at e
  simp only [nm] at e
  replace e := cl_s e; obtain ⟨r1, w1, e⟩ := e
  have u1 : r1 = lf := r_eq e_lf w1
  subst u1
  replace e := cl_s e; obtain ⟨_, _, e⟩ := e
  iterate 2 replace e := (gd_s e).2
  replace e := cl_s e; obtain ⟨r2, w2, e⟩ := e
  have u2 : r2 = lt := r_eq e_lt w2
  subst u2
  replace e := cl_s e; obtain ⟨_, _, e⟩ := e
  iterate 2 replace e := (gd_s e).2
  replace e := cl_s e; obtain ⟨r3, w3, e⟩ := e
  have u3 : r3 = lm := r_eq e_lm w3
  subst u3
  replace e := cl_s e; obtain ⟨_, _, e⟩ := e
  iterate 2 replace e := (gd_s e).2
  replace e := cl_s e; obtain ⟨r4, w4, e⟩ := e
  have u4 : r4 = lb := r_eq e_lb w4
  subst u4
  replace e := cl_s e; obtain ⟨_, _, e⟩ := e
  iterate 2 replace e := (gd_s e).2
  replace e := cl_s e; obtain ⟨r5, w5, e⟩ := e
  have u5 : r5 = lx := r_eq e_lx w5
  subst u5
  replace e := cl_s e; obtain ⟨r5', w5', e⟩ := e
  have u5' : r5' = r5 := r_eq e_lx w5'
  subst u5'
  iterate 2 replace e := (gd_s e).2
  replace e := cl_s e; obtain ⟨r6, w6, e⟩ := e
  have u6 : r6 = lk := r_eq e_lk w6
  subst u6
  replace e := cl_s e; obtain ⟨_, _, e⟩ := e
  iterate 2 replace e := (gd_s e).2
  replace e := cl_s e; obtain ⟨r7, w7, e⟩ := e
  have u7 : r7 = lo := r_eq e_lo w7
  subst u7
  replace e := cl_s e; obtain ⟨_, _, e⟩ := e
  iterate 2 replace e := (gd_s e).2
  rw [← Option.some.inj e]
  rw [rI_a (ne r_lx r_lo (by decide)), rI_a (ne r_lx r_lk (by decide)), r_I]
  by_cases z : i = x.toNatClampNeg
  · rw [if_pos ⟨rfl, z⟩, if_pos z, rI_a (ne r_lx r_lb (by decide)), rI_a (ne r_lx r_lm (by decide)), rI_a (ne r_lx r_lt (by decide)), rI_a (ne r_lx r_lf (by decide))]
  · rw [if_neg (fun w => z w.2), if_neg z, rI_a (ne r_lx r_lb (by decide)), rI_a (ne r_lx r_lm (by decide)), rI_a (ne r_lx r_lt (by decide)), rI_a (ne r_lx r_lf (by decide))]
theorem l2_set {x y : Int32} (T : TH ρ c h) (rl : ρ l = 14) (E : LR ρ l lf lt lx lk lo h) (hy : 0 ≤ y.toInt ∧ y.toInt < (hI h l 0).toInt) (P : L2 l lf lt lx lk lo gg sd np h) (e : sX13_set h l x l y = some o) : L2 l lf lt lx lk lo gg sd np o ∧ hI o l 0 = hI h l 0 ∧ LR ρ l lf lt lx lk lo o := by
  obtain ⟨r1, r2, r5, r6, r7⟩ := lr_r T rl E
  obtain ⟨e1, e2, e5, e6, e7⟩ := E
  obtain ⟨lm, e3, r3⟩ := thR T rl (i := 3) (k2 := 68) rfl (by decide)
  obtain ⟨lb, e4, r4⟩ := thR T rl (i := 4) (k2 := 69) rfl (by decide)
  obtain ⟨fr, z0, z⟩ := set_post rl r1 r2 r3 r4 r5 r6 r7 e1 e2 e3 e4 e5 e6 e7 e
  have zx := set_lx rl r1 r2 r3 r4 r5 r6 r7 e1 e2 e3 e4 e5 e6 e7 e
  refine ⟨fun i hi => ?_, z0, ⟨by rw [fr.1]; exact e1, by rw [fr.1]; exact e2, by rw [fr.1]; exact e5, by rw [fr.1]; exact e6, by rw [fr.1]; exact e7⟩⟩
  rw [z0] at hi
  obtain ⟨w1, w2, _, w6, w7⟩ := z i
  rw [w1, w2, w6, w7, zx i]
  have cy := clamp_i hy.1
  by_cases w : i = x.toNatClampNeg
  · rw [if_pos w, if_pos w, if_pos w, if_pos w, if_pos w]
    exact P y.toNatClampNeg (by omega)
  · rw [if_neg w, if_neg w, if_neg w, if_neg w, if_neg w]
    exact P i hi
theorem l2_cut {v : Int32} (T : TH ρ c h) (rl : ρ l = 14) (E : LR ρ l lf lt lx lk lo h) (w : o = wI h l 0 v) (le : v.toInt ≤ (hI h l 0).toInt) (P : L2 l lf lt lx lk lo gg sd np h) : L2 l lf lt lx lk lo gg sd np o ∧ LR ρ l lf lt lx lk lo o := by
  obtain ⟨r1, r2, r5, r6, r7⟩ := lr_r T rl E
  refine ⟨fun i hi => ?_, by rw [w]; exact E⟩
  rw [w, r_I, if_pos ⟨rfl, rfl⟩] at hi
  rw [w, r_I, if_neg (ne_r r1 rl (by decide)), r_I, if_neg (ne_r r2 rl (by decide)), r_I, if_neg (ne_r r5 rl (by decide)), r_I, if_neg (ne_r r6 rl (by decide)), r_I, if_neg (ne_r r7 rl (by decide))]
  exact P i (by omega)
theorem lgz_110 (hF : 700000 ≤ F) (hO : pmO c wl [(66, 999), (67, 999), (68, 999), (69, 999), (70, 999), (71, 999), (72, 999), (14, 0)]) (ol : cw c l = wl) (rl : ρ l = 14) : ∀ (f : Nat) {h : Hp} {x3 x5 : Int32}, TH ρ c h → LR ρ l lf lt lx lk lo h → L2 l lf lt lx lk lo gg sd np h → 0 ≤ x3.toInt → x3.toInt ≤ x5.toInt → x5.toInt ≤ (hI h l 0).toInt → (3001 - x5.toInt).toNat < f → Sat (sX15_legal_110 F f h l x3 x5) (fun o => TH ρ c o ∧ L2 l lf lt lx lk lo gg sd np o) := by
  intro f
  induction f with
  | zero => intros; omega
  | succ f ih =>
    intro h x3 x5 T E P a3 a5 b5 hf
    rw [sX15_legal_110]
    unfold sX15_legal_152 sX15_legal_141
    have m := thI T rl (k := 14) (i := 0) (lo := 0) (hi := 3000) rfl
    have m3 := m.2
    refine s_br (fun _ => ?_) (fun n1 => ?_)
    · refine s_hq (th_wI T rl (k := 14) (lo := 0) (hi := 3000) rfl ⟨a3, by omega⟩ (by decide) (by decide) (pm_o hO ol rfl)) (fun h2 T2 w2 => ?_)
      exact s_some ⟨T2, (l2_cut T rl E w2 (by omega) P).1⟩
    · have l5 := nle_i n1
      have i5 : Rg 0 2999 x5 := ⟨by omega, by omega⟩
      have i3 : Rg 0 2999 x3 := ⟨a3, by omega⟩
      have n5 := nc_s i5 (by decide)
      have n3 := nc_s i3 (by decide)
      obtain ⟨_, ex, rx⟩ := thR T rl (i := 5) (k2 := 70) rfl (by decide)
      refine s_ref ex ?_
      refine s_gd (by rw [thN T rx (k := 70) (n := 3000) rfl (by decide)]; exact rg_inB i5 (by decide)) ?_
      refine s_br (fun _ => ?_) (fun _ => ?_)
      · refine s_q (fun y ey => ?_)
        have ey2 : y.toInt = x5.toInt + 1 := by rw [ey]; exact n5.2
        exact ih T E P a3 (by omega) (by omega) (by omega)
      · refine s_dd (zX13_set hF (pmO_s hO rfl) ol ol T rl i3 rl i5) (fun o6 e6 T6 => ?_)
        obtain ⟨P6, k6, E6⟩ := l2_set T rl E ⟨by omega, l5⟩ P e6
        refine s_q (fun v ev => s_q (fun y ey => ?_))
        have ey2 : y.toInt = x5.toInt + 1 := by rw [ey]; exact n5.2
        have ev2 : v.toInt = x3.toInt + 1 := by rw [ev]; exact n3.2
        exact ih T6 E6 P6 (by omega) (by omega) (by rw [k6]; omega) (by omega)
theorem lgz_28 (hF : 700000 ≤ F) (hA : pmA c [(16, 23), (16, 24)]) (hB : pmO c 2528 [(62, 999), (63, 999), (64, 999), (65, 999), (13, 1), (13, 2), (13, 3), (13, 7)]) (hO : pmO c wl [(66, 999), (67, 999), (68, 999), (69, 999), (70, 999), (71, 999), (72, 999), (14, 0)]) (ob : cw c b = wb) (nb : ¬ wb = 2528) (ol : cw c l = wl) (r0 : ρ x0 = 16) (rb : ρ b = 13) (rl : ρ l = 14) : ∀ (f : Nat) {h : Hp} {x3 x4 x5 : Int32}, TH ρ c h → SqOk x0 h → MvB x0 b l h → LR ρ l lf lt lx lk lo h → L2 l lf lt lx lk lo gg sd np h → 0 ≤ x3.toInt → x3.toInt ≤ x5.toInt → x5.toInt ≤ (hI h l 0).toInt → (3001 - x5.toInt).toNat < f → Sat (sX15_legal_28 F f h x0 b l x3 x4 x5) (fun o => TH ρ c o ∧ L2 l lf lt lx lk lo gg sd np o) := by
  intro f
  induction f with
  | zero => intros; omega
  | succ f ih =>
    intro h x3 x4 x5 T sq mv E P a3 a5 b5 hf
    rw [sX15_legal_28]
    unfold sX15_legal_152 sX15_legal_79 sX15_legal_73
    have m := thI T rl (k := 14) (i := 0) (lo := 0) (hi := 3000) rfl
    have m3 := m.2
    have z0 : (0 : Int32).toInt = 0 := rfl
    refine s_br (fun _ => ?_) (fun n1 => ?_)
    · refine s_hq (th_wI T rl (k := 14) (lo := 0) (hi := 3000) rfl ⟨a3, by omega⟩ (by decide) (by decide) (pm_o hO ol rfl)) (fun h2 T2 w2 => ?_)
      obtain ⟨P2, E2'⟩ := l2_cut T rl E w2 (by omega) P
      obtain ⟨R, eR, rR⟩ := thR T2 r0 (i := 4) (k2 := 15) rfl (by decide)
      refine s_ref eR ?_
      refine s_br (fun _ => s_some ⟨T2, P2⟩) (fun _ => ?_)
      refine s_br (fun _ => s_some ⟨T2, P2⟩) (fun _ => ?_)
      exact lgz_110 hF hO ol rl F T2 E2' P2 (by decide) (Int.le_refl _) (by rw [z0]; exact (thI T2 rl (k := 14) (i := 0) (lo := 0) (hi := 3000) rfl).1) (by rw [z0]; omega)
    · have l5 := nle_i n1
      have i5 : Rg 0 2999 x5 := ⟨by omega, by omega⟩
      have i3 : Rg 0 2999 x3 := ⟨a3, by omega⟩
      have n5 := nc_s i5 (by decide)
      have n3 := nc_s i3 (by decide)
      refine s_cIf (S := fS [(16, 23), (16, 24)] [(2528, [(62, 999), (63, 999), (64, 999), (65, 999), (13, 1), (13, 2), (13, 3), (13, 7)])]) T (fs_sub hA (fs_c hB fs_n)) (zX15_isSafe hF fs_a (fs_o (.head _)) ob ol (th_in _ T) r0 rb rl i5 sq mv l5) (fun o6 T6 i6 f6 => ?_)
      have sq6 : SqOk x0 o6.2 := sq_fr T r0 f6 (fun _ => rfl) (fun _ => rfl) (fun _ => rfl) sq
      have mv6 : MvB x0 b l o6.2 := mv_fr T r0 rb rl f6 (fun _ => rfl) (fun _ => rfl) rfl (by rw [ob]; exact fs_cf (Or.inr nb) (fs_nf rfl)) rfl (by rw [ob]; intro _; exact fs_cf (Or.inr nb) (fs_nf rfl)) (by rw [ob]; intro _; exact fs_cf (Or.inr nb) (fs_nf rfl)) rfl rfl rfl rfl rfl rfl (fun _ => rfl) (fun _ => rfl) (fun _ => rfl) (fun _ => rfl) (fun _ => rfl) mv
      obtain ⟨P6, E6, k6⟩ := l2_fr T rl E f6 (fun w i hi => by
        match i, hi with
        | 0, _ | 1, _ | 2, _ | 3, _ | 4, _ | 5, _ | 6, _ | 7, _ => rfl) (fun k w i a b => by
        have : k = 66 ∨ k = 67 ∨ k = 68 ∨ k = 69 ∨ k = 70 ∨ k = 71 ∨ k = 72 := by omega
        rcases this with z | z | z | z | z | z | z <;> subst z <;> rfl) P
      refine s_br (fun _ => ?_) (fun _ => ?_)
      · refine s_q (fun y ey => ?_)
        have ey2 : y.toInt = x5.toInt + 1 := by rw [ey]; exact n5.2
        exact ih T6 sq6 mv6 E6 P6 a3 (by omega) (by rw [k6]; omega) (by omega)
      · refine s_cVfq (S := fS [] [(wl, [(66, 999), (67, 999), (68, 999), (69, 999), (70, 999), (71, 999), (72, 999)])]) T6 (fs_sub pmA_n (fs_c (pmO_s hO rfl) fs_n)) (s_weq (zX13_set hF (fs_o (.head _)) ol ol (th_in _ T6) rl i3 rl i5)) (fun o8 T8 f8 e8 => ?_)
        obtain ⟨P8, k8, E8⟩ := l2_set T6 rl E6 ⟨by omega, by rw [k6]; exact l5⟩ P6 e8
        have mv8 := mv_set T6 r0 rb rl ⟨by omega, by rw [k6]; exact l5⟩ mv6 e8
        have sq8 : SqOk x0 o8 := sq_fr T6 r0 f8 (fun _ => rfl) (fun _ => rfl) (fun _ => rfl) sq6
        obtain ⟨_, ex, rx⟩ := thR T8 rl (i := 5) (k2 := 70) rfl (by decide)
        refine s_ref ex ?_
        refine s_gd (by rw [thN T8 rx (k := 70) (n := 3000) rfl (by decide)]; exact rg_inB i3 (by decide)) ?_
        have fin : ∀ (t0 : Int32), Sat (nm (x4 ||| t0) fun v_1 => nm (x3 + (1 : Int32)) fun v_2 => nm (x5 + (1 : Int32)) fun v_3 => sX15_legal_28 F f o8 x0 b l v_2 v_1 v_3) (fun o => TH ρ c o ∧ L2 l lf lt lx lk lo gg sd np o) := fun t0 => by
          refine s_q (fun u eu => s_q (fun v ev => s_q (fun y ey => ?_)))
          have ey2 : y.toInt = x5.toInt + 1 := by rw [ey]; exact n5.2
          have ev2 : v.toInt = x3.toInt + 1 := by rw [ev]; exact n3.2
          exact ih T8 sq8 mv8 E8 P8 (by omega) (by omega) (by rw [k8, k6]; omega) (by omega)
        exact s_br (fun _ => fin _) (fun _ => fin _)
theorem tz_of {M : Nat} (T : TH ρ c h) (r0 : ρ x0 = 16) (rb : ρ b = 13) (rl : ρ l = 14) (pe : PE b h) (E : LR ρ l lf lt lx lk lo h) (eM : hR h b 0 = some M) (P : L2 l lf lt lx lk lo (hI h M) (hI h b 1) (hI h b 3).toInt h) : ∃ S Fa Ct P' R A B Ri lm lb, TZ ρ x0 l b S Fa Ct M P' R A B Ri lf lt lm lb lx lk lo (hI h M) (hI h b 1) (hI h b 3).toInt h := by
  obtain ⟨r1, r2, r5, r6, r7⟩ := lr_r T rl E
  obtain ⟨e1, e2, e5, e6, e7⟩ := E
  obtain ⟨lm, e3, r3⟩ := thR T rl (i := 3) (k2 := 68) rfl (by decide)
  obtain ⟨lb, e4, r4⟩ := thR T rl (i := 4) (k2 := 69) rfl (by decide)
  obtain ⟨S, eS, rS⟩ := thR T r0 (i := 25) (k2 := 87) rfl (by decide)
  obtain ⟨Fa, eFa, rFa⟩ := thR T r0 (i := 26) (k2 := 88) rfl (by decide)
  obtain ⟨Ct, eCt, rCt⟩ := thR T r0 (i := 27) (k2 := 89) rfl (by decide)
  obtain ⟨R, eR, rR⟩ := thR T r0 (i := 4) (k2 := 15) rfl (by decide)
  obtain ⟨A, eA, rA⟩ := thR T rR (i := 6) (k2 := 76) rfl (by decide)
  obtain ⟨B, eB, rB⟩ := thR T rR (i := 7) (k2 := 77) rfl (by decide)
  obtain ⟨Ri, eRi, rRi⟩ := thR T rR (i := 8) (k2 := 78) rfl (by decide)
  obtain ⟨P', eP, rP⟩ := thR T rb (i := 4) (k2 := 63) rfl (by decide)
  have rM := rr T (thR T rb (i := 0) (k2 := 62) rfl (by decide)) eM
  exact ⟨S, Fa, Ct, P', R, A, B, Ri, lm, lb, ⟨⟨eS, eFa, eCt, eM, eP, eR, eA, eB, eRi⟩, ⟨r0, rb, rS, rFa, rCt, rM, rP, rR, rA, rB, rRi⟩, fun i => thI T rA rfl, fun i => thI T rB rfl, thI T rb rfl, rfl, pe, fun i => thI T rRi rfl⟩, ⟨⟨e1, e2, e3, e4, e5, e6, e7⟩, ⟨rl, r1, r2, r3, r4, r5, r6, r7⟩, thN T r1 rfl (by decide)⟩, P, fun _ => rfl, rfl, (thI T r0 (i := 13) (lo := 9) (hi := 64) rfl).2⟩
/-- legal: all its moves fit the board -/
theorem legal_z {M : Nat} (hF : 700000 ≤ F) (hA : pmA c [(87, 999), (88, 999), (89, 999), (16, 23), (16, 24), (16, 29)]) (hB : pmO c 2528 [(62, 999), (63, 999), (64, 999), (65, 999), (13, 1), (13, 2), (13, 3), (13, 7)]) (hO : pmO c wl [(66, 999), (67, 999), (68, 999), (69, 999), (70, 999), (71, 999), (72, 999), (14, 0)]) (ob : cw c b = wb) (nb : ¬ wb = 2528) (ol : cw c l = wl) (T : TH ρ c h) (r0 : ρ x0 = 16) (rb : ρ b = 13) (rl : ρ l = 14) (sq : SqOk x0 h) (pe : PE b h) (E : LR ρ l lf lt lx lk lo h) (eM : hR h b 0 = some M) : Sat (sX15_legal F h x0 b l) (fun o => TH ρ c o ∧ L2 l lf lt lx lk lo (hI h M) (hI h b 1) (hI h b 3).toInt o) := by
  have rM := rr T (thR T rb (i := 0) (k2 := 62) rfl (by decide)) eM
  unfold sX15_legal
  refine s_hq (th_wI T rl (k := 14) (lo := 0) (hi := 3000) rfl (rg_m (rg_b rfl : Rg 0 0 (0 : Int32)) (by decide)) (by decide) (by decide) (pm_o hO ol rfl)) (fun h1 T1 w1 => ?_)
  have f1 := fr1Io (c := c) (B := [(14, 0)]) rl ol rfl w1
  have E1 : LR ρ l lf lt lx lk lo h1 := by rw [w1]; exact E
  have z1 : hI h1 l 0 = 0 := by rw [w1, r_I, if_pos ⟨rfl, rfl⟩]
  have n1 : ∀ {gg : Nat → Int32} {sd : Int32} {np : Int} {g : Hp}, hI g l 0 = 0 → L2 l lf lt lx lk lo gg sd np g := fun {gg sd np g} z i hi => by
    rw [z] at hi
    exact absurd hi (by show ¬ (i : Int) < 0; omega)
  have kM1 : ∀ i, hI h1 M i = hI h M i := fun i => by rw [w1, r_I, if_neg (ne_r rM rl (by decide))]
  have kb1 : ∀ i, hI h1 b i = hI h b i := fun i => by rw [w1, r_I, if_neg (ne_r rb rl (by decide))]
  refine s_cIf (S := fS [(16, 29)] []) T1 (fs_sub (pmA_s hA rfl) fs_n) (zX15_early hF fs_a ob (th_in _ T1) r0 rb) (fun o2 T2 i2 f2 => ?_)
  have kM2 : ∀ i, hI o2.2 M i = hI h M i := fun i => by rw [(fr_RI f2 rM (by decide) (fun _ => rfl)).1]; exact kM1 i
  have kb2 : ∀ i, hI o2.2 b i = hI h b i := fun i => by rw [(fr_RI f2 rb (by decide) (fun _ => rfl)).1]; exact kb1 i
  have kl2 : hI o2.2 l 0 = 0 := by rw [(fr_RI f2 rl (by decide) (fun _ => rfl)).1]; exact z1
  have kR2 : ∀ i, hR o2.2 l i = hR h l i := fun i => by rw [(fr_RI f2 rl (by decide) (fun _ => rfl)).2.2, w1]; rfl
  have eM2 : hR o2.2 b 0 = some M := by rw [(fr_RI f2 rb (by decide) (fun _ => rfl)).2.2, w1]; exact eM
  have E2' : LR ρ l lf lt lx lk lo o2.2 := by
    obtain ⟨u1, u2, u5, u6, u7⟩ := E
    exact ⟨by rw [kR2]; exact u1, by rw [kR2]; exact u2, by rw [kR2]; exact u5, by rw [kR2]; exact u6, by rw [kR2]; exact u7⟩
  refine s_br (fun _ => ?_) (fun _ => ?_)
  · have pe2 : PE b o2.2 := pe_fr T1 rb f2 rfl rfl rfl (fun _ => rfl) (fun _ => rfl) (pe_fr T rb f1 rfl rfl rfl (fun _ => rfl) (fun _ => rfl) pe)
    refine s_cVfq (S := fS [(87, 999), (88, 999), (89, 999), (16, 23), (16, 24)] [(wl, [(66, 999), (67, 999), (68, 999), (69, 999), (70, 999), (71, 999), (72, 999), (14, 0)])]) T2 (fs_sub (pmA_s hA rfl) (fs_c hO fs_n)) (s_weq2 (zX15_tryAll hF fs_a (fs_o (.head _)) ob ol (th_in _ T2) r0 rb rl pe2)) (fun o4 T4 f4 w4 => ?_)
    obtain ⟨S, Fa, Ct, P', R, A, B, Ri, lm, lb, Z⟩ := tz_of T2 r0 rb rl pe2 E2' eM2 (n1 kl2)
    obtain ⟨k4, Z4⟩ := tall_z Z w4.2
    have P4 := Z4.2.2.1
    have em : hI o2.2 M = hI h M := funext kM2
    rw [em, kb2, kb2] at P4
    have E4 : LR ρ l lf lt lx lk lo o4 := by
      obtain ⟨u1, u2, u5, u6, u7⟩ := E2'
      exact ⟨by rw [k4.1]; exact u1, by rw [k4.1]; exact u2, by rw [k4.1]; exact u5, by rw [k4.1]; exact u6, by rw [k4.1]; exact u7⟩
    have sq4 : SqOk x0 o4 := sq_fr T2 r0 f4 (fun _ => rfl) (fun _ => rfl) (fun _ => rfl) (sq_fr T1 r0 f2 (fun _ => rfl) (fun _ => rfl) (fun _ => rfl) (sq_fr T r0 f1 (fun _ => rfl) (fun _ => rfl) (fun _ => rfl) sq))
    have z0 : (0 : Int32).toInt = 0 := rfl
    exact lgz_28 hF (pmA_s hA rfl) hB hO ob nb ol r0 rb rl F T4 sq4 w4.1 E4 P4 (by decide) (Int.le_refl _) (by rw [z0]; exact (thI T4 rl (k := 14) (i := 0) (lo := 0) (hi := 3000) rfl).1) (by rw [z0]; omega)
  · exact s_some ⟨T2, n1 kl2⟩
end
end
section
/-! places of the reference: boards that can be written, paid for ahead -/
section
variable {zq : Nat} {ρ : Nat → Nat} {c : Cm} {h o g : Hp} {x0 x1 b : Nat} {Bq : Nat × Nat}
theorem wr_eq (kR : ∀ i, hR o b i = hR h b i) (kJ : hJ o b 2 = hJ h b 2) (k1 : hI o b 1 = hI h b 1) (k3 : hI o b 3 = hI h b 3) (kM : ∀ M, hR h b 0 = some M → ∀ i, hI o M i = hI h M i) (kP : ∀ M, hR h b 4 = some M → ∀ i, hI o M i = hI h M i) (kH : ∀ M, hR h b 5 = some M → ∀ i, hI o M i = hI h M i) (W : WrE zq b h) : WrE zq b o := by
  obtain ⟨p1, p2, p3, p4⟩ := W
  refine ⟨fun M H e1 e2 => ?_, by rw [kJ]; exact p2, by rw [k3]; exact p3, fun n M P e1 e2 => ?_⟩
  · rw [kR] at e1 e2
    rw [tot_k (kM M e1) (kH H e2)]
    exact p1 M H e1 e2
  · rw [kR] at e1 e2
    rw [k3] at n
    rw [kP P e2, kM M e1, k1]
    exact p4 n M P e1 e2
theorem crt_0 : ∀ n, cRt (0 : Int64) n = 0 := by
  intro n
  induction n with
  | zero => rfl
  | succ n ih => rw [cRt, ih, bj_zero]; rfl
/-- a board, as kept boards are -/
def PZ (zq : Nat) (b : Nat) (h : Hp) : Prop := PE b h ∧ WrE zq b h
/-- kept places -/
def BdY (zq : Nat) (Bq : Nat × Nat) (x0 : Nat) (h : Hp) : Prop := (∀ r s, hR h x0 14 = some r → hR h x0 15 = some s → ∀ i, i < 60 → ¬ hI h s i ≤ 0 → ∃ b, hR h r i = some b ∧ PZ zq b h) ∧ (∀ r, hR h x0 14 = some r → ∀ i j a b, ¬ i = j → hR h r i = some a → hR h r j = some b → ∀ k, (k = 0 ∨ k = 4 ∨ k = 5) → ∀ M M', hR h a k = some M → hR h b k = some M' → ¬ M = M') ∧ Pay 14 60 5 162 Bq x0 h
theorem bdy_p (P : BdY zq Bq x0 h) : BdP x0 h := ⟨fun r s e1 e2 i hi hs => by
  obtain ⟨b, eb, pb⟩ := P.1 r s e1 e2 i hi hs
  exact ⟨b, eb, pb.1⟩, fun r e1 i j a b ne ea eb k hk M M' m1 m2 => P.2.1 r e1 i j a b ne ea eb k (by rcases hk with z | z; exact Or.inl z; exact Or.inr (Or.inl z)) M M' m1 m2⟩
theorem pz_eq (kR : ∀ i, hR o b i = hR h b i) (kJ : hJ o b 2 = hJ h b 2) (k1 : hI o b 1 = hI h b 1) (k3 : hI o b 3 = hI h b 3) (kM : ∀ M, hR h b 0 = some M → ∀ i, hI o M i = hI h M i) (kP : ∀ M, hR h b 4 = some M → ∀ i, hI o M i = hI h M i) (kH : ∀ M, hR h b 5 = some M → ∀ i, hI o M i = hI h M i) (W : PZ zq b h) : PZ zq b o := by
  refine ⟨fun M P e1 e2 k k1' k2 => ?_, wr_eq kR kJ k1 k3 kM kP kH W.2⟩
  rw [kR] at e1 e2
  rw [k3] at k2
  rw [kP P e2, kM M e1]
  exact W.1 M P e1 e2 k k1' k2
theorem tot_0 {M H : Nat} (kM : ∀ i, hI h M i = 0) (kH : ∀ i, hI h H i = 0) : tot M H h ≤ 96 := by
  have a : ∀ n, mC (hI h M) n = 0 := by
    intro n
    induction n with
    | zero => rfl
    | succ n ih => rw [mC, ih, kM, if_neg (by decide)]; rfl
  have b : ∀ d n, sH h H d n = 0 := by
    intro d n
    induction n with
    | zero => rfl
    | succ n ih => rw [sH, ih, kH]; rfl
  unfold tot
  rw [a, b, b]
  decide
end
theorem kpy_35 {ρ : Nat → Nat} {c : Cm} {F zq : Nat} {Bq : Nat × Nat} {w_x1 : Nat} (hF : 700000 ≤ F) (hA : pmA c [(84, 999), (85, 999), (16, 16)]) (hi : pmO c 3400 [(62, 999), (63, 999), (64, 999), (65, 999), (13, 1), (13, 2), (13, 3), (13, 7)]) {h : Hp} {x0 x1 r b3 : Nat} {x2 : Int32} (o_x1 : cw c x1 = w_x1) (T : TH ρ c h) (r_x0 : ρ x0 = 16) (r_x1 : ρ x1 = 13) (i2 : Rg 0 59 x2) (er : hR h x0 14 = some r) (eb : hR h r x2.toNatClampNeg = some b3) (bd : BdY zq Bq x0 h) (pe : PZ zq x1 h) : Sat (sX15_keep_35 F h x0 x1 x2) (fun o => TH ρ c o.2 ∧ Rg (-104) 59 o.1 ∧ BdY zq Bq x0 o.2) := by
  have qr := rr T (thR T r_x0 (i := 14) (k2 := 84) rfl (by decide)) er
  have rb := thRn T qr (k2 := 13) rfl (by decide) eb
  have wb : cw c b3 = 3400 := th_id T qr eb rfl (by decide)
  unfold sX15_keep_35 sX15_keep_45
  refine s_ref er ?_
  refine s_gd (by rw [thN T qr (k := 84) (n := 60) rfl (by decide)]; exact rg_inB i2 (by decide)) ?_
  refine s_ref eb ?_
  refine s_dd (zX12_copy (F := F) hF hi wb o_x1 T rb r_x1) (fun o4 e4 T4 => ?_)
  refine s_q (fun h5 e5 => ?_)
  have T5 : TH ρ c h5 := by rw [e5]; exact th_wI T4 r_x0 (k := 16) (lo := -2147483648) (hi := 2147483647) rfl (rg_top _) (by decide) (by decide) (pm_a hA rfl)
  obtain ⟨s, es, qs⟩ := thR T5 r_x0 (i := 15) (k2 := 85) rfl (by decide)
  refine s_ref es ?_
  refine s_gd (by rw [thN T5 qs (k := 85) (n := 60) rfl (by decide)]; exact rg_inB i2 (by decide)) ?_
  refine s_q (fun h6 e6 => ?_)
  have T6 : TH ρ c h6 := by rw [e6]; exact th_wI T5 qs (k := 85) (lo := -2147483648) (hi := 2147483647) rfl (rg_top _) (by decide) (by decide) (pm_a hA rfl)
  refine s_some ⟨T6, rg_m i2 (by decide), ?_⟩
  obtain ⟨Mb, eMb, rMb⟩ := thR T r_x1 (i := 0) (k2 := 62) rfl (by decide)
  obtain ⟨Mt, eMt, rMt⟩ := thR T rb (i := 0) (k2 := 62) rfl (by decide)
  obtain ⟨Pb, ePb, rPb⟩ := thR T r_x1 (i := 4) (k2 := 63) rfl (by decide)
  obtain ⟨Pt, ePt, rPt⟩ := thR T rb (i := 4) (k2 := 63) rfl (by decide)
  obtain ⟨Hb, eHb, rHb⟩ := thR T r_x1 (i := 5) (k2 := 64) rfl (by decide)
  obtain ⟨Ht, eHt, rHt⟩ := thR T rb (i := 5) (k2 := 64) rfl (by decide)
  obtain ⟨C, eC, rC⟩ := thR T rb (i := 6) (k2 := 65) rfl (by decide)
  obtain ⟨f1, fM, fH, f3, f4, f5, f6, fo, fa⟩ := cpy_post rb r_x1 rMb rMt rPb rPt rHb rHt rC eMb eMt ePb ePt eHb eHt eC e4
  have pe4 : PZ zq b3 o4 := ⟨pe_copy T rb r_x1 pe.1 e4, wr_copy T rb r_x1 pe.2 e4⟩
  have jj := (cpy_j e4).2.1
  have kJ : ∀ a i, hJ h6 a i = hJ o4 a i := fun a i => by rw [e6, e5]; rfl
  have kR : ∀ a i, hR h6 a i = hR h a i := fun a i => by rw [e6, e5]; exact f1 a i
  have kI : ∀ {a k : Nat}, ρ a = k → k ≠ 16 → k ≠ 85 → ∀ i, hI h6 a i = hI o4 a i := fun ha k1 k2 i => by
    rw [e6, r_I, if_neg (fun q => k2 (by rw [← ha, q.1, qs])), e5, r_I, if_neg (fun q => k1 (by rw [← ha, q.1, r_x0]))]
  refine ⟨fun r' s' p1 p2 i hi hs => ?_, fun r' p1 i j a b ne ea eb' k hk M M' m1 m2 => ?_, fun r' p1 => ?_⟩
  · rw [kR] at p1 p2
    have y1 := r_eq er p1
    subst y1
    have es0 : hR h x0 15 = some s := by
      have : hR h5 x0 15 = some s := es
      rw [e5] at this
      have this : hR o4 x0 15 = some s := this
      rw [f1] at this
      exact this
    have y2 := r_eq es0 p2
    subst y2
    by_cases q : i = x2.toNatClampNeg
    · refine ⟨b3, by rw [kR, q]; exact eb, pz_eq (h := o4) (fun i => by rw [kR, f1]) (kJ _ _) (kI rb (by decide) (by decide) _) (kI rb (by decide) (by decide) _) (fun M m => ?_) (fun M m => ?_) (fun M m => ?_) pe4⟩
      · rw [f1] at m
        exact kI (rr T (thR T rb (i := 0) (k2 := 62) rfl (by decide)) m) (by decide) (by decide)
      · rw [f1] at m
        exact kI (rr T (thR T rb (i := 4) (k2 := 63) rfl (by decide)) m) (by decide) (by decide)
      · rw [f1] at m
        exact kI (rr T (thR T rb (i := 5) (k2 := 64) rfl (by decide)) m) (by decide) (by decide)
    · have hs0 : ¬ hI h s' i ≤ 0 := by
        have : hI h6 s' i = hI h s' i := by
          rw [e6, r_I, if_neg (fun w => q w.2), e5, r_I, if_neg (fun w => absurd (w.1 ▸ qs) (by rw [r_x0]; decide)), fo s' i (by rw [qs]; decide)]
        rw [this] at hs
        exact hs
      obtain ⟨b, e1, pb⟩ := bd.1 r' s' er es0 i hi hs0
      have rb' := thRn T qr (k2 := 13) rfl (by decide) e1
      have d : ∀ {x y k1 k2 : Nat}, ρ x = k1 → ρ y = k2 → k1 ≠ k2 → ¬ x = y := fun h1 h2 h3 w => h3 (by rw [← h1, ← h2, w])
      obtain ⟨Mo, eMo, rMo⟩ := thR T rb' (i := 0) (k2 := 62) rfl (by decide)
      have nb : ¬ b = b3 := fun w => by
        have nM : ¬ Mo = Mt := bd.2.1 r' er i _ b b3 q e1 eb 0 (Or.inl rfl) Mo Mt eMo eMt
        rw [w] at eMo
        exact nM (r_eq eMt eMo)
      have kb : ∀ i, hI h6 b i = hI h b i := fun i => by rw [kI rb' (by decide) (by decide), fa b i nb (d rb' rMt (by decide)) (d rb' rPt (by decide)) (d rb' rHt (by decide)) (d rb' rC (by decide))]
      refine ⟨b, by rw [kR]; exact e1, pz_eq (h := h) (fun i => kR _ _) (by rw [kJ, jj b 2 nb]) (kb 1) (kb 3) (fun M m i' => ?_) (fun M m i' => ?_) (fun M m i' => ?_) pb⟩
      · have rM := rr T (thR T rb' (i := 0) (k2 := 62) rfl (by decide)) m
        have nM : ¬ M = Mt := bd.2.1 r' er i _ b b3 q e1 eb 0 (Or.inl rfl) M Mt m eMt
        rw [kI rM (by decide) (by decide), fa M _ (d rM rb (by decide)) nM (d rM rPt (by decide)) (d rM rHt (by decide)) (d rM rC (by decide))]
      · have rP := rr T (thR T rb' (i := 4) (k2 := 63) rfl (by decide)) m
        have nP : ¬ M = Pt := bd.2.1 r' er i _ b b3 q e1 eb 4 (Or.inr (Or.inl rfl)) M Pt m ePt
        rw [kI rP (by decide) (by decide), fa M _ (d rP rb (by decide)) (d rP rMt (by decide)) nP (d rP rHt (by decide)) (d rP rC (by decide))]
      · have rH := rr T (thR T rb' (i := 5) (k2 := 64) rfl (by decide)) m
        have nH : ¬ M = Ht := bd.2.1 r' er i _ b b3 q e1 eb 5 (Or.inr (Or.inr rfl)) M Ht m eHt
        rw [kI rH (by decide) (by decide), fa M _ (d rH rb (by decide)) (d rH rMt (by decide)) (d rH rPt (by decide)) nH (d rH rC (by decide))]
  · rw [kR] at p1 ea eb' m1 m2
    exact bd.2.1 r' p1 i j a b ne ea eb' k hk M M' m1 m2
  · rw [kR] at p1
    rw [T6.1.1.trans T.1.1.symm, nuC_eq 60 (fun i _ => kR r' i)]
    exact bd.2.2 r' p1
theorem keep_y {ρ : Nat → Nat} {c : Cm} {F zq : Nat} {Bq : Nat × Nat} {w_x1 : Nat} (hF : 700000 ≤ F) (hA : pmA c [(84, 999), (85, 999), (16, 16)]) (hi_3400 : pmO c 3400 [(62, 999), (63, 999), (64, 999), (65, 999), (13, 1), (13, 2), (13, 3), (13, 7)]) {h : Hp} {x0 x1 : Nat} (o_x1 : cw c x1 = w_x1) (T : TH ρ c h) (r_x0 : ρ x0 = 16) (r_x1 : ρ x1 = 13) (bd : BdY zq Bq x0 h) (pe : PZ zq x1 h) : Sat (sX15_keep F h x0 x1) (fun o => ∃ ρ' c', Ext ρ c ρ' c' ∧ TH ρ' c' o.2 ∧ Rg (-104) 59 o.1 ∧ BdY zq Bq x0 o.2) := by
  unfold sX15_keep sX15_keep_4
  refine s_dI0 (zX15_freePlace hF T r_x0) (fun o e0 e1 i1 => ?_)
  obtain ⟨p, g⟩ := o
  have e1 : g = h := e1
  subst e1
  refine s_br (fun c1 => s_some ⟨ρ, c, ex_0, T, rg_b rfl, bd⟩) (fun c1 => ?_)
  have i2 : Rg 0 59 p := rg_nlo c1 i1 (rg_b rfl)
  obtain ⟨r, er, qr⟩ := thR T r_x0 (i := 14) (k2 := 84) rfl (by decide)
  refine s_ref er ?_
  refine s_gd (by rw [thN T qr (k := 84) (n := 60) rfl (by decide)]; exact rg_inB i2 (by decide)) ?_
  have t1 : g.1 = c.1 := T.1.1
  show Sat (onr (hR g r p.toNatClampNeg) _ _) _
  cases q : hR g r p.toNatClampNeg with
  | none =>
    show Sat (cl (hR g x0 14) _) _
    refine s_ref er ?_
    refine s_q (fun a ea => ?_)
    refine s_q (fun h8 e8 => ?_)
    subst ea
    subst e8
    unfold sX15_keep_30 sX15_keep_34
    refine s_dd (newBoard T 3400) (fun o1 eo1 ho => ?_)
    obtain ⟨ρ1, c1', X1, T1, a1, w1, O1⟩ := ho
    have eo : o1 = boH g := by rw [boH_v] at eo1; exact (Option.some.inj eo1).symm
    have r01 := ex_r X1 r_x0 (by decide)
    have r11 := ex_r X1 r_x1 (by decide)
    have qr1 := ex_r X1 qr (by decide)
    have lt : ∀ x, ρ x ≠ 0 → x < g.1.1 := fun x hx => by rw [t1]; exact T.2.1.2.2.1 x hx
    have rl : ∀ x i y, ρ x ≠ 0 → hR g x i = some y → y < g.1.1 := fun x i y hx hy => by rw [t1]; exact T.2.1.2.2.2 x i y hx hy
    have er1 : hR o1 x0 14 = some r := by rw [(O1 x0 (lt x0 (by rw [r_x0]; decide))).2.2.1]; exact er
    refine s_gd (by rw [thN T1 qr1 (k := 84) (n := 60) rfl (by decide)]; exact rg_inB i2 (by decide)) ?_
    refine s_q (fun h2 e2 => ?_)
    have T2 : TH ρ1 c1' h2 := by
      rw [e2]
      exact th_wRe T1 qr1 (k2 := 13) rfl (by decide) a1 (by decide) (by decide) rfl rfl rfl w1 (ex_p X1 (pm_a hA rfl))
    have er2 : hR h2 x0 14 = some r := by rw [e2, r_R, if_neg (ne_r r01 qr1 (by decide))]; exact er1
    have ee : hR h2 r p.toNatClampNeg = some (hS g) := by rw [e2, r_R, if_pos ⟨rfl, rfl⟩]
    have hS0 : hS g = g.1.1 := rfl
    -- what stood before
    have kR : ∀ {x k : Nat}, ρ x = k → k ≠ 0 → k ≠ 84 → ∀ i, hR h2 x i = hR g x i := fun {x k} hx h0 h84 i => by
      rw [e2, r_R, if_neg (fun w => h84 (by rw [← hx, w.1, qr])), (O1 x (lt x (by rw [hx]; exact h0))).2.2.1]
    have kI : ∀ {x k : Nat}, ρ x = k → k ≠ 0 → ∀ i, hI h2 x i = hI g x i := fun {x k} hx h0 i => by
      rw [e2]
      show hI o1 x i = _
      exact (O1 x (lt x (by rw [hx]; exact h0))).1 i
    have kr : ∀ i, ¬ i = p.toNatClampNeg → hR h2 r i = hR g r i := fun i hi => by
      rw [e2, r_R, if_neg (fun w => hi w.2), (O1 r (lt r (by rw [qr]; decide))).2.2.1]
    have kJ : ∀ {x k : Nat}, ρ x = k → k ≠ 0 → ∀ i, hJ h2 x i = hJ g x i := fun {x k} hx h0 i => by
      rw [e2]
      show hJ o1 x i = _
      exact (O1 x (lt x (by rw [hx]; exact h0))).2.1 i
    have pek : ∀ b, ρ b = 13 → PZ zq b g → PZ zq b h2 := fun b hb pb => pz_eq (fun i => kR hb (by decide) (by decide) i) (kJ hb (by decide) 2) (kI hb (by decide) 1) (kI hb (by decide) 3) (fun M m => kI (rr T (thR T hb (i := 0) (k2 := 62) rfl (by decide)) m) (by decide)) (fun M m => kI (rr T (thR T hb (i := 4) (k2 := 63) rfl (by decide)) m) (by decide)) (fun M m => kI (rr T (thR T hb (i := 5) (k2 := 64) rfl (by decide)) m) (by decide)) pb
    have nI : ∀ i, hI h2 (hS g) i = 0 := fun i => by rw [e2]; show hI o1 (hS g) i = 0; rw [eo]; exact boH_I g 0 i (by decide)
    have nR : ∀ i M, hR h2 (hS g) i = some M → g.1.1 ≤ M := fun i M hM => by
      rw [e2, r_R, if_neg (fun w => absurd (w.1 ▸ a1) (by rw [qr1]; decide)), eo, hS0, boH_R] at hM
      split at hM
      · have := Option.some.inj hM; omega
      · split at hM
        · have := Option.some.inj hM; omega
        · split at hM
          · have := Option.some.inj hM; omega
          · split at hM
            · have := Option.some.inj hM; omega
            · exact absurd hM (by simp)
    have bd2 : BdY zq Bq x0 h2 := by
      refine ⟨fun r' s' p1 p2 i hi hs => ?_, fun r' p1 i j a b ne ea eb k hk M M' m1 m2 => ?_, fun r' p1 => ?_⟩
      · have y1 := r_eq er2 p1
        subst y1
        rw [kR r_x0 (by decide) (by decide)] at p2
        have qs := rr T (thR T r_x0 (i := 15) (k2 := 85) rfl (by decide)) p2
        rw [kI qs (by decide)] at hs
        by_cases w : i = p.toNatClampNeg
        · refine ⟨hS g, by rw [w]; exact ee, pe_0 (by rw [nI]; rfl), fun M H m1 m2 => ?_, ?_, by rw [nI]; decide, fun n => ?_⟩
          · have nn : ∀ k i, k < 5 → hI h2 (g.1.1 + k) i = 0 := fun k i hk => by rw [e2]; show hI o1 (g.1.1 + k) i = 0; rw [eo]; exact boH_I g k i hk
            have nRR : ∀ i, hR h2 (hS g) i = hR (boH g) g.1.1 i := fun i => by rw [e2, r_R, if_neg (fun w => absurd (w.1 ▸ a1) (by rw [qr1]; decide)), eo, hS0]
            rw [nRR, boH_R] at m1 m2
            have y1 : g.1.1 + 1 = M := Option.some.inj m1
            have y2 : g.1.1 + 3 = H := Option.some.inj m2
            subst y1; subst y2
            exact tot_0 (fun i => nn 1 i (by decide)) (fun i => nn 3 i (by decide))
          · have : hJ h2 (hS g) 2 = 0 := by rw [e2]; show hJ o1 (hS g) 2 = 0; rw [eo]; exact boH_J g 0 2 (by decide)
            rw [this, crt_0]
            decide
          · rw [nI] at n
            exact absurd n (by decide)
        · obtain ⟨b, eb, pb⟩ := bd.1 r' s' er p2 i hi hs
          exact ⟨b, by rw [kr i w]; exact eb, pek b (thRn T qr (k2 := 13) rfl (by decide) eb) pb⟩
      · have y1 := r_eq er2 p1
        subst y1
        have old : ∀ i a M, ¬ i = p.toNatClampNeg → hR h2 r' i = some a → hR h2 a k = some M → hR g r' i = some a ∧ hR g a k = some M ∧ M < g.1.1 := fun i a M hi ha hM => by
          rw [kr i hi] at ha
          have ra := thRn T qr (k2 := 13) rfl (by decide) ha
          rw [kR ra (by decide) (by decide)] at hM
          exact ⟨ha, hM, rl a k M (by rw [ra]; decide) hM⟩
        by_cases wi : i = p.toNatClampNeg
        · have wj : ¬ j = p.toNatClampNeg := fun w => ne (by rw [wi, w])
          rw [wi, ee] at ea
          have ea := Option.some.inj ea
          rw [← ea] at m1
          have := nR k M m1
          have := (old j b M' wj eb m2).2.2
          omega
        · by_cases wj : j = p.toNatClampNeg
          · rw [wj, ee] at eb
            have eb := Option.some.inj eb
            rw [← eb] at m2
            have := nR k M' m2
            have := (old i a M wi ea m1).2.2
            omega
          · obtain ⟨u1, u2, _⟩ := old i a M wi ea m1
            obtain ⟨v1, v2, _⟩ := old j b M' wj eb m2
            exact bd.2.1 r' er i j a b ne u1 v1 k hk M M' u2 v2
      · have y1 := r_eq er2 p1
        subst y1
        have l60 := clamp_i i2.1
        have i59 := i2.2
        have cc := nuC_set q ee (fun i hi => kr i hi) 60 (by omega)
        have pb := bd.2.2 r' er
        have h21 : h2.1 = (g.1.1 + 5, g.1.2 + 162) := by rw [e2]; show o1.1 = _; rw [eo]; exact boH_1 g
        rw [h21]
        show g.1.1 + 5 + 5 * nuC h2 r' 60 ≤ Bq.1 ∧ g.1.2 + 162 + 162 * nuC h2 r' 60 ≤ Bq.2
        omega
    refine s_imp (kpy_35 (F := F) hF (ex_A X1 hA) (ex_O X1 hi_3400) (ex_w X1 r_x1 (by decide) o_x1) T2 r01 r11 i2 er2 ee bd2 (pek x1 r_x1 pe)) (fun o ho => ⟨ρ1, c1', X1, ho⟩)
  | some r4 =>
    show Sat (sX15_keep_35 F g x0 x1 p) _
    exact s_imp (kpy_35 (F := F) hF hA hi_3400 o_x1 T r_x0 r_x1 i2 er q bd pe) (fun o ho => ⟨ρ, c, ex_0, ho⟩)
end
