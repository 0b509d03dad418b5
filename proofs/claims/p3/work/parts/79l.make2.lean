/-! make: the first blocks -/
section
variable {zq : Nat} {ρ : Nat → Nat} {c : Cm} {h o g h0 : Hp} {x0 x1 x2 x4 M P H C R A B P1 lb lx lk lo j F : Nat} {tk kd mo p0 x3 x5 x6 x7 x8 x10 q v : Int32}
theorem lv_z {y : Nat} (Q : MkZ ρ x0 x1 x2 x4 M P H C R A B P1 lb lx lk lo j tk kd mo p0 h) (e : sX15_leave h y x4 q = some o) : MfZ x0 x4 M P H C h o ∧ q.toNatClampNeg < 64 ∧ (∀ i, hI o M i = if i = q.toNatClampNeg then (0 : Int32) else hI h M i) ∧ (∀ i, hI o H i = hI h H i) ∧ hI o x4 3 = hI h x4 3 ∧ cRt (hJ o x4 2) zq ≤ cRt (hJ h x4 2) zq := by
  unfold sX15_leave at e
  simp only [nm] at e
  replace e := cl_s e; obtain ⟨M', em, e⟩ := e
  have y : M' = M := r_eq Q.1.1 em
  subst y
  have gi := (gd_s e).1
  replace e := (gd_s e).2
  rw [Q.2.2.2.1.1] at gi
  have gb := inb_r gi
  have cq := nc_i gb.1
  obtain ⟨b1, b2, b3, b4, b5, b6, b7, b8, b9, b10⟩ := Q.2.1
  have ne : ∀ {a d p q : Nat}, ρ a = p → ρ d = q → p ≠ q → ¬ a = d := fun ha hd hpq z => hpq (by rw [← ha, z]; exact hd)
  rw [← Option.some.inj e]
  refine ⟨mfz_t (mfz_w (Or.inl rfl)) mfz_J, by omega, fun i => ?_, fun i => ?_, ?_, ?_⟩
  · show hI (wI h M' q.toNatClampNeg (0 : Int32)) M' i = _
    rw [r_I]
    by_cases z : i = q.toNatClampNeg
    · rw [if_pos ⟨rfl, z⟩, if_pos z]
    · rw [if_neg (fun w => z w.2), if_neg z]
  · show hI (wI h M' q.toNatClampNeg (0 : Int32)) H i = _
    rw [rI_a (ne b4 b2 (by decide))]
  · show hI (wI h M' q.toNatClampNeg (0 : Int32)) x4 3 = _
    rw [rI_a (ne b1 b2 (by decide))]
  · have : hJ (wJ (wI h M' q.toNatClampNeg (0 : Int32)) x4 2 ((hJ h x4 2) &&& (((1 : Int64) <<< (q.toInt64 &&& 63)) ^^^ (-1 : Int64)))) x4 2 = (hJ h x4 2) &&& (((1 : Int64) <<< (q.toInt64 &&& 63)) ^^^ (-1 : Int64)) := by rw [r_J, if_pos ⟨rfl, rfl⟩]
    show cRt (hJ (wJ (wI h M' q.toNatClampNeg (0 : Int32)) x4 2 ((hJ h x4 2) &&& (((1 : Int64) <<< (q.toInt64 &&& 63)) ^^^ (-1 : Int64)))) x4 2) zq ≤ _
    rw [this]
    exact crt_and _ _ _
theorem cm_z {y : Nat} (Q : MkZ ρ x0 x1 x2 x4 M P H C R A B P1 lb lx lk lo j tk kd mo p0 h) (e : sX15_come h y x4 q v = some o) : MfZ x0 x4 M P H C h o ∧ q.toNatClampNeg < 64 ∧ (∀ i, hI o M i = if i = q.toNatClampNeg then v else hI h M i) ∧ (∀ i, hI o H i = hI h H i) ∧ hI o x4 3 = hI h x4 3 ∧ cRt (hJ o x4 2) zq ≤ cRt (hJ h x4 2) zq := by
  unfold sX15_come at e
  simp only [nm] at e
  replace e := cl_s e; obtain ⟨M', em, e⟩ := e
  have y : M' = M := r_eq Q.1.1 em
  subst y
  have gi := (gd_s e).1
  replace e := (gd_s e).2
  rw [Q.2.2.2.1.1] at gi
  have gb := inb_r gi
  have cq := nc_i gb.1
  obtain ⟨b1, b2, b3, b4, b5, b6, b7, b8, b9, b10⟩ := Q.2.1
  have ne : ∀ {a d p q : Nat}, ρ a = p → ρ d = q → p ≠ q → ¬ a = d := fun ha hd hpq z => hpq (by rw [← ha, z]; exact hd)
  rw [← Option.some.inj e]
  refine ⟨mfz_t (mfz_w (Or.inl rfl)) mfz_J, by omega, fun i => ?_, fun i => ?_, ?_, ?_⟩
  · show hI (wI h M' q.toNatClampNeg v) M' i = _
    rw [r_I]
    by_cases z : i = q.toNatClampNeg
    · rw [if_pos ⟨rfl, z⟩, if_pos z]
    · rw [if_neg (fun w => z w.2), if_neg z]
  · show hI (wI h M' q.toNatClampNeg v) H i = _
    rw [rI_a (ne b4 b2 (by decide))]
  · show hI (wI h M' q.toNatClampNeg v) x4 3 = _
    rw [rI_a (ne b1 b2 (by decide))]
  · have : hJ (wJ (wI h M' q.toNatClampNeg v) x4 2 ((hJ h x4 2) &&& (((1 : Int64) <<< (q.toInt64 &&& 63)) ^^^ (-1 : Int64)))) x4 2 = (hJ h x4 2) &&& (((1 : Int64) <<< (q.toInt64 &&& 63)) ^^^ (-1 : Int64)) := by rw [r_J, if_pos ⟨rfl, rfl⟩]
    show cRt (hJ (wJ (wI h M' q.toNatClampNeg v) x4 2 ((hJ h x4 2) &&& (((1 : Int64) <<< (q.toInt64 &&& 63)) ^^^ (-1 : Int64)))) x4 2) zq ≤ _
    rw [this]
    exact crt_and _ _ _
theorem lv_t {y : Nat} (Q : MkZ ρ x0 x1 x2 x4 M P H C R A B P1 lb lx lk lo j tk kd mo p0 h) (e : sX15_leave h y x4 q = some o) : tot M H o = tot M H h - (if 0 < (hI h M q.toNatClampNeg).toInt then 1 else 0) := by
  obtain ⟨_, l64, kM, kH, _, _⟩ := lv_z (zq := 0) Q e
  rw [tot_M l64 kH kM, if_neg (show ¬ 0 < (0 : Int32).toInt by decide)]
  omega
theorem cm_t {y : Nat} (Q : MkZ ρ x0 x1 x2 x4 M P H C R A B P1 lb lx lk lo j tk kd mo p0 h) (e : sX15_come h y x4 q v = some o) : tot M H o ≤ tot M H h + 1 := by
  obtain ⟨_, l64, kM, kH, _, _⟩ := cm_z (zq := 0) Q e
  rw [tot_M l64 kH kM]
  split <;> split <;> omega
/-- few men, and no pass -/
def MY (zq : Nat) (M H x4 : Nat) (n : Int) (h : Hp) : Prop := tot M H h ≤ n ∧ cRt (hJ h x4 2) zq ≤ 16 ∧ hI h x4 3 = 0
theorem my_lv {y : Nat} {n : Int} (Q : MkZ ρ x0 x1 x2 x4 M P H C R A B P1 lb lx lk lo j tk kd mo p0 h) (Y : MY zq M H x4 n h) (e : sX15_leave h y x4 q = some o) : MkZ ρ x0 x1 x2 x4 M P H C R A B P1 lb lx lk lo j tk kd mo p0 o ∧ MY zq M H x4 n o := by
  obtain ⟨k, l64, kM, kH, k3, kJ⟩ := lv_z (zq := zq) Q e
  have t := lv_t Q e
  refine ⟨mkz_k k Q, ?_, by have := Y.2.1; omega, by rw [k3]; exact Y.2.2⟩
  have := Y.1
  rw [t]
  split <;> omega
theorem my_d {y : Int32} (X : MY zq M H x4 96 h) : WrD zq M P H x4 y h := by
  have z0 : (0 : Int32).toInt = 0 := rfl
  refine ⟨X.1, X.2.1, by rw [X.2.2]; decide, fun n => ?_⟩
  rw [X.2.2, z0] at n
  omega
theorem bl_8 {n : Int} : ∀ (f : Nat) {h : Hp} {y3 : Int32}, MkZ ρ x0 x1 x2 x4 M P H C R A B P1 lb lx lk lo j tk kd mo p0 h → MY zq M H x4 n h → sX15_blast_8 F f h x0 x4 q y3 = some o → MkZ ρ x0 x1 x2 x4 M P H C R A B P1 lb lx lk lo j tk kd mo p0 o ∧ MY zq M H x4 n o := by
  intro f
  induction f with
  | zero => intro h y3 _ _ e; exact absurd e (by simp [sX15_blast_8])
  | succ f ih =>
    intro h y3 Q Y e
    unfold sX15_blast_8 sX15_blast_60 at e
    have b61 : ∀ {t0 : Int32}, sX15_blast_61 F (sX15_blast_8 F f) h x0 x4 q y3 t0 = some o → MkZ ρ x0 x1 x2 x4 M P H C R A B P1 lb lx lk lo j tk kd mo p0 o ∧ MY zq M H x4 n o := by
      intro t0 e
      unfold sX15_blast_61 sX15_blast_105 at e
      simp only [nm] at e
      replace e := br_s e; rcases e with ⟨_, e⟩ | ⟨_, e⟩
      · exact ih Q Y e
      replace e := cl_s e; obtain ⟨_, _, e⟩ := e
      replace e := (gd_s e).2
      replace e := br_s e; rcases e with ⟨_, e⟩ | ⟨_, e⟩
      · exact ih Q Y e
      replace e := cl_s e; obtain ⟨_, _, e⟩ := e
      replace e := cl_s e; obtain ⟨_, _, e⟩ := e
      replace e := (gd_s e).2
      replace e := cl_s e; obtain ⟨o8, e8, e⟩ := e
      unfold sX15_manOf at e8
      have := Option.some.inj e8; subst this
      dsimp only at e
      replace e := br_s e; rcases e with ⟨_, e⟩ | ⟨_, e⟩
      · replace e := cl_s e; obtain ⟨o10, e10, e⟩ := e
        obtain ⟨Q10, Y10⟩ := my_lv Q Y e10
        exact ih Q10 Y10 e
      · exact ih Q Y e
    replace e := br_s e; rcases e with ⟨_, e⟩ | ⟨_, e⟩
    · rw [← Option.some.inj e]; exact ⟨Q, Y⟩
    replace e := (gd_s e).2
    replace e := (gd_s e).2
    replace e := br_s e; rcases e with ⟨_, e⟩ | ⟨_, e⟩
    · exact b61 e
    replace e := (gd_s e).2
    replace e := (gd_s e).2
    replace e := br_s e; rcases e with ⟨_, e⟩ | ⟨_, e⟩
    · exact b61 e
    · exact b61 e
theorem mk_339 {x9 : Int32} (hj : j = x3.toNatClampNeg) (h5 : Rg 0 1 x5) (m8 : kd = (0 : Int32) ∨ kd = (1 : Int32) → mo.toInt ≤ 8) (hk : Rg 0 3 kd) (Q : MkZ ρ x0 x1 x2 x4 M P H C R A B P1 lb lx lk lo j tk kd mo p0 h) (X : MX zq M H x4 kd x5 x7 h) (e : sX15_make_339 F h x0 x1 x2 x3 x4 x5 x6 x7 x8 x9 x10 = some o) : WrE zq x4 o := by
  unfold sX15_make_339 at e
  replace e := br_s e; rcases e with ⟨_, e⟩ | ⟨_, e⟩
  · exact mk_365 hj h5 m8 hk Q X e
  replace e := cl_s e; obtain ⟨_, _, e⟩ := e
  replace e := br_s e; rcases e with ⟨_, e⟩ | ⟨_, e⟩
  · exact mk_365 hj h5 m8 hk Q X e
  replace e := cl_s e; obtain ⟨o4, e4, e⟩ := e
  unfold sX15_blast at e4
  replace e4 := cl_s e4; obtain ⟨o1, e1, e4⟩ := e4
  obtain ⟨Q1, Y1⟩ := my_lv Q ⟨X.1, X.2.1, X.2.2.1⟩ e1
  obtain ⟨Q4, Y4⟩ := bl_8 F Q1 Y1 e4
  exact mk_508 Q4 (my_d Y4) e
theorem mk_294 {x9 : Int32} (hj : j = x3.toNatClampNeg) (h5 : Rg 0 1 x5) (m8 : kd = (0 : Int32) ∨ kd = (1 : Int32) → mo.toInt ≤ 8) (hk : Rg 0 3 kd) : ∀ (f : Nat) {h : Hp} {x11 : Int32}, MkZ ρ x0 x1 x2 x4 M P H C R A B P1 lb lx lk lo j tk kd mo p0 h → MX zq M H x4 kd x5 x7 h → sX15_make_294 F f h x0 x1 x2 x3 x4 x5 x6 x7 x8 x9 x10 x11 = some o → WrE zq x4 o := by
  intro f
  induction f with
  | zero => intro h x11 _ _ e; exact absurd e (by simp [sX15_make_294])
  | succ f ih =>
    intro h x11 Q X e
    unfold sX15_make_294 sX15_make_333 at e
    replace e := br_s e; rcases e with ⟨_, e⟩ | ⟨_, e⟩
    · exact mk_339 hj h5 m8 hk Q X e
    replace e := cl_s e; obtain ⟨o2, e2, e⟩ := e
    rw [(rank_post e2).1] at e
    replace e := br_s e; rcases e with ⟨_, e⟩ | ⟨_, e⟩
    · replace e := nm_s e; obtain ⟨h4, w4, e⟩ := e
      replace e := nm_s e; obtain ⟨_, _, e⟩ := e
      refine ih (mkz_k (by rw [w4]; exact mfz_J) Q) ?_ e
      have kM : ∀ i, hI h4 M i = hI h M i := fun i => by rw [w4]; rfl
      have kH : ∀ i, hI h4 H i = hI h H i := fun i => by rw [w4]; rfl
      refine ⟨by rw [tot_k kM kH]; exact X.1, ?_, by rw [w4]; exact X.2.2.1, fun n => by rw [kM]; exact X.2.2.2 n⟩
      have := crt_and (hJ h x4 2) (((1 : Int64) <<< (x11.toInt64 &&& 63)) ^^^ (-1 : Int64)) zq
      rw [w4, r_J, if_pos ⟨rfl, rfl⟩]
      have := X.2.1
      omega
    · replace e := nm_s e; obtain ⟨_, _, e⟩ := e
      exact ih Q X e
theorem mk_273 {x9 : Int32} (hj : j = x3.toNatClampNeg) (h5 : Rg 0 1 x5) (m8 : kd = (0 : Int32) ∨ kd = (1 : Int32) → mo.toInt ≤ 8) (hk : Rg 0 3 kd) (Q : MkZ ρ x0 x1 x2 x4 M P H C R A B P1 lb lx lk lo j tk kd mo p0 h) (X : MX zq M H x4 kd x5 x7 h) (e : sX15_make_273 F h x0 x1 x2 x3 x4 x5 x6 x7 x8 x9 x10 = some o) : WrE zq x4 o := by
  unfold sX15_make_273 at e
  replace e := br_s e; rcases e with ⟨_, e⟩ | ⟨_, e⟩
  · exact mk_339 hj h5 m8 hk Q X e
  replace e := cl_s e; obtain ⟨_, _, e⟩ := e
  replace e := br_s e; rcases e with ⟨_, e⟩ | ⟨_, e⟩
  · exact mk_294 hj h5 m8 hk F Q X e
  · exact mk_339 hj h5 m8 hk Q X e
theorem mk_219 {t0 : Int32} (hj : j = x3.toNatClampNeg) (h5 : Rg 0 1 x5) (m8 : kd = (0 : Int32) ∨ kd = (1 : Int32) → mo.toInt ≤ 8) (hk : Rg 0 3 kd) (ht : Rg 0 11 t0) (Q : MkZ ρ x0 x1 x2 x4 M P H C R A B P1 lb lx lk lo j tk kd mo p0 h) (Y : MY zq M H x4 95 h) (hm : kd = (2 : Int32) → 0 < (hI h M mo.toNatClampNeg).toInt) (e : sX15_make_219 F h x0 x1 x2 x3 x4 x5 x6 x7 x8 kd x10 t0 x7 x4 x0 = some o) : WrE zq x4 o := by
  unfold sX15_make_219 at e
  replace e := cl_s e; obtain ⟨o1, e1, e⟩ := e
  unfold sX15_valueOf at e1
  have e1 := Option.some.inj e1
  obtain ⟨v, hv⟩ : ∃ v, v = o1.1 := ⟨_, rfl⟩
  have ev : v = ((1 : Int32) + ((2 : Int32) * t0)) + x5 := by rw [hv, ← e1]
  have eh : o1.2 = h := by rw [← e1]
  rw [eh, ← hv] at e
  obtain ⟨vp, vs⟩ := val_ps ht h5 ev
  replace e := cl_s e; obtain ⟨o2, e2, e⟩ := e
  obtain ⟨k2, l2, kM2, kH2, k32, kJ2⟩ := cm_z (zq := zq) Q e2
  have t2 := cm_t Q e2
  have Q2 := mkz_k k2 Q
  have y1 := Y.1
  have y2 := Y.2.1
  have m7 : hI o2 M x7.toNatClampNeg = v := by rw [kM2, if_pos rfl]
  replace e := br_s e; rcases e with ⟨kz, e⟩ | ⟨kz, e⟩
  · replace e := cl_s e; obtain ⟨_, _, e⟩ := e
    replace e := cl_s e; obtain ⟨lo', eo, e⟩ := e
    have y : lo' = lo := r_eq Q2.1.2.2.2.2.2.2.2.2 eo
    subst y
    replace e := (gd_s e).2
    replace e := (gd_s e).2
    replace e := nm_s e; obtain ⟨v8, w8, e⟩ := e
    replace e := cl_s e; obtain ⟨lo'', eo', e⟩ := e
    have y : lo'' = lo' := r_eq eo eo'
    subst y
    replace e := (gd_s e).2
    rw [← hj, Q2.2.2.2.2.1.2.2.1] at e
    replace e := cl_s e; obtain ⟨o11, e11, e⟩ := e
    obtain ⟨k11, l11, kM11, kH11, k311, kJ11⟩ := lv_z (zq := zq) Q2 e11
    have t11 := lv_t Q2 e11
    have mp : 0 < (hI o2 M mo.toNatClampNeg).toInt := by
      rw [kM2]
      split
      · exact vp
      · exact hm kz
    rw [if_pos mp] at t11
    have Q11 := mkz_k k11 Q2
    replace e := cl_s e; obtain ⟨o12, e12, e⟩ := e
    obtain ⟨k12, l12, kM12, kH12, k312, kJ12⟩ := cm_z (zq := zq) Q11 e12
    have t12 := cm_t Q11 e12
    exact mk_273 hj h5 m8 hk (mkz_k k12 Q11) ⟨by omega, by omega, by rw [k312, k311, k32]; exact Y.2.2, fun n => absurd kz n⟩ e
  · exact mk_273 hj h5 m8 hk Q2 ⟨by omega, by omega, by rw [k32]; exact Y.2.2, fun _ => by rw [m7]; exact ⟨vp, vs⟩⟩ e
theorem mk_193 (hj : j = x3.toNatClampNeg) (h5 : Rg 0 1 x5) (m8 : kd = (0 : Int32) ∨ kd = (1 : Int32) → mo.toInt ≤ 8) (hk : Rg 0 3 kd) (h8 : Rg 0 11 x8) (Q : MkZ ρ x0 x1 x2 x4 M P H C R A B P1 lb lx lk lo j tk kd mo p0 h) (Y : MY zq M H x4 95 h) (hm : kd = (2 : Int32) → 0 < (hI h M mo.toNatClampNeg).toInt) (e : sX15_make_193 F h x0 x1 x2 x3 x4 x5 x6 x7 x8 kd x10 = some o) : WrE zq x4 o := by
  unfold sX15_make_193 at e
  replace e := cl_s e; obtain ⟨lb', eb, e⟩ := e
  have y : lb' = lb := r_eq Q.1.2.2.2.2.2.1 eb
  subst y
  replace e := (gd_s e).2
  replace e := br_s e; rcases e with ⟨_, e⟩ | ⟨n, e⟩
  · exact mk_219 hj h5 m8 hk h8 Q Y hm e
  replace e := cl_s e; obtain ⟨lb'', eb', e⟩ := e
  have y : lb'' = lb' := r_eq eb eb'
  subst y
  replace e := (gd_s e).2
  refine mk_219 hj h5 m8 hk ?_ Q Y hm e
  have r := Q.2.2.2.2.2.1
  rw [hj] at r
  exact rg_nlo n r (rg_b rfl)
/-- before a man is lifted -/
def M0 (zq : Nat) (M H x4 : Nat) (kd mo x5 x6 x8 : Int32) (h : Hp) : Prop := MY zq M H x4 96 h ∧ (kd = (3 : Int32) → 0 < (hI h H (((2 : Int32) * x8) + x5).toNatClampNeg).toInt) ∧ (¬ kd = (3 : Int32) → 0 < (hI h M x6.toNatClampNeg).toInt) ∧ (kd = (2 : Int32) → ¬ mo.toNatClampNeg = x6.toNatClampNeg ∧ 0 < (hI h M mo.toNatClampNeg).toInt)
theorem mk_159 (hj : j = x3.toNatClampNeg) (h5 : Rg 0 1 x5) (m8 : kd = (0 : Int32) ∨ kd = (1 : Int32) → mo.toInt ≤ 8) (hk : Rg 0 3 kd) (h8 : Rg 0 11 x8) (Q : MkZ ρ x0 x1 x2 x4 M P H C R A B P1 lb lx lk lo j tk kd mo p0 h) (Z : M0 zq M H x4 kd mo x5 x6 x8 h) (e : sX15_make_159 F h x0 x1 x2 x3 x4 x5 x6 x7 x8 kd x10 = some o) : WrE zq x4 o := by
  obtain ⟨Y, z1, z2, z3⟩ := Z
  have y1 := Y.1
  have y2 := Y.2.1
  obtain ⟨b1, b2, b3, b4, b5, b6, b7, b8, b9, b10⟩ := Q.2.1
  have ne : ∀ {a d p q : Nat}, ρ a = p → ρ d = q → p ≠ q → ¬ a = d := fun ha hd hpq z => hpq (by rw [← ha, z]; exact hd)
  unfold sX15_make_159 at e
  replace e := br_s e; rcases e with ⟨kz, e⟩ | ⟨kz, e⟩
  · replace e := cl_s e; obtain ⟨H', eh, e⟩ := e
    have y : H' = H := r_eq Q.1.2.2.1 eh
    subst y
    have gi := (gd_s e).1
    rw [Q.2.2.2.1.2] at gi
    have gb := inb_r gi
    have cq := nc_i gb.1
    replace e := (gd_s e).2
    replace e := (gd_s e).2
    replace e := nm_s e; obtain ⟨h6, w6, e⟩ := e
    have hp := z1 kz
    have kM : ∀ i, hI h6 M i = hI h M i := fun i => by rw [w6, rI_a (ne b2 b4 (by decide))]
    have tt : tot M H' h6 = tot M H' h - 1 := by
      have o1 : (1 : Int32).toInt = 1 := rfl
      have tv : (hI h H' (((2 : Int32) * x8) + x5).toNatClampNeg - (1 : Int32)).toInt = (hI h H' (((2 : Int32) * x8) + x5).toNatClampNeg).toInt - 1 := by
        have := (rg_top (hI h H' (((2 : Int32) * x8) + x5).toNatClampNeg)).2
        rw [ts (by rw [o1]; omega), o1]
      rw [tot_H (h := h) (j := (((2 : Int32) * x8) + x5).toNatClampNeg) (by omega) kM (fun i => by
        rw [w6, r_I]
        by_cases z : i = (((2 : Int32) * x8) + x5).toNatClampNeg
        · rw [if_pos ⟨rfl, z⟩, if_pos z]
        · rw [if_neg (fun w => z w.2), if_neg z]), tv]
      omega
    refine mk_193 hj h5 m8 hk h8 (mkz_k (by rw [w6]; exact mfz_w (Or.inr (Or.inr (Or.inl rfl)))) Q) ⟨by omega, by rw [w6]; exact y2, by rw [w6, rI_a (ne b1 b4 (by decide))]; exact Y.2.2⟩ (fun n => ?_) e
    rw [kz] at n
    exact absurd n (by decide)
  · replace e := cl_s e; obtain ⟨o2, e2, e⟩ := e
    obtain ⟨k2, l2, kM2, kH2, k32, kJ2⟩ := lv_z (zq := zq) Q e2
    have t2 := lv_t Q e2
    rw [if_pos (z2 kz)] at t2
    refine mk_193 hj h5 m8 hk h8 (mkz_k k2 Q) ⟨by omega, by omega, by rw [k32]; exact Y.2.2⟩ (fun n => ?_) e
    rw [kM2, if_neg (z3 n).1]
    exact (z3 n).2
theorem mk_92 (hj : j = x3.toNatClampNeg) (h5 : Rg 0 1 x5) (m8 : kd = (0 : Int32) ∨ kd = (1 : Int32) → mo.toInt ≤ 8) (hk : Rg 0 3 kd) (h8 : Rg 0 11 x8) (k01 : kd = (0 : Int32) ∨ kd = (1 : Int32)) (Q : MkZ ρ x0 x1 x2 x4 M P H C R A B P1 lb lx lk lo j tk kd mo p0 h) (Z : M0 zq M H x4 kd mo x5 x6 x8 h) (mq : 0 < (hI h M q.toNatClampNeg).toInt) (nq : ¬ x6.toNatClampNeg = q.toNatClampNeg) (e : sX15_make_92 F h x0 x1 x2 x3 x4 x5 x6 x7 x8 kd x10 q x4 x0 = some o) : WrE zq x4 o := by
  obtain ⟨Y, z1, z2, z3⟩ := Z
  have y1 := Y.1
  have y2 := Y.2.1
  have n3 : ¬ kd = (3 : Int32) := fun z => by rcases k01 with w | w <;> rw [w] at z <;> exact absurd z (by decide)
  have n2 : ¬ kd = (2 : Int32) := fun z => by rcases k01 with w | w <;> rw [w] at z <;> exact absurd z (by decide)
  unfold sX15_make_92 at e
  replace e := cl_s e; obtain ⟨o1, e1, e⟩ := e
  obtain ⟨k1, l1, kM1, kH1, k31, kJ1⟩ := lv_z (zq := zq) Q e1
  have t1 := lv_t Q e1
  rw [if_pos mq] at t1
  have Q1 := mkz_k k1 Q
  have m6 : 0 < (hI o1 M x6.toNatClampNeg).toInt := by rw [kM1, if_neg nq]; exact z2 n3
  have go : sX15_make_159 F o1 x0 x1 x2 x3 x4 x5 x6 x7 x8 kd x10 = some o → WrE zq x4 o := fun e => mk_159 hj h5 m8 hk h8 Q1 ⟨⟨by omega, by omega, by rw [k31]; exact Y.2.2⟩, fun z => absurd z n3, fun _ => m6, fun z => absurd z n2⟩ e
  replace e := cl_s e; obtain ⟨_, _, e⟩ := e
  replace e := (gd_s e).2
  replace e := nm_s e; obtain ⟨v4, w4, e⟩ := e
  replace e := cl_s e; obtain ⟨_, _, e⟩ := e
  replace e := br_s e; rcases e with ⟨_, e⟩ | ⟨_, e⟩
  · exact go e
  replace e := cl_s e; obtain ⟨_, _, e⟩ := e
  replace e := (gd_s e).2
  replace e := cl_s e; obtain ⟨_, _, e⟩ := e
  replace e := br_s e; rcases e with ⟨_, e⟩ | ⟨_, e⟩
  · exact go e
  replace e := cl_s e; obtain ⟨H', eh, e⟩ := e
  have y : H' = H := r_eq Q1.1.2.2.1 eh
  subst y
  have gi := (gd_s e).1
  rw [Q1.2.2.2.1.2] at gi
  have gb := inb_r gi
  have cq := nc_i gb.1
  replace e := (gd_s e).2
  replace e := br_s e; rcases e with ⟨_, e⟩ | ⟨n16, e⟩
  · exact go e
  have n16 := nle_i n16
  have o16 : (16 : Int32).toInt = 16 := rfl
  replace e := cl_s e; obtain ⟨H'', eh', e⟩ := e
  have y : H'' = H' := r_eq eh eh'
  subst y
  replace e := (gd_s e).2
  replace e := (gd_s e).2
  replace e := nm_s e; obtain ⟨h17, w17, e⟩ := e
  obtain ⟨b1, b2, b3, b4, b5, b6, b7, b8, b9, b10⟩ := Q.2.1
  have ne : ∀ {a d p q : Nat}, ρ a = p → ρ d = q → p ≠ q → ¬ a = d := fun ha hd hpq z => hpq (by rw [← ha, z]; exact hd)
  have kM : ∀ i, hI h17 M i = hI o1 M i := fun i => by rw [w17, rI_a (ne b2 b4 (by decide))]
  have tt : tot M H'' h17 = tot M H'' o1 + 1 := by
    have u1 : (1 : Int32).toInt = 1 := rfl
    have tv : (hI o1 H'' v4.toNatClampNeg + (1 : Int32)).toInt = (hI o1 H'' v4.toNatClampNeg).toInt + 1 := by
      have := (rg_top (hI o1 H'' v4.toNatClampNeg)).1
      rw [ta (by rw [u1]; omega), u1]
    rw [tot_H (h := o1) (j := v4.toNatClampNeg) (by omega) kM (fun i => by
      rw [w17, r_I]
      by_cases z : i = v4.toNatClampNeg
      · rw [if_pos ⟨rfl, z⟩, if_pos z]
      · rw [if_neg (fun w => z w.2), if_neg z]), tv]
    omega
  refine mk_159 hj h5 m8 hk h8 (mkz_k (by rw [w17]; exact mfz_w (Or.inr (Or.inr (Or.inl rfl)))) Q1) ⟨⟨by omega, ?_, ?_⟩, fun z => absurd z n3, fun _ => by rw [kM]; exact m6, fun z => absurd z n2⟩ e
  · rw [w17]; show cRt (hJ o1 x4 2) zq ≤ 16; omega
  · rw [w17, rI_a (ne b1 b4 (by decide)), k31]; exact Y.2.2
theorem mk_65 (hj : j = x3.toNatClampNeg) (h5 : Rg 0 1 x5) (m8 : kd = (0 : Int32) ∨ kd = (1 : Int32) → mo.toInt ≤ 8) (hk : Rg 0 3 kd) (h8 : Rg 0 11 x8) (Q : MkZ ρ x0 x1 x2 x4 M P H C R A B P1 lb lx lk lo j tk kd mo p0 h) (Z : M0 zq M H x4 kd mo x5 x6 x8 h) (t1 : ¬ x10 = 0 → kd = (1 : Int32) → 0 < (hI h M p0.toNatClampNeg).toInt ∧ ¬ x6.toNatClampNeg = p0.toNatClampNeg) (t2 : ¬ x10 = 0 → ¬ kd = (1 : Int32) → kd = (0 : Int32) ∧ 0 < (hI h M x7.toNatClampNeg).toInt ∧ ¬ x6.toNatClampNeg = x7.toNatClampNeg) (e : sX15_make_65 F h x0 x1 x2 x3 x4 x5 x6 x7 x8 kd x10 = some o) : WrE zq x4 o := by
  unfold sX15_make_65 at e
  replace e := br_s e; rcases e with ⟨_, e⟩ | ⟨n, e⟩
  · exact mk_159 hj h5 m8 hk h8 Q Z e
  replace e := br_s e; rcases e with ⟨kz, e⟩ | ⟨kz, e⟩
  · replace e := cl_s e; obtain ⟨P', ep, e⟩ := e
    have y : P' = P1 := r_eq Q.1.2.2.2.2.1 ep
    subst y
    replace e := (gd_s e).2
    have z0 : (0 : Int32).toNatClampNeg = 0 := rfl
    rw [z0, Q.2.2.2.2.1.2.2.2] at e
    exact mk_92 hj h5 m8 hk h8 (Or.inr kz) Q Z (t1 n kz).1 (t1 n kz).2 e
  · obtain ⟨k0, u1, u2⟩ := t2 n kz
    exact mk_92 hj h5 m8 hk h8 (Or.inl k0) Q Z u1 u2 e
end
