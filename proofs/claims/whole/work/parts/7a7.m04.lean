section
/-! positions that are read can be written -/
section
variable {zq : Nat} {ρ : Nat → Nat} {c : Cm} {h o g : Hp} {x0 x1 x3 b H F w : Nat} {Bq : Nat × Nat} {x2 : Int32}
/-- clear: nobody in hand -/
theorem clear_h (T : TH ρ c h) (rb : ρ b = 13) (eH : hR h b 5 = some H) (e : sX12_clear F h b = some o) : hR o b 5 = some H ∧ ∀ i, i < 24 → hI o H i = 0 := by
  have rH := rr T (thR T rb (i := 5) (k2 := 64) rfl (by decide)) eH
  obtain ⟨M, eM, rM⟩ := thR T rb (i := 0) (k2 := 62) rfl (by decide)
  obtain ⟨C, eC, rC⟩ := thR T rb (i := 6) (k2 := 65) rfl (by decide)
  have ne : ∀ {a d p q : Nat}, ρ a = p → ρ d = q → p ≠ q → ¬ a = d := fun ha hd hpq z => hpq (by rw [← ha, z]; exact hd)
  have z24 : (24 : Int32).toInt = 24 := rfl
  have z1 : (1 : Int32).toInt = 1 := rfl
  have b38 : ∀ (f : Nat) {g : Hp} {y : Int32}, (∀ i, hR g b i = hR h b i) → 0 ≤ y.toInt → y.toInt ≤ 24 → (∀ i : Nat, (i : Int) < y.toInt → hI g H i = 0) → sX12_clear_38 F f g b y = some o → hR o b 5 = some H ∧ ∀ i, i < 24 → hI o H i = 0 := by
    intro f
    induction f with
    | zero => intro g y _ _ _ _ e; exact absurd e (by simp [sX12_clear_38])
    | succ f ih =>
      intro g y kR a1 a2 C0 e
      unfold sX12_clear_38 at e
      simp only [nm] at e
      replace e := br_s e; rcases e with ⟨l, e⟩ | ⟨l, e⟩
      · have l := le_i l
        replace e := cl_s e; obtain ⟨r2, e2, e⟩ := e
        have y2 : r2 = C := r_eq eC (by rw [kR] at e2; exact e2)
        subst y2
        replace e := (gd_s e).2
        replace e := cl_s e; obtain ⟨r5, e5, e⟩ := e
        have y5 : r5 = r2 := r_eq eC (by have e5' : hR g b 6 = some r5 := e5; rw [kR] at e5'; exact e5')
        subst y5
        replace e := (gd_s e).2
        rw [← Option.some.inj e]
        refine ⟨by show hR g b 5 = some H; rw [kR]; exact eH, fun i hi => ?_⟩
        rw [rI_a (ne rH rb (by decide)), rI_a (ne rH rC (by decide)), rI_a (ne rH rC (by decide))]
        exact C0 i (by omega)
      have l := nle_i l
      replace e := cl_s e; obtain ⟨r9, e9, e⟩ := e
      have y9 : r9 = H := r_eq eH (by rw [kR] at e9; exact e9)
      subst y9
      replace e := (gd_s e).2
      have cy := nc_i a1
      have ty : (y + (1 : Int32)).toInt = y.toInt + 1 := by rw [ta (by rw [z1]; omega), z1]
      refine ih (g := wI g r9 y.toNatClampNeg (0 : Int32)) (fun i => kR i) (by omega) (by omega) (fun i hi => ?_) e
      rw [r_I]
      by_cases z : i = y.toNatClampNeg
      · rw [if_pos ⟨rfl, z⟩]
      · rw [if_neg (fun w => z w.2)]; exact C0 i (by omega)
  have b2 : ∀ (f : Nat) {g : Hp} {y : Int32}, (∀ i, hR g b i = hR h b i) → sX12_clear_2 F f g b y = some o → hR o b 5 = some H ∧ ∀ i, i < 24 → hI o H i = 0 := by
    intro f
    induction f with
    | zero => intro g y _ e; exact absurd e (by simp [sX12_clear_2])
    | succ f ih =>
      intro g y kR e
      unfold sX12_clear_2 at e
      simp only [nm] at e
      replace e := br_s e; rcases e with ⟨_, e⟩ | ⟨_, e⟩
      · exact b38 F (g := wI (wJ (wI g b 1 (0 : Int32)) b 2 (0 : Int64)) b 3 (0 : Int32)) (y := (0 : Int32)) (fun i => kR i) (by decide) (by decide) (fun i hi => absurd hi (by show ¬ (i : Int) < 0; omega)) e
      replace e := cl_s e; obtain ⟨r5, e5, e⟩ := e
      replace e := (gd_s e).2
      exact ih (g := wI g r5 y.toNatClampNeg (0 : Int32)) (fun i => kR i) e
  unfold sX12_clear at e
  exact b2 F (fun _ => rfl) e
theorem hands_w (T : TH ρ c h) (r0 : ρ x0 = 16) (rb : ρ b = 13) (eH : hR h b 5 = some H) (z : ∀ i, i < 24 → hI h H i = 0) {o : Int32 × Hp} (e : sX15_readHands F h x0 b = some o) : sH o.2 H 0 12 + sH o.2 H 1 12 ≤ 32 := by
  have rH := rr T (thR T rb (i := 5) (k2 := 64) rfl (by decide)) eH
  have nx : ¬ H = x0 := fun q => by rw [q, r0] at rH; exact absurd rH (by decide)
  have s0 : ∀ {g : Hp}, (∀ i, hI g H i = hI h H i) → ∀ d n, d < 2 → n ≤ 12 → sH g H d n = 0 := fun {g} k d n hd => by
    induction n with
    | zero => intro _; rfl
    | succ n ih => intro hn; rw [sH, ih (by omega), k, z _ (by omega)]; rfl
  have rk : ∀ {h : Hp} {y : Int32} {o : Int32 × Hp}, sX15_reads h x0 y = some o → (∀ i, hI o.2 H i = hI h H i) ∧ (∀ a i, hR o.2 a i = hR h a i) ∧ (∀ a, hN o.2 a = hN h a) := fun {h y o} e => by
    unfold sX15_reads sX15_look sX15_look_24 at e
    replace e := cl_s e; obtain ⟨o1, e1, e⟩ := e
    have h1 : o1.2 = h := by
      replace e1 := br_s e1; rcases e1 with ⟨_, e1⟩ | ⟨_, e1⟩
      · rw [← Option.some.inj e1]
      replace e1 := cl_s e1; obtain ⟨_, _, e1⟩ := e1
      rw [← Option.some.inj (gd_s e1).2]
    rw [h1] at e
    replace e := br_s e; rcases e with ⟨_, e⟩ | ⟨_, e⟩
    · replace e := nm_s e; obtain ⟨h3, w3, e⟩ := e
      rw [← Option.some.inj e]
      exact ⟨fun i => by show hI h3 H i = _; rw [w3, rI_a nx], fun a i => by show hR h3 a i = _; rw [w3]; rfl, fun a => by show hN h3 a = _; rw [w3]; rfl⟩
    · rw [← Option.some.inj e]; exact ⟨fun _ => rfl, fun _ _ => rfl, fun _ => rfl⟩
  unfold sX15_readHands at e
  replace e := cl_s e; obtain ⟨o1, e1, e⟩ := e
  obtain ⟨k1, kR, kN⟩ := rk e1
  replace e := br_s e; rcases e with ⟨_, e⟩ | ⟨_, e⟩
  · refine rh_18 F (by rw [kR]; exact eH) (by rw [kN]; exact thN T rH rfl (by decide)) nx (by decide) (by decide) (fun i => by rw [k1]; exact (thI T rH rfl : Rg 0 16 (hI h H i)).1) (fun i => by rw [k1]; exact (thI T rH rfl : Rg 0 16 (hI h H i)).2) ?_ e
    rw [s0 k1 0 12 (by decide) (by decide), s0 k1 1 12 (by decide) (by decide)]; rfl
  · replace e := cl_s e; obtain ⟨o3, e3, e⟩ := e
    replace e := (gd_s e).2
    obtain ⟨k3, _, _⟩ := rk e3
    rw [← Option.some.inj e]
    show sH o3.2 H 0 12 + sH o3.2 H 1 12 ≤ 32
    have kk : ∀ i, hI o3.2 H i = hI h H i := fun i => (k3 i).trans (k1 i)
    rw [s0 kk 0 12 (by decide) (by decide), s0 kk 1 12 (by decide) (by decide)]; decide
/-- rights beyond the law's squares are off -/
def BO (x0 b : Nat) (h : Hp) : Prop := ∀ i, (hI h x0 13).toNatClampNeg ≤ i → i < 64 → bitJ (hJ h b 2) i = false
theorem boz_k (e13 : hI o x0 13 = hI h x0 13) (eJ : hJ o b 2 = hJ h b 2) (P : BO x0 b h) : BO x0 b o := fun i h1 h2 => by
  rw [e13] at h1
  rw [eJ]
  exact P i h1 h2
theorem crt_hi {a : Int64} {n : Nat} : ∀ m, n ≤ m → (∀ i, n ≤ i → i < m → bitJ a i = false) → cRt a m = cRt a n := by
  intro m
  induction m with
  | zero => intro h _; have : n = 0 := by omega
            rw [this]
  | succ m ih =>
    intro h k
    by_cases z : n = m + 1
    · rw [z]
    · rw [cRt, ih (by omega) (fun i a b => k i a (by omega)), k m (by omega) (by omega)]; simp
theorem look15_h {o : Int32 × Hp} (e : sX15_look h x0 = some o) : o.2 = h := by
  unfold sX15_look sX15_look_24 at e
  replace e := br_s e; rcases e with ⟨_, e⟩ | ⟨_, e⟩
  · rw [← Option.some.inj e]
  replace e := cl_s e; obtain ⟨_, _, e⟩ := e
  replace e := (gd_s e).2
  rw [← Option.some.inj e]
/-- what reading leaves of the object -/
def RQ (x0 : Nat) (h o : Hp) : Prop := (∀ a i, hJ o a i = hJ h a i) ∧ ∀ i, ¬ i = 19 → ¬ i = 20 → hI o x0 i = hI h x0 i
theorem rq_w {i : Nat} {v : Int32} (hi : i = 19 ∨ i = 20) : RQ x0 h (wI h x0 i v) := ⟨fun _ _ => rfl, fun j n1 n2 => rI_o (by rcases hi with z | z <;> rw [z]; exact n1; exact n2)⟩
theorem rq_t (p : RQ x0 h g) (q : RQ x0 g o) : RQ x0 h o := ⟨fun a i => (q.1 a i).trans (p.1 a i), fun i n1 n2 => (q.2 i n1 n2).trans (p.2 i n1 n2)⟩
theorem rq_0 : RQ x0 h h := ⟨fun _ _ => rfl, fun _ _ _ => rfl⟩
theorem rs_q {y : Int32} {o : Int32 × Hp} (iF : Rg 3 8 (hI h x0 11)) (iR : Rg 3 8 (hI h x0 12)) (sq : SqOk x0 h) (e : sX15_readSquare h x0 y = some o) : RQ x0 h o.2 ∧ (o.1 = 0 ∨ (0 ≤ (hI o.2 x0 20).toInt ∧ (hI o.2 x0 20).toInt < (hI h x0 13).toInt)) := by
  have z0 : (0 : Int32).toInt = 0 := rfl
  unfold sX15_readSquare sX15_readSquare_28 sX15_readSquare_68 at e
  replace e := cl_s e; obtain ⟨o1, e1, e⟩ := e
  rw [look15_h e1] at e
  replace e := nm_s e; obtain ⟨v2, w2, e⟩ := e
  replace e := cl_s e; obtain ⟨o3, e3, e⟩ := e
  rw [look15_h e3] at e
  replace e := br_s e; rcases e with ⟨_, e⟩ | ⟨_, e⟩
  · rw [← Option.some.inj e]; exact ⟨rq_0, Or.inl rfl⟩
  replace e := br_s e; rcases e with ⟨_, e⟩ | ⟨n2, e⟩
  · rw [← Option.some.inj e]; exact ⟨rq_0, Or.inl rfl⟩
  have n2 := nlt_i n2
  replace e := br_s e; rcases e with ⟨l2, e⟩ | ⟨_, e⟩
  · have l2 := lt_i l2
    replace e := nm_s e; obtain ⟨h7, w7, e⟩ := e
    have k7 : RQ x0 h h7 := by rw [w7]; exact rq_w (Or.inl rfl)
    replace e := cl_s e; obtain ⟨o8, e8, e⟩ := e
    rw [look15_h e8] at e
    replace e := nm_s e; obtain ⟨v9, w9, e⟩ := e
    replace e := cl_s e; obtain ⟨o10, e10, e⟩ := e
    rw [look15_h e10] at e
    replace e := br_s e; rcases e with ⟨_, e⟩ | ⟨_, e⟩
    · rw [← Option.some.inj e]; exact ⟨k7, Or.inl rfl⟩
    replace e := br_s e; rcases e with ⟨_, e⟩ | ⟨n9, e⟩
    · rw [← Option.some.inj e]; exact ⟨k7, Or.inl rfl⟩
    have n9 := nlt_i n9
    replace e := br_s e; rcases e with ⟨l9, e⟩ | ⟨_, e⟩
    · have l9 := lt_i l9
      rw [k7.2 12 (by decide) (by decide)] at l9
      replace e := nm_s e; obtain ⟨h14, w14, e⟩ := e
      have k14 : RQ x0 h h14 := rq_t k7 (by rw [w14]; exact rq_w (Or.inr rfl))
      have v14 : hI h14 x0 20 = v9 * hI h x0 11 + v2 := by rw [w14, rI_s, k7.2 11 (by decide) (by decide)]
      obtain ⟨a1, a2⟩ := iF
      obtain ⟨b1, b2⟩ := iR
      have m0 : 0 ≤ v9.toInt * (hI h x0 11).toInt := Int.mul_nonneg (by omega) (by omega)
      have m1 : v9.toInt * (hI h x0 11).toInt ≤ ((hI h x0 12).toInt - 1) * (hI h x0 11).toInt := Int.mul_le_mul_of_nonneg_right (by omega) (by omega)
      have m2 : ((hI h x0 12).toInt - 1) * (hI h x0 11).toInt = (hI h x0 11).toInt * (hI h x0 12).toInt - (hI h x0 11).toInt := by rw [Int.sub_mul, Int.one_mul, Int.mul_comm]
      have m3 : (hI h x0 11).toInt * (hI h x0 12).toInt ≤ 8 * 8 := Int.mul_le_mul a2 b2 (by omega) (by omega)
      have sq' : (hI h x0 13).toInt = (hI h x0 11).toInt * (hI h x0 12).toInt := sq
      have t1 : (v9 * hI h x0 11).toInt = v9.toInt * (hI h x0 11).toInt := tm (by omega)
      have t2 : (v9 * hI h x0 11 + v2).toInt = v9.toInt * (hI h x0 11).toInt + v2.toInt := by rw [ta (by rw [t1]; omega), t1]
      have in14 : 0 ≤ (hI h14 x0 20).toInt ∧ (hI h14 x0 20).toInt < (hI h x0 13).toInt := by rw [v14, t2]; omega
      replace e := br_s e; rcases e with ⟨_, e⟩ | ⟨_, e⟩
      · replace e := nm_s e; obtain ⟨h16, w16, e⟩ := e
        rw [← Option.some.inj e]
        refine ⟨rq_t k14 (by show RQ x0 h14 h16; rw [w16]; exact rq_w (Or.inl rfl)), Or.inr ?_⟩
        show 0 ≤ (hI h16 x0 20).toInt ∧ (hI h16 x0 20).toInt < _
        rw [w16, rI_o (by decide)]
        exact in14
      · replace e := nm_s e; obtain ⟨h17, w17, e⟩ := e
        rw [← Option.some.inj e]
        exact ⟨rq_t k14 (by show RQ x0 h14 h17; rw [w17]; exact rq_w (Or.inl rfl)), Or.inl rfl⟩
    · rw [← Option.some.inj e]; exact ⟨k7, Or.inl rfl⟩
  · rw [← Option.some.inj e]; exact ⟨rq_0, Or.inl rfl⟩
theorem rds_q {y : Int32} {o : Int32 × Hp} (e : sX15_reads h x0 y = some o) : RQ x0 h o.2 := by
  unfold sX15_reads at e
  replace e := cl_s e; obtain ⟨o1, e1, e⟩ := e
  rw [look15_h e1] at e
  replace e := br_s e; rcases e with ⟨_, e⟩ | ⟨_, e⟩
  · replace e := nm_s e; obtain ⟨h3, w3, e⟩ := e
    rw [← Option.some.inj e]
    show RQ x0 h h3
    rw [w3]; exact rq_w (Or.inl rfl)
  · rw [← Option.some.inj e]; exact rq_0
theorem bo_rq (k : RQ x0 h o) (P : BO x0 b h) : BO x0 b o := boz_k (k.2 13 (by decide) (by decide)) (k.1 b 2) P
theorem rr_18 : ∀ (f : Nat) {h : Hp} {y : Int32} {o : Int32 × Hp}, Rg 3 8 (hI h x0 11) → Rg 3 8 (hI h x0 12) → Rg 9 64 (hI h x0 13) → SqOk x0 h → BO x0 b h → sX15_readRights_18 F f h x0 b y = some o → BO x0 b o.2 := by
  intro f
  induction f with
  | zero => intro h y o _ _ _ _ _ e; exact absurd e (by simp [sX15_readRights_18])
  | succ f ih =>
    intro h y o iF iR iS sq P e
    have b32 : sX15_readRights_32 F (sX15_readRights_18 F f) h x0 b y = some o → BO x0 b o.2 := fun e => by
      unfold sX15_readRights_32 at e
      replace e := cl_s e; obtain ⟨o1, e1, e⟩ := e
      obtain ⟨k1, w1⟩ := rs_q iF iR sq e1
      have P1 := bo_rq k1 P
      replace e := br_s e; rcases e with ⟨_, e⟩ | ⟨n1, e⟩
      · rw [← Option.some.inj e]; exact P1
      obtain ⟨u1, u2⟩ := w1.resolve_left n1
      replace e := nm_s e; obtain ⟨v3, w3, e⟩ := e
      replace e := nm_s e; obtain ⟨h4, w4, e⟩ := e
      have kI : ∀ i, hI h4 x0 i = hI o1.2 x0 i := fun i => by rw [w4]; rfl
      have k13 : hI o1.2 x0 13 = hI h x0 13 := k1.2 13 (by decide) (by decide)
      have k11 : hI o1.2 x0 11 = hI h x0 11 := k1.2 11 (by decide) (by decide)
      have k12 : hI o1.2 x0 12 = hI h x0 12 := k1.2 12 (by decide) (by decide)
      have i63 := iS.2
      have iv : Rg 0 63 v3 := by rw [w3]; exact ⟨u1, by omega⟩
      refine ih (h := h4) (by rw [kI, k11]; exact iF) (by rw [kI, k12]; exact iR) (by rw [kI, k13]; exact iS) (by unfold SqOk; rw [kI, kI, kI, k11, k12, k13]; exact sq) (fun i h1 h2 => ?_) e
      rw [kI] at h1
      rw [w4, r_J, if_pos ⟨rfl, rfl⟩, bj_or, P1 i h1 h2, bj_one iv, Bool.false_or]
      rw [k13] at h1
      have c3 := nc_i iv.1
      have c13 := nc_i (x := hI h x0 13) (by have := iS.1; omega)
      rw [← w3] at u2
      exact decide_eq_false (by omega)
    unfold sX15_readRights_18 at e
    replace e := br_s e; rcases e with ⟨_, e⟩ | ⟨_, e⟩
    · exact b32 e
    replace e := cl_s e; obtain ⟨o2, e2, e⟩ := e
    rw [look15_h e2] at e
    replace e := br_s e; rcases e with ⟨_, e⟩ | ⟨_, e⟩
    · replace e := cl_s e; obtain ⟨o4, e4, e⟩ := e
      replace e := (gd_s e).2
      rw [← Option.some.inj e]
      exact bo_rq (rds_q e4) P
    · exact b32 e
theorem rr_q {o : Int32 × Hp} (T : TH ρ c h) (r0 : ρ x0 = 16) (sq : SqOk x0 h) (P : BO x0 b h) (e : sX15_readRights F h x0 b = some o) : BO x0 b o.2 := by
  unfold sX15_readRights at e
  replace e := cl_s e; obtain ⟨o1, e1, e⟩ := e
  have k1 := rds_q e1
  have P1 := bo_rq k1 P
  replace e := br_s e; rcases e with ⟨_, e⟩ | ⟨_, e⟩
  · refine rr_18 F (by rw [k1.2 11 (by decide) (by decide)]; exact thI T r0 rfl) (by rw [k1.2 12 (by decide) (by decide)]; exact thI T r0 rfl) (by rw [k1.2 13 (by decide) (by decide)]; exact thI T r0 rfl) (by unfold SqOk; rw [k1.2 11 (by decide) (by decide), k1.2 12 (by decide) (by decide), k1.2 13 (by decide) (by decide)]; exact sq) P1 e
  · replace e := cl_s e; obtain ⟨o3, e3, e⟩ := e
    replace e := (gd_s e).2
    rw [← Option.some.inj e]
    exact bo_rq (rds_q e3) P1
/-- clear: no rights -/
theorem clear_j (e : sX12_clear F h b = some o) : hJ o b 2 = 0 := by
  have b38 : ∀ (f : Nat) {g : Hp} {y : Int32}, hJ g b 2 = 0 → sX12_clear_38 F f g b y = some o → hJ o b 2 = 0 := by
    intro f
    induction f with
    | zero => intro g y _ e; exact absurd e (by simp [sX12_clear_38])
    | succ f ih =>
      intro g y z e
      unfold sX12_clear_38 at e
      simp only [nm] at e
      replace e := br_s e; rcases e with ⟨_, e⟩ | ⟨_, e⟩
      · replace e := cl_s e; obtain ⟨_, _, e⟩ := e
        replace e := (gd_s e).2
        replace e := cl_s e; obtain ⟨_, _, e⟩ := e
        replace e := (gd_s e).2
        rw [← Option.some.inj e]; exact z
      replace e := cl_s e; obtain ⟨r9, _, e⟩ := e
      replace e := (gd_s e).2
      exact ih (g := wI g r9 y.toNatClampNeg (0 : Int32)) z e
  have b2 : ∀ (f : Nat) {g : Hp} {y : Int32}, sX12_clear_2 F f g b y = some o → hJ o b 2 = 0 := by
    intro f
    induction f with
    | zero => intro g y e; exact absurd e (by simp [sX12_clear_2])
    | succ f ih =>
      intro g y e
      unfold sX12_clear_2 at e
      simp only [nm] at e
      replace e := br_s e; rcases e with ⟨_, e⟩ | ⟨_, e⟩
      · exact b38 F (g := wI (wJ (wI g b 1 (0 : Int32)) b 2 (0 : Int64)) b 3 (0 : Int32)) (y := (0 : Int32)) (by show hJ (wJ (wI g b 1 (0 : Int32)) b 2 (0 : Int64)) b 2 = 0; rw [r_J, if_pos ⟨rfl, rfl⟩]) e
      replace e := cl_s e; obtain ⟨r5, _, e⟩ := e
      replace e := (gd_s e).2
      exact ih (g := wI g r5 y.toNatClampNeg (0 : Int32)) e
  unfold sX12_clear at e
  exact b2 F e
def rdA : List (Nat × Nat) := [(16, 17), (16, 18), (16, 19), (16, 20)]
theorem isPos_w {w_x3 : Nat} (hF : 700000 ≤ F) (hA : pmA c [(16, 17), (16, 18), (16, 19), (16, 20)]) (hO_x3 : pmO c w_x3 [(62, 999), (63, 999), (64, 999), (65, 999), (13, 1), (13, 2), (13, 3), (13, 7)]) (o_x3 : cw c x3 = w_x3) (T : TH ρ c h) (r_x0 : ρ x0 = 16) (r_x1 : ρ x1 = 82) (i_x2 : Rg (0) (1200) (x2)) (r_x3 : ρ x3 = 13) (sq : SqOk x0 h) : Sat (sX15_isPosition F h x0 x1 x2 x3) (ZQ (ZI ρ c 0 1) (fun o => o.1 = 0 ∨ ∃ H, hR o.2 x3 5 = some H ∧ sH o.2 H 0 12 + sH o.2 H 1 12 ≤ 32 ∧ BO x0 x3 o.2)) := by
  unfold sX15_isPosition sX15_isPosition_71 sX15_isPosition_72
  have bad : ∀ {g : Hp}, TH ρ (nst c 7) g → Sat (gd ((0 : Int32) &&& 1 = 0) <| some ((0 : Int32), g)) (ZQ (ZI ρ c 0 1) (fun o => o.1 = 0 ∨ ∃ H, hR o.2 x3 5 = some H ∧ sH o.2 H 0 12 + sH o.2 H 1 12 ≤ 32 ∧ BO x0 x3 o.2)) := fun T' => s_gd (rg_bool (rg_m (rg_b rfl : Rg (0) (0) ((0 : Int32))) (by decide))) (s_some ⟨⟨th_un T', rg_m (rg_b rfl : Rg (0) (0) ((0 : Int32))) (by decide)⟩, Or.inl rfl⟩)
  refine s_hq (th_wR T r_x0 (k := 16) (i := 17) (j := 7) (k2 := 82) rfl (by decide) rfl (by decide) r_x1 rfl nid_7 (by decide) (by decide) rfl rfl (fun z => absurd rfl z) (pm_a hA rfl)) (fun h_1 T_1 w_2 => ?_)
  refine s_hq (th_wI T_1 r_x0 (k := 16) (lo := (0)) (hi := (1200)) rfl (i_x2 : Rg (0) (1200) (x2)) (by decide) (by decide) (pm_a hA rfl)) (fun h_2 T_3 w_4 => ?_)
  refine s_hq (th_wI T_3 r_x0 (k := 16) (lo := (0)) (hi := (1200)) rfl ((rg_m (rg_b rfl : Rg (0) (0) ((0 : Int32))) (by decide)) : Rg (0) (1200) ((0 : Int32))) (by decide) (by decide) (pm_a hA rfl)) (fun h_3 T_5 w_6 => ?_)
  have m7c : ∀ (S : Nat → Nat → Nat → Bool) (g : Hp), (cat (nst c 7) S g).2.1 7 = true := fun _ _ => (nst_s : (nst c 7).2.1 7 = true)
  obtain ⟨H, eH, rH⟩ := thR T_5 r_x3 (i := 5) (k2 := 64) rfl (by decide)
  refine s_dd (zX12_clear (c := (nst c 7)) hF (pmO_s hO_x3 rfl) o_x3 T_5 r_x3) (fun o_4 e_4 T_7 => ?_)
  obtain ⟨eH4, z4⟩ := clear_h T_5 r_x3 eH e_4
  have j4 : BO x0 x3 o_4 := fun i _ _ => by rw [clear_j e_4]; exact bj_zero i
  have sq3 : SqOk x0 h_3 := by
    unfold SqOk
    rw [w_6, rI_o (by decide), rI_o (by decide), rI_o (by decide), w_4, rI_o (by decide), rI_o (by decide), rI_o (by decide), w_2]
    exact sq
  have sq4 : SqOk x0 o_4 := by
    obtain ⟨_, oB, _⟩ := clear_q T_5 r_x3 (M := (thR T_5 r_x3 (i := 0) (k2 := 62) rfl (by decide)).choose) (thR T_5 r_x3 (i := 0) (k2 := 62) rfl (by decide)).choose_spec.1 e_4
    have q : ∀ i, hI o_4 x0 i = hI h_3 x0 i := fun i => oB x0 i (by unfold OB; rw [r_x0]; decide)
    unfold SqOk
    rw [q, q, q]; exact sq3
  refine s_cIf (S := fS [(16, 19)] [(w_x3, [(62, 999)])]) T_7 (fs_sub (pmA_s hA rfl) (fs_c (pmO_s hO_x3 rfl) fs_n)) (zX15_readMen hF (m7c _ _) fs_a (fs_o (.head _)) o_x3 (th_in _ T_7) r_x0 r_x3) (fun o_5 T_8 i_o_5 f_5 => ?_)
  refine s_br (fun _ => bad T_8) (fun c_9 => ?_)
  have kb : ∀ {S : Nat → Nat → Nat → Bool} {g g' : Hp}, Fr ρ (cat (nst c 7) S g) g g' → (∀ w, S 13 w 5 = false) → (∀ w i, S 64 w i = false) → hR g x3 5 = some H → (∀ i, i < 24 → hI g H i = 0) → hR g' x3 5 = some H ∧ ∀ i, i < 24 → hI g' H i = 0 := fun f s1 s2 e z => ⟨by rw [(fr_RI f r_x3 (by decide) s1).2.2]; exact e, fun i hi => by rw [(fr_RI f rH (by decide) (fun w => s2 w i)).1]; exact z i hi⟩
  obtain ⟨eH5, z5⟩ := kb f_5 (fun _ => rfl) (fun _ _ => rfl) eH4 z4
  have kq : ∀ {S : Nat → Nat → Nat → Bool} {g g' : Hp}, TH ρ (nst c 7) g → Fr ρ (cat (nst c 7) S g) g g' → (∀ w, S 16 w 11 = false) → (∀ w, S 16 w 12 = false) → (∀ w, S 16 w 13 = false) → SqOk x0 g → SqOk x0 g' := fun Tg f s1 s2 s3 q => sq_fr Tg r_x0 f s1 s2 s3 q
  have kj : ∀ {S : Nat → Nat → Nat → Bool} {g g' : Hp}, Fr ρ (cat (nst c 7) S g) g g' → (∀ w, S 16 w 13 = false) → (∀ w, S 13 w 2 = false) → BO x0 x3 g → BO x0 x3 g' := fun f s1 s2 q => boz_k (fr_RI f r_x0 (by decide) s1).1 (fr_RI f r_x3 (by decide) s2).2.1 q
  have sq5 := kq T_7 f_5 (fun _ => rfl) (fun _ => rfl) (fun _ => rfl) sq4
  have j5 := kj f_5 (fun _ => rfl) (fun _ => rfl) j4
  refine s_cIf (S := fS [(16, 19)] [(w_x3, [(13, 1)])]) T_8 (fs_sub (pmA_s hA rfl) (fs_c (pmO_s hO_x3 rfl) fs_n)) (zX15_readSide (F := F) hF (m7c _ _) fs_a (fs_o (.head _)) o_x3 (th_in _ T_8) r_x0 r_x3) (fun o_7 T_12 i_o_7 f_7 => ?_)
  refine s_br (fun _ => bad T_12) (fun c_13 => ?_)
  obtain ⟨eH7, z7⟩ := kb f_7 (fun _ => rfl) (fun _ _ => rfl) eH5 z5
  have sq7 := kq T_8 f_7 (fun _ => rfl) (fun _ => rfl) (fun _ => rfl) sq5
  have j7 := kj f_7 (fun _ => rfl) (fun _ => rfl) j5
  refine s_cIfq (S := fS [(16, 19), (16, 20)] [(w_x3, [(13, 2)])]) T_12 (fs_sub (pmA_s hA rfl) (fs_c (pmO_s hO_x3 rfl) fs_n)) (s_weq (zX15_readRights hF (m7c _ _) fs_a (fs_o (.head _)) o_x3 (th_in _ T_12) r_x0 r_x3)) (fun o_9 T_16 i_o_9 f_9 e_9 => ?_)
  refine s_br (fun _ => bad T_16) (fun c_17 => ?_)
  obtain ⟨eH9, z9⟩ := kb f_9 (fun _ => rfl) (fun _ _ => rfl) eH7 z7
  have j9 := rr_q T_12 r_x0 sq7 j7 e_9
  refine s_cIf (S := fS [(16, 19), (16, 20)] [(w_x3, [(63, 999), (13, 3)])]) T_16 (fs_sub (pmA_s hA rfl) (fs_c (pmO_s hO_x3 rfl) fs_n)) (zX15_readPass hF (m7c _ _) fs_a (fs_o (.head _)) o_x3 (th_in _ T_16) r_x0 r_x3) (fun o_11 T_20 i_o_11 f_11 => ?_)
  refine s_br (fun _ => bad T_20) (fun c_21 => ?_)
  obtain ⟨eH11, z11⟩ := kb f_11 (fun _ => rfl) (fun _ _ => rfl) eH9 z9
  have j11 := kj f_11 (fun _ => rfl) (fun _ => rfl) j9
  refine s_cIfq (S := fS [(16, 19)] [(w_x3, [(64, 999)])]) T_20 (fs_sub (pmA_s hA rfl) (fs_c (pmO_s hO_x3 rfl) fs_n)) (s_weq (zX15_readHands hF (m7c _ _) fs_a (fs_o (.head _)) o_x3 (th_in _ T_20) r_x0 r_x3)) (fun o_13 T_24 i_o_13 f_13 e_13 => ?_)
  refine s_br (fun _ => bad T_24) (fun c_25 => ?_)
  have s13 := hands_w T_20 r_x0 r_x3 eH11 z11 e_13
  have j13 := kj f_13 (fun _ => rfl) (fun _ => rfl) j11
  have eH13 : hR o_13.2 x3 5 = some H := by rw [(fr_RI f_13 r_x3 (by decide) (fun _ => rfl)).2.2]; exact eH11
  refine s_cIf (S := fS [(16, 19)] [(w_x3, [(65, 999), (13, 7)])]) T_24 (fs_sub (pmA_s hA rfl) (fs_c (pmO_s hO_x3 rfl) fs_n)) (zX15_readRest hF (m7c _ _) fs_a (fs_o (.head _)) o_x3 (th_in _ T_24) r_x0 r_x3) (fun o_15 T_28 i_o_15 f_15 => ?_)
  refine s_br (fun _ => bad T_28) (fun c_29 => ?_)
  have k15 : ∀ i, hI o_15.2 H i = hI o_13.2 H i := fun i => (fr_RI f_15 rH (by decide) (fun _ => rfl)).1
  refine s_gd (rg_bool (rg_m (rg_b rfl : Rg (1) (1) ((1 : Int32))) (by decide))) ?_
  exact s_some ⟨⟨th_un T_28, rg_m (rg_b rfl : Rg (1) (1) ((1 : Int32))) (by decide)⟩, Or.inr ⟨H, by rw [(fr_RI f_15 r_x3 (by decide) (fun _ => rfl)).2.2]; exact eH13, by rw [sh_eq (h := o_13.2) 12 (fun i _ => k15 _), sh_eq (h := o_13.2) 12 (fun i _ => k15 _)]; exact s13, kj f_15 (fun _ => rfl) (fun _ => rfl) j13⟩⟩
theorem position_w (hF : 700000 ≤ F) (hA : pmA c [(84, 999), (85, 999), (86, 999), (16, 1), (16, 16), (16, 17), (16, 18), (16, 19), (16, 20), (16, 23), (16, 24)]) (hi_2521 : pmO c 2521 [(62, 999), (63, 999), (64, 999), (65, 999), (13, 1), (13, 2), (13, 3), (13, 7)]) (hi_3400 : pmO c 3400 [(62, 999), (63, 999), (64, 999), (65, 999), (13, 1), (13, 2), (13, 3), (13, 7)]) (T : TH ρ c h) (r0 : ρ x0 = 16) (bd : BdY zq Bq x0 h) (sq : SqOk x0 h) (hz : zq = 64) : Sat (sX15_position F h x0) (MkI ρ c (-1400) 59 (BdY zq Bq x0)) := by
  unfold sX15_position
  refine s_q (fun v ev => ?_)
  have iv : Rg 0 1200 v := by rw [ev]; exact thI T r0 rfl
  refine s_hq (th_wI T r0 (k := 16) (lo := 0) (hi := 1200) rfl (rg_m (rg_b rfl : Rg 0 0 (0 : Int32)) (by decide)) (by decide) (by decide) (pm_a hA rfl)) (fun h2 T2 w2 => ?_)
  have f2 := fr1I (c := c) (A := [(16, 1)]) (k := 16) r0 rfl w2
  have kp : ∀ {A : List (Nat × Nat)} {Bs : List (Nat × List (Nat × Nat))} {g g' : Hp}, TH ρ c g → TH ρ c g' → Fr ρ (cat c (fS A Bs) g) g g' → (∀ w i, i = 14 ∨ i = 15 ∨ i = 11 ∨ i = 12 ∨ i = 13 → fS A Bs 16 w i = false) → (∀ k w i, k = 84 ∨ k = 85 → fS A Bs k w i = false) → (∀ k i, k = 13 ∨ k = 62 ∨ k = 63 ∨ k = 64 → fS A Bs k 3400 i = false) → BdY zq Bq x0 g ∧ SqOk x0 g ∧ zq = 64 → BdY zq Bq x0 g' ∧ SqOk x0 g' ∧ zq = 64 := fun {A Bs g g'} Tg Tg' f s1 s2 s3 K => ⟨bdy_fr Tg r0 f (fun w => s1 w 14 (by omega)) (fun w => s1 w 15 (by omega)) (fun w i => s2 84 w i (by omega)) (fun w i => s2 85 w i (by omega)) (fun i _ => s3 13 i (by omega)) (fun i => s3 62 i (by omega)) (fun i => s3 63 i (by omega)) (fun i => s3 64 i (by omega)) K.1 Tg', sq_fr Tg r0 f (fun w => s1 w 11 (by omega)) (fun w => s1 w 12 (by omega)) (fun w => s1 w 13 (by omega)) K.2.1, K.2.2⟩
  have K2 := kp T T2 f2 (fun w i hi => by rcases hi with z | z | z | z | z <;> subst z <;> rfl) (fun k w i hk => by rcases hk with z | z <;> subst z <;> rfl) (fun k i hk => by rcases hk with z | z | z | z <;> subst z <;> rfl) ⟨bd, sq, hz⟩
  refine s_dI0 (zX15_freePlace hF T2 r0) (fun o3 e3 e3' i3 => ?_)
  rw [e3']
  unfold sX15_position_14
  refine s_br (fun _ => s_some ⟨ρ, c, ex_0, T2, rg_b rfl, K2.1⟩) (fun _ => ?_)
  obtain ⟨t, et, qt⟩ := thR T2 r0 (i := 0) (k2 := 82) rfl (by decide)
  refine s_ref et ?_
  obtain ⟨b, eb, qb⟩ := thR T2 r0 (i := 21) (k2 := 13) rfl (by decide)
  refine s_ref eb ?_
  have wb : cw c b = 2521 := th_id T2 r0 (w := 2521) eb rfl (by decide)
  refine s_cIfq (S := fS [(16, 17), (16, 18), (16, 19), (16, 20)] [(2521, [(62, 999), (63, 999), (64, 999), (65, 999), (13, 1), (13, 2), (13, 3), (13, 7)])]) T2 (fs_sub (pmA_s hA rfl) (fs_c hi_2521 fs_n)) (isPos_w hF fs_a (fs_o (.head _)) wb (th_in _ T2) r0 qt iv qb K2.2.1) (fun o4 T4 i4 f4 P4 => ?_)
  have K4 := kp T2 T4 f4 (fun w i hi => by rcases hi with z | z | z | z | z <;> subst z <;> rfl) (fun k w i hk => by rcases hk with z | z <;> subst z <;> rfl) (fun k i hk => by rcases hk with z | z | z | z <;> subst z <;> exact fs_cf (Or.inr (by decide)) (fs_nf rfl)) K2
  unfold sX15_position_34
  refine s_br (fun _ => ?_) (fun n4 => ?_)
  · refine s_some ⟨ρ, c, ex_0, T4, ?_, K4.1⟩
    exact rg_m (rg_sub (rg_b rfl : Rg (-200) (-200) (-200 : Int32)) (thI T4 r0 (i := 19) rfl : Rg 0 1200 (hI o4.2 x0 19)) (by decide) : Rg (-1400) (-200) ((-200 : Int32) - hI o4.2 x0 19)) (by decide)
  obtain ⟨H, eH, sH4, jO⟩ := P4.resolve_left n4
  have eb4 : hR o4.2 x0 21 = some b := by rw [(fr_RI f4 r0 (by decide) (fun _ => rfl)).2.2]; exact eb
  refine s_ref eb4 ?_
  refine s_cIfq (S := fS [(86, 999), (16, 23), (16, 24)] []) T4 (fs_sub (pmA_s hA rfl) fs_n) (s_weq2 (zX15_wrongOf hF fs_a wb (th_in _ T4) r0 qb)) (fun o5 T5 i5 f5 P5 => ?_)
  have K5 := kp T4 T5 f5 (fun w i hi => by rcases hi with z | z | z | z | z <;> subst z <;> rfl) (fun k w i hk => by rcases hk with z | z <;> subst z <;> rfl) (fun k i hk => by rcases hk with z | z | z | z <;> subst z <;> rfl) K4
  unfold sX15_position_54 sX15_position_73
  refine s_br (fun l5 => ?_) (fun n5 => ?_)
  · have eb5 : hR o5.2 x0 21 = some b := by rw [(fr_RI f5 r0 (by decide) (fun _ => rfl)).2.2]; exact eb4
    refine s_ref eb5 ?_
    obtain ⟨M, eM, rM⟩ := thR T4 qb (i := 0) (k2 := 62) rfl (by decide)
    obtain ⟨P, eP, rP⟩ := thR T4 qb (i := 4) (k2 := 63) rfl (by decide)
    have V := wrong_w T4 r0 qb K4.2.1 eM eP P5.2 l5
    unfold VR at V
    have c13 : (hI o4.2 x0 13).toNatClampNeg ≤ 64 := by
      have i13 := thI T4 r0 (k := 16) (i := 13) (lo := 9) (hi := 64) rfl
      have := nc_i (x := hI o4.2 x0 13) (by have := i13.1; omega)
      have := i13.2
      omega
    rw [← crt_hi 64 c13 jO, ← K4.2.2] at V
    have W4 : WrE zq b o4.2 := ⟨fun M' H' m1 m2 => by
      have y : H' = H := r_eq eH m2
      subst y
      have := mc_le (hI o4.2 M') 64
      unfold tot
      omega, V.1, V.2.1, fun n M' P' m1 m2 => by
      have y1 : M' = M := r_eq eM m1
      have y2 : P' = P := r_eq eP m2
      subst y1; subst y2
      exact V.2.2 n⟩
    have W5 : WrE zq b o5.2 := wr_fr T4 qb f5 (fun _ _ => rfl) (fun _ => rfl) (fun _ => rfl) (fun _ => rfl) W4
    have pe5 : PE b o5.2 := P5.1 (by have := le_i l5; have z0 : (0 : Int32).toInt = 0 := rfl; have := i5.1; omega)
    obtain ⟨o7, e7, ρ7, c7, X7, T7, j7, bd7⟩ := keep_y (F := F) hF (pmA_s hA rfl) hi_3400 wb T5 r0 qb K5.1 ⟨pe5, W5⟩
    exact s_val e7 (s_some ⟨ρ7, c7, X7, T7, rg_m j7 (by decide), bd7⟩)
  · refine s_some ⟨ρ, c, ex_0, T5, ?_, K5.1⟩
    exact rg_m (rg_sub (rg_b rfl : Rg 0 0 (0 : Int32)) i5 (by decide) : Rg (-8) 0 ((0 : Int32) - o5.1)) (by decide)
end
end
section
def FbPY (zq : Nat) (Bq : Nat × Nat) (x0 : Nat) (h : Hp) : Prop := (∀ k b, Fb x0 k b h → PZ zq b h) ∧ Pay 40 3000 5 162 Bq x0 h
theorem th1e {ρ : Nat → Nat} {c : Cm} {h o : Hp} (T : TH ρ c h) (T' : TH ρ c o) : o.1 = h.1 := T'.1.1.trans T.1.1.symm
def FdPY (zq : Nat) (Bq : Nat × Nat) (x0 : Nat) (h : Hp) : Prop := OrP x0 h ∧ FbE x0 (hI h x0 44).toInt h ∧ FbPY zq Bq x0 h ∧ TxA x0 h
def fdBY (S : Nat → Nat → Nat → Bool) : Prop := (∀ w, S 16 w 40 = false) ∧ (∀ w i, S 95 w i = false) ∧ ∀ j, (∀ i, i < 6 → S 13 (11000 + j) i = false) ∧ (∀ i, S 62 (11000 + j) i = false) ∧ (∀ i, S 63 (11000 + j) i = false) ∧ ∀ i, S 64 (11000 + j) i = false
section
variable {zq : Nat} {Bq : Nat × Nat} {ρ : Nat → Nat} {c : Cm} {h o : Hp} {S : Nat → Nat → Nat → Bool} {x0 b i F : Nat} {n : Int}
theorem fbp_frY (T : TH ρ c h) (r0 : ρ x0 = 16) (f : Fr ρ (cat c S h) h o) (s : fdBY S) (P : FbPY zq Bq x0 h) (q1 : o.1 = h.1 := by first | assumption | (apply th1e <;> assumption)) : FbPY zq Bq x0 o := ⟨fun k b B => by
  have B0 := (fbo_fr T r0 f s.1 (fun w => s.2.1 w k)).mpr B
  obtain ⟨k1, k2⟩ := fbo_r T r0 B0
  obtain ⟨a1, a2, a3, a4⟩ := s.2.2 k
  exact pz_fr T k1 f (fun i hi => by rw [k2]; exact a1 i hi) (fun i => by rw [k2]; exact a2 i) (fun i => by rw [k2]; exact a3 i) (fun i => by rw [k2]; exact a4 i) (P.1 k b B0), pay_k0 T r0 (k2 := 95) rfl (by decide) q1 (fr_RI f r0 (by decide) s.1).2.2 (fun r i qr => (fr_RI f qr (by decide) (fun w => s.2.1 w i)).2.2) P.2⟩
theorem fd_frY (T : TH ρ c h) (r0 : ρ x0 = 16) (f : Fr ρ (cat c S h) h o) (s : fdBY S) (s2 : fdO S) (s3 : fdT S) (s4 : ∀ w, S 16 w 44 = false) (P : FdPY zq Bq x0 h) (q1 : o.1 = h.1 := by first | assumption | (apply th1e <;> assumption)) : FdPY zq Bq x0 o :=
  ⟨or_fr T r0 f s2 s4 P.1, by rw [(fr_RI f r0 (by decide) s4).1]; exact fbe_fr T r0 f s.1 s.2.1 P.2.1, fbp_frY T r0 f s P.2.2.1, tx_fr T r0 f s3 P.2.2.2⟩
end
section
variable {zq : Nat} {Bq : Nat × Nat} {ρ : Nat → Nat} {c : Cm} {h o : Hp} {S : Nat → Nat → Nat → Bool} {x0 b g i F : Nat} {n : Int} {x1 x2 x3 x4 x5 x6 : Int32}
theorem fB83Y : fdBY (fS [(83, 999), (16, 3)] []) := ⟨fun _ => rfl, fun _ _ => rfl, fun _ => ⟨fun _ _ => rfl, fun _ => rfl, fun _ => rfl, fun _ => rfl⟩⟩
theorem fB97Y : fdBY (fS [(97, 999)] []) := ⟨fun _ => rfl, fun _ _ => rfl, fun _ => ⟨fun _ _ => rfl, fun _ => rfl, fun _ => rfl, fun _ => rfl⟩⟩
theorem fB96Y : fdBY (fS [(96, 999)] []) := ⟨fun _ => rfl, fun _ _ => rfl, fun _ => ⟨fun _ _ => rfl, fun _ => rfl, fun _ => rfl, fun _ => rfl⟩⟩
theorem fB98Y : fdBY (fS [(98, 999)] []) := ⟨fun _ => rfl, fun _ _ => rfl, fun _ => ⟨fun _ _ => rfl, fun _ => rfl, fun _ => rfl, fun _ => rfl⟩⟩
theorem fB44Y : fdBY (fS [(16, 44)] []) := ⟨fun _ => rfl, fun _ _ => rfl, fun _ => ⟨fun _ _ => rfl, fun _ => rfl, fun _ => rfl, fun _ => rfl⟩⟩
theorem fd_280Y (hA : pmA c fdL) (T : TH ρ c h) (r0 : ρ x0 = 16) (i1 : Rg 0 256 x1) (i5 : Rg 0 1 x5) (P : FdPY zq Bq x0 h) : Sat (sX15_findsRoom_280 F h x0 x1 x5) (fun o => TH ρ c o.2 ∧ Rg 0 1 o.1 ∧ FdPY zq Bq x0 o.2) := by
  unfold sX15_findsRoom_280 sX15_findsRoom_294
  obtain ⟨r1, e1, q1⟩ := thR T r0 (i := 43) (k2 := 98) rfl (by decide)
  refine s_ref e1 ?_
  obtain ⟨r2, e2, q2⟩ := thR T r0 (i := 2) (k2 := 83) rfl (by decide)
  refine s_ref e2 ?_
  refine s_gd (by decide) (s_gd (by decide) (s_gd (rg_nneg i1 (by decide)) ?_))
  refine s_gd (g_len (rg_b rfl : Rg (0) (0) ((0 : Int32))) i1 (thN T q1 (k := 98) (n := 256) rfl (by decide)) (by decide)) ?_
  refine s_gd (g_len (rg_b rfl : Rg (0) (0) ((0 : Int32))) i1 (thN T q2 (k := 83) (n := 256) rfl (by decide)) (by decide)) ?_
  refine s_gd (fun i _ => fits_b (rg_m (thI T q1 (k := 98) (lo := (-128)) (hi := (127)) rfl) (by decide))) ?_
  refine s_hq (th_cpI T q1 q2 (k0 := 98) (k := 83) (lo0 := (-128)) (hi0 := (127)) (lo := (-128)) (hi := (127)) (fun _ => rfl) (fun _ => rfl) (by decide) (by decide) (by decide) (fun _ => (pm_a hA rfl))) (fun h9 T9 e9 => ?_)
  have P9 := fd_frY T r0 (fr1C (A := [(83, 999)]) q2 rfl e9) ⟨fun _ => rfl, fun _ _ => rfl, fun _ => ⟨fun _ _ => rfl, fun _ => rfl, fun _ => rfl, fun _ => rfl⟩⟩ ⟨fun _ => rfl, fun _ _ => rfl⟩ ⟨fun _ => rfl, fun _ _ => rfl⟩ (fun _ => rfl) P
  refine s_hq (th_wI T9 r0 (k := 16) (lo := (0)) (hi := (256)) rfl i1 (by decide) (by decide) (pm_a hA rfl)) (fun h10 T10 e10 => ?_)
  have P10 := fd_frY T9 r0 (fr1I (A := [(16, 3)]) r0 rfl e10) ⟨fun _ => rfl, fun _ _ => rfl, fun _ => ⟨fun _ _ => rfl, fun _ => rfl, fun _ => rfl, fun _ => rfl⟩⟩ ⟨fun _ => rfl, fun _ _ => rfl⟩ ⟨fun _ => rfl, fun _ _ => rfl⟩ (fun _ => rfl) P9
  exact s_gd (rg_bool i5) (s_some ⟨T10, i5, P10⟩)
theorem fd_228Y (hA : pmA c fdL) (T : TH ρ c h) (r0 : ρ x0 = 16) (i1 : Rg 0 256 x1) (i5 : Rg 0 1 x5) (en : (hI h x0 44).toInt = n) (l0 : 0 ≤ n) (ln : n < 3000) (ou : (hI h x0 3).toInt ≤ 87) (O : ∀ r, hR h x0 42 = some r → ∀ i : Nat, (i : Int) ≤ n → (hI h r i).toInt ≤ n) (E : FbE x0 (n + 1) h) (FP : FbPY zq Bq x0 h) (TX : TxA x0 h) : Sat (sX15_findsRoom_228 F h x0 x1 x5) (fun o => TH ρ c o.2 ∧ Rg 0 1 o.1 ∧ FdPY zq Bq x0 o.2) := by
  unfold sX15_findsRoom_228 sX15_findsRoom_270
  have in4 : Rg 0 2999 (hI h x0 44) := ⟨by omega, by omega⟩
  have e96 : (96 : Int32).toInt = 96 := rfl
  have em : ((96 : Int32) * (hI h x0 44)).toInt = 96 * n := by rw [tm (by rw [e96]; omega), e96, en]
  have im : Rg 0 287904 ((96 : Int32) * (hI h x0 44)) := ⟨by omega, by omega⟩
  have cm := clamp_i im.1
  obtain ⟨r1, e1, q1⟩ := thR T r0 (i := 41) (k2 := 96) rfl (by decide)
  refine s_ref e1 ?_
  refine s_gd (by rw [thN T q1 (k := 96) (n := 288000) rfl (by decide)]; exact rg_inB im (by decide)) ?_
  have io := thI T r0 (k := 16) (i := 3) (lo := 0) (hi := 256) rfl
  refine s_hq (th_wI T q1 (k := 96) (lo := -128) (hi := 127) rfl (rg_narb (rg_y _) (by decide)) (by decide) (by decide) (pm_a hA rfl)) (fun h3 T3 w3 => ?_)
  have f3 := fr1I (c := c) (A := [(96, 999)]) q1 rfl w3
  have e44 : hI h3 x0 44 = hI h x0 44 := (fr_RI f3 r0 (by decide) (fun _ => rfl)).1
  have e3 : hI h3 x0 3 = hI h x0 3 := (fr_RI f3 r0 (by decide) (fun _ => rfl)).1
  have E3 := fbe_fr T r0 f3 fB96Y.1 fB96Y.2.1 E
  have FP3 := fbp_frY T r0 f3 fB96Y FP
  have O3 : ∀ r, hR h3 x0 42 = some r → ∀ i : Nat, (i : Int) ≤ n → (hI h3 r i).toInt ≤ n := fun r er i hi => by
    rw [(fr_RI f3 r0 (by decide) (fun _ => rfl)).2.2] at er
    have rr' : ρ r = 97 := rr T (thR T r0 (i := 42) (k2 := 97) rfl (by decide)) er
    rw [(fr_RI f3 rr' (by decide) (fun _ => rfl)).1]
    exact O r er i hi
  have TX3 : TxA x0 h3 := fun r er k hk => by
    rw [w3] at er
    have hz := r_eq e1 (show hR h x0 41 = some r from er)
    subst hz
    rw [w3, r_I]
    by_cases z : 96 * k = ((96 : Int32) * (hI h x0 44)).toNatClampNeg
    · rw [if_pos ⟨rfl, z⟩]
      exact nar95 ⟨io.1, ou⟩
    · rw [if_neg (fun y => z y.2)]
      exact TX r er k hk
  obtain ⟨r4, e4, q4⟩ := thR T3 r0 (i := 2) (k2 := 83) rfl (by decide)
  refine s_ref e4 ?_
  obtain ⟨r5, e5, q5⟩ := thR T3 r0 (i := 41) (k2 := 96) rfl (by decide)
  refine s_ref e5 ?_
  rw [e44, e3]
  have e1' : (1 : Int32).toInt = 1 := rfl
  have ea : (((96 : Int32) * (hI h x0 44)) + (1 : Int32)).toInt = 96 * n + 1 := by rw [ta (by rw [em, e1']; omega), em, e1']
  have ia : Rg 0 287905 (((96 : Int32) * (hI h x0 44)) + (1 : Int32)) := ⟨by omega, by omega⟩
  have ca := clamp_i ia.1
  have io2 : Rg 0 87 (hI h x0 3) := ⟨io.1, ou⟩
  have co := clamp_i io2.1
  refine s_gd (by decide) (s_gd (rg_nneg ia (by decide)) (s_gd (rg_nneg io2 (by decide)) ?_))
  refine s_gd (g_len (rg_b rfl : Rg (0) (0) ((0 : Int32))) io2 (thN T3 q4 (k := 83) (n := 256) rfl (by decide)) (by decide)) ?_
  refine s_gd (g_len ia io2 (thN T3 q5 (k := 96) (n := 288000) rfl (by decide)) (by decide)) ?_
  refine s_gd (fun i _ => fits_b (rg_m (thI T3 q4 (k := 83) (lo := (-128)) (hi := (127)) rfl) (by decide))) ?_
  refine s_hq (th_cpI T3 q4 q5 (k0 := 83) (k := 96) (lo0 := (-128)) (hi0 := (127)) (lo := (-128)) (hi := (127)) (fun _ => rfl) (fun _ => rfl) (by decide) (by decide) (by decide) (fun _ => (pm_a hA rfl))) (fun h12 T12 w12 => ?_)
  have f12 := fr1C (c := c) (A := [(96, 999)]) q5 rfl w12
  have E12 := fbe_fr T3 r0 f12 fB96Y.1 fB96Y.2.1 E3
  have FP12 := fbp_frY T3 r0 f12 fB96Y FP3
  have O12 : ∀ r, hR h12 x0 42 = some r → ∀ i : Nat, (i : Int) ≤ n → (hI h12 r i).toInt ≤ n := fun r er i hi => by
    rw [(fr_RI f12 r0 (by decide) (fun _ => rfl)).2.2] at er
    have rr' : ρ r = 97 := rr T3 (thR T3 r0 (i := 42) (k2 := 97) rfl (by decide)) er
    rw [(fr_RI f12 rr' (by decide) (fun _ => rfl)).1]
    exact O3 r er i hi
  have TX12 : TxA x0 h12 := fun r er k hk => by
    rw [w12] at er
    have er' : hR h3 x0 41 = some r := er
    have hz := r_eq e5 er'
    subst hz
    rw [w12, cp_at, if_neg (fun y => by have := y.2.1; have := y.2.2; omega)]
    exact TX3 r er' k hk
  have e44' : hI h12 x0 44 = hI h x0 44 := by rw [(fr_RI f12 r0 (by decide) (fun _ => rfl)).1]; exact e44
  rw [e44']
  have es : ((hI h x0 44) + (1 : Int32)).toInt = n + 1 := by rw [ta (by rw [en, e1']; omega), en, e1']
  refine s_hq (th_wI T12 r0 (k := 16) (lo := 0) (hi := 3000) rfl ⟨by omega, by omega⟩ (by decide) (by decide) (pm_a hA rfl)) (fun h13 T13 w13 => ?_)
  have f13 := fr1I (c := c) (A := [(16, 44)]) r0 rfl w13
  have n13 : (hI h13 x0 44).toInt = n + 1 := by rw [he_s w13]; exact es
  refine fd_280Y hA T13 r0 i1 i5 ⟨fun r er i hi => ?_, ?_, fbp_frY T12 r0 f13 fB44Y FP12, tx_fr T12 r0 f13 ⟨fun _ => rfl, fun _ _ => rfl⟩ TX12⟩
  · rw [n13] at hi ⊢
    rw [(fr_RI f13 r0 (by decide) (fun _ => rfl)).2.2] at er
    have rr' : ρ r = 97 := rr T12 (thR T12 r0 (i := 42) (k2 := 97) rfl (by decide)) er
    rw [(fr_RI f13 rr' (by decide) (fun _ => rfl)).1]
    have := O12 r er i (by omega)
    omega
  · rw [n13]
    exact fbe_fr T12 r0 f13 fB44Y.1 fB44Y.2.1 E12
end
end
section
section
variable {zq : Nat} {Bq : Nat × Nat} {ρ : Nat → Nat} {c : Cm} {h o : Hp} {x0 b g i F : Nat} {n : Int} {x1 x2 x3 x4 x5 x6 : Int32}
theorem s_foundY {Q : Int32 × Hp → Prop} {k : Nat} {t : Int32} (hA : pmA c [(95, 999)]) (T : TH ρ c h) (r0 : ρ x0 = 16) (i4 : Rg 0 2999 (hI h x0 44)) (ek : (hI h x0 44).toNatClampNeg = k) (FP : FbPY zq Bq x0 h) (H : ∀ g ρ1 c1 b, Ext ρ c ρ1 c1 → TH ρ1 c1 g → Fr ρ (cat c (fS [(95, 999)] []) h) h g → FbPY zq Bq x0 g → Fb x0 k b g → (∀ j b, Fb x0 j b h → Fb x0 j b g) → Sat (sX15_findsRoom_168 F g x0 x1 x2 t) Q) : Sat (cl (hR h x0 40) fun r_3 => gd (inB (hI h x0 44) (hN h r_3)) <| onr (hR h r_3 (hI h x0 44).toNatClampNeg) (cl (hR h x0 40) fun r_7 => nm (hS h) fun a_8 => nm (nC h 12 0 8) fun h_9 => sX15_findsRoom_163 F h_9 x0 x1 x2 t a_8 (hI h x0 44) r_7) (fun r_5 => sX15_findsRoom_168 F h x0 x1 x2 t)) Q := by
  subst ek
  have iv : Rg 0 2999 (hI h x0 44) := i4
  obtain ⟨r, er, qr⟩ := thR T r0 (i := 40) (k2 := 95) rfl (by decide)
  refine s_ref er ?_
  refine s_gd (by rw [thN T qr (k := 95) (n := 3000) rfl (by decide)]; exact rg_inB iv (by decide)) ?_
  refine s_onr (fun q => ?_) (fun r5 q => H h ρ c r5 ex_0 T ⟨fun _ _ _ _ => ⟨rfl, rfl, rfl⟩, fun _ _ => rfl⟩ FP ⟨r, er, q⟩ (fun _ _ B => B))
  refine s_ref er ?_
  refine s_q (fun a ea => ?_)
  refine s_q (fun h8 e8 => ?_)
  subst ea
  subst e8
  unfold sX15_findsRoom_163 sX15_findsRoom_167
  have T' : TH ρ (cat c (fS [(95, 999)] []) h) h := th_in _ T
  have t1 : h.1 = (cat c (fS [(95, 999)] []) h).1 := T'.1.1
  obtain ⟨o1, eo1, ρ1, c1, X1, T1, a1, w1, O1⟩ := newBoard T' (11000 + (hI h x0 44).toNatClampNeg)
  refine s_val eo1 ?_
  have ob : o1 = boH h := by rw [boH_v] at eo1; exact (Option.some.inj eo1).symm
  have z3 : hI o1 (hS h) 3 = 0 := by rw [ob]; exact boH_I h 0 3 (by decide)
  have r01 := ex_r X1 r0 (by decide)
  have qr1 := ex_r X1 qr (by decide)
  have lt : ∀ a, ρ a ≠ 0 → a < h.1.1 := fun a ha => by rw [t1]; exact T'.2.1.2.2.1 a ha
  have lt0 : x0 < h.1.1 := lt x0 (by rw [r0]; decide)
  have ltr : r < h.1.1 := lt r (by rw [qr]; decide)
  have er1 : hR o1 x0 40 = some r := by rw [(O1 x0 lt0).2.2.1]; exact er
  refine s_gd (by rw [thN T1 qr1 (k := 95) (n := 3000) rfl (by decide)]; exact rg_inB iv (by decide)) ?_
  refine s_q (fun h2 e2 => ?_)
  have T2 : TH ρ1 c1 h2 := by
    rw [e2]
    exact th_wRe T1 qr1 (k2 := 13) rfl (by decide) a1 (by decide) (by decide) rfl rfl rfl w1 (ex_p X1 (fs_a _ _ _ rfl))
  have er2 : hR h2 x0 40 = some r := by rw [e2, r_R, if_neg (ne_r r01 qr1 (by decide))]; exact er1
  have ee : hR h2 r (hI h x0 44).toNatClampNeg = some (hS h) := by rw [e2, r_R, if_pos ⟨rfl, rfl⟩]
  have kp : ∀ j b, Fb x0 j b h → Fb x0 j b h2 := fun j b ⟨r', g1, g2⟩ => by
    have : r' = r := r_eq er g1
    subst this
    have z : j ≠ (hI h x0 44).toNatClampNeg := fun z => by rw [z, q] at g2; exact absurd g2 (by simp)
    exact ⟨r', er2, by rw [e2, r_R, if_neg (fun y => z y.2), (O1 r' ltr).2.2.1]; exact g2⟩
  have FP2 : FbPY zq Bq x0 h2 := ⟨fun j b B => by
    obtain ⟨r', g1, g2⟩ := B
    have : r' = r := r_eq er2 g1
    subst this
    by_cases z : j = (hI h x0 44).toNatClampNeg
    · rw [z, ee] at g2
      rw [← Option.some.inj g2]
      have hS0 : hS h = h.1.1 := rfl
      have a1' : ¬ hS h = r' := fun w => by rw [w] at a1; rw [a1] at qr1; exact absurd qr1 (by decide)
      have nn : ∀ k i, k < 5 → hI h2 (h.1.1 + k) i = 0 := fun k i hk => by rw [e2]; show hI o1 (h.1.1 + k) i = 0; rw [ob]; exact boH_I h k i hk
      have nRR : ∀ i, hR h2 (hS h) i = hR (boH h) h.1.1 i := fun i => by rw [e2, r_R, if_neg (fun w => a1' w.1), ob, hS0]
      have n3 : hI h2 (hS h) 3 = 0 := by rw [e2]; exact z3
      refine ⟨pe_0 (by rw [n3]; rfl), fun M H m1 m2 => ?_, ?_, by rw [n3]; decide, fun n => by rw [n3] at n; exact absurd n (by decide)⟩
      · rw [nRR, boH_R] at m1 m2
        have y1 : h.1.1 + 1 = M := Option.some.inj m1
        have y2 : h.1.1 + 3 = H := Option.some.inj m2
        subst y1; subst y2
        exact tot_0 (fun i => nn 1 i (by decide)) (fun i => nn 3 i (by decide))
      · have : hJ h2 (hS h) 2 = 0 := by rw [e2]; show hJ o1 (hS h) 2 = 0; rw [ob]; exact boH_J h 0 2 (by decide)
        rw [this, crt_0]
        decide
    · rw [e2, r_R, if_neg (fun y => z y.2), (O1 r' ltr).2.2.1] at g2
      have P := FP.1 j b ⟨r', er, g2⟩
      have rb := thRn T qr (k2 := 13) rfl (by decide) g2
      have kI : ∀ {x k : Nat}, ρ x = k → k ≠ 0 → ∀ i, hI h2 x i = hI h x i := fun {x k} hx h0 i => by
        rw [e2]
        show hI o1 x i = _
        exact (O1 x (lt x (by rw [hx]; exact h0))).1 i
      have ltb := lt b (by rw [rb]; decide)
      refine pz_eq (fun i => ?_) ?_ (kI rb (by decide) 1) (kI rb (by decide) 3) (fun M m => kI (rr T (thR T rb (i := 0) (k2 := 62) rfl (by decide)) m) (by decide)) (fun M m => kI (rr T (thR T rb (i := 4) (k2 := 63) rfl (by decide)) m) (by decide)) (fun M m => kI (rr T (thR T rb (i := 5) (k2 := 64) rfl (by decide)) m) (by decide)) P
      · rw [e2, r_R, if_neg (ne_r (ex_r X1 rb (by decide)) qr1 (by decide)), (O1 b ltb).2.2.1]
      · rw [e2]
        show hJ o1 b 2 = _
        exact (O1 b ltb).2.1 2, fun r' p1 => by
    have y1 : r' = r := r_eq er2 p1
    subst y1
    have l60 := clamp_i iv.1
    have i59 := iv.2
    have cc := nuC_set q ee (fun i hi => by rw [e2, r_R, if_neg (fun y => hi y.2), (O1 r' ltr).2.2.1]) 3000 (by omega)
    have pb := FP.2 r' er
    have h21 : h2.1 = (h.1.1 + 5, h.1.2 + 162) := by rw [e2]; show o1.1 = _; rw [ob]; exact boH_1 h
    rw [h21]
    show h.1.1 + 5 + 5 * nuC h2 r' 3000 ≤ Bq.1 ∧ h.1.2 + 162 + 162 * nuC h2 r' 3000 ≤ Bq.2
    omega⟩
  exact s_mk1 (k := fun g => sX15_findsRoom_168 F g x0 x1 x2 t) (P := fun o => FbPY zq Bq x0 o ∧ Fb x0 (hI h x0 44).toNatClampNeg (hS h) o ∧ ∀ j b, Fb x0 j b h → Fb x0 j b o) T (fs_sub hA fs_n) X1 T2 ⟨FP2, ⟨r, er2, ee⟩, kp⟩ (fun ρ1 c1 X T1 f p => H h2 ρ1 c1 (hS h) X T1 f p.1 p.2.1 p.2.2)
end
end
section
section
variable {zq : Nat} {Bq : Nat × Nat} {ρ : Nat → Nat} {c : Cm} {h o : Hp} {x0 b g i F : Nat} {n : Int} {x1 x2 x3 x4 x5 x6 : Int32}
def FSY (zq : Nat) (Bq : Nat × Nat) (x0 g : Nat) (n : Int) (h : Hp) : Prop := (hI h x0 44).toInt = n ∧ FbE x0 (n + 1) h ∧ FbPY zq Bq x0 h ∧ TxA x0 h ∧ hR h x0 45 = some g ∧ PZ zq g h ∧ (hI h x0 3).toInt ≤ 87
theorem fs_97Y (T : TH ρ c h) (r0 : ρ x0 = 16) (f : Fr ρ (cat c (fS [(97, 999)] []) h) h o) (P : FSY zq Bq x0 g n h) (q1 : o.1 = h.1 := by first | assumption | (apply th1e <;> assumption)) : FSY zq Bq x0 g n o := by
  obtain ⟨p1, p2, p3, p4, p5, p6, p7⟩ := P
  have rg : ρ g = 13 := rr T (thR T r0 (i := 45) (k2 := 13) rfl (by decide)) p5
  refine ⟨?_, fbe_fr T r0 f fB97Y.1 fB97Y.2.1 p2, fbp_frY T r0 f fB97Y p3, tx_fr T r0 f ⟨fun _ => rfl, fun _ _ => rfl⟩ p4, ?_, pz_fr T rg f (fun _ _ => rfl) (fun _ => rfl) (fun _ => rfl) (fun _ => rfl) p6, ?_⟩
  · rw [(fr_RI f r0 (by decide) (fun _ => rfl)).1]; exact p1
  · rw [(fr_RI f r0 (by decide) (fun _ => rfl)).2.2]; exact p5
  · rw [(fr_RI f r0 (by decide) (fun _ => rfl)).1]; exact p7
theorem fd_174Y (hF : 700000 ≤ F) (hA : pmA c fdL) (hW : ∀ j, j ≤ 2999 → pmO c (11000 + j) bpL) (r0 : ρ x0 = 16) (i1 : Rg 0 256 x1) (i5 : Rg 0 1 x5) (l0 : 0 ≤ n) (ln : n < 3000) (a2 : 0 ≤ x2.toInt) : ∀ (f : Nat) {h : Hp} {x6 : Int32}, TH ρ c h → FSY zq Bq x0 g n h → x2.toInt ≤ x6.toInt → x6.toInt ≤ n → (∀ r, hR h x0 42 = some r → ∀ i : Nat, (i : Int) ≤ n → (i : Int) ≠ x6.toInt → (hI h r i).toInt < n) → x6.toInt.toNat < f → Sat (sX15_findsRoom_174 F f h x0 x1 x2 x5 x6) (fun o => TH ρ c o.2 ∧ Rg 0 1 o.1 ∧ FdPY zq Bq x0 o.2) := by
  intro f
  induction f with
  | zero => intros; omega
  | succ f ih =>
    intro h x6 T P a6 b6 O hf
    rw [sX15_findsRoom_174]
    obtain ⟨p1, p2, p3, p4, p5, p6, p7⟩ := P
    have i6 : Rg 0 2999 x6 := ⟨by omega, by omega⟩
    have i2 : Rg 0 2999 x2 := ⟨by omega, by omega⟩
    have in4 : Rg 0 2999 (hI h x0 44) := ⟨by omega, by omega⟩
    have c6 := clamp_i i6.1
    have c2 := clamp_i i2.1
    have c4 := clamp_i in4.1
    obtain ⟨r, er, qr⟩ := thR T r0 (i := 42) (k2 := 97) rfl (by decide)
    refine s_br (fun l1 => ?_) (fun n1 => ?_)
    · have l6 := le_i l1
      refine s_ref er ?_
      refine s_gd (by rw [thN T qr (k := 97) (n := 3000) rfl (by decide)]; exact rg_inB i2 (by decide)) ?_
      refine s_hq (th_wI T qr (k := 97) (lo := 0) (hi := 2999) rfl in4 (by decide) (by decide) (pm_a hA rfl)) (fun h4 T4 w4 => ?_)
      have f4 := fr1I (c := c) (A := [(97, 999)]) qr rfl w4
      obtain ⟨p1', p2', p3', p4', p5', p6', p7'⟩ := fs_97Y T r0 f4 ⟨p1, p2, p3, p4, p5, p6, p7⟩
      have O4 : ∀ r, hR h4 x0 42 = some r → ∀ i : Nat, (i : Int) ≤ n → (hI h4 r i).toInt ≤ n := fun r' er' i hi => by
        rw [w4] at er'
        have hz := r_eq er (show hR h x0 42 = some r' from er')
        subst hz
        rw [w4, r_I]
        by_cases z : i = x2.toNatClampNeg
        · rw [if_pos ⟨rfl, z⟩]; omega
        · rw [if_neg (fun y => z y.2)]
          have := O r' er i hi (by omega)
          omega
      have in4' : Rg 0 2999 (hI h4 x0 44) := ⟨by omega, by omega⟩
      have c4' := clamp_i in4'.1
      have le29 : (hI h4 x0 44).toNatClampNeg ≤ 2999 := by omega
      have lt1 : ((hI h4 x0 44).toNatClampNeg : Int) < n + 1 := by omega
      obtain ⟨r5, e5, q5⟩ := thR T4 r0 (i := 40) (k2 := 95) rfl (by decide)
      refine s_ref e5 ?_
      refine s_gd (by rw [thN T4 q5 (k := 95) (n := 3000) rfl (by decide)]; exact rg_inB in4' (by decide)) ?_
      obtain ⟨b, B⟩ := p2' (hI h4 x0 44).toNatClampNeg lt1
      obtain ⟨rb, wb⟩ := fbo_r T4 r0 B
      have B' := B
      obtain ⟨r', s1, s2⟩ := B
      have hz := r_eq e5 s1
      subst hz
      refine s_ref s2 ?_
      refine s_ref p5' ?_
      have rg : ρ g = 13 := rr T4 (thR T4 r0 (i := 45) (k2 := 13) rfl (by decide)) p5'
      have wg : cw c g = 2545 := kid_w T4 r0 (i := 45) rfl (by decide) p5'
      refine s_cVfq (S := fS [] [(11000 + (hI h4 x0 44).toNatClampNeg, bpL)]) T4 (fs_sub pmA_n (fs_c (hW _ le29) fs_n)) (s_weq (zX12_copy hF (pmO_s (fs_o (.head _)) rfl) wb wg (th_in _ T4) rb rg)) (fun o9 T9 f9 e9 => ?_)
      have z9 : ∀ k i w, mS bpL k i = false → fS [] [(11000 + (hI h4 x0 44).toNatClampNeg, bpL)] k w i = false := fun k i w m => fs_cf (Or.inl m) (by unfold fS; rfl)
      have P9 : PZ zq b o9 := ⟨pe_copy T4 rb rg p6'.1 e9, wr_copy T4 rb rg p6'.2 e9⟩
      refine fd_228Y (n := n) hA T9 r0 i1 i5 ?_ l0 ln ?_ ?_ ?_ ?_ ?_
      · rw [(fr_RI f9 r0 (by decide) (fun w => z9 _ _ w rfl)).1]; exact p1'
      · rw [(fr_RI f9 r0 (by decide) (fun w => z9 _ _ w rfl)).1]; exact p7'
      · intro r'' er'' i hi
        rw [(fr_RI f9 r0 (by decide) (fun w => z9 _ _ w rfl)).2.2] at er''
        have rr' : ρ r'' = 97 := rr T4 (thR T4 r0 (i := 42) (k2 := 97) rfl (by decide)) er''
        rw [(fr_RI f9 rr' (by decide) (fun w => z9 _ _ w rfl)).1]
        exact O4 r'' er'' i hi
      · exact fbe_fr T4 r0 f9 (fun w => z9 _ _ w rfl) (fun w i => z9 _ _ w rfl) p2'
      · refine ⟨?_, pay_k0 T4 r0 (k2 := 95) rfl (by decide) (th1e T4 T9) (fr_RI f9 r0 (by decide) (fun w => z9 _ _ w rfl)).2.2 (fun r i qr => (fr_RI f9 qr (by decide) (fun w => z9 _ _ w rfl)).2.2) p3'.2⟩
        intro k b2 B2
        have B0 := (fbo_fr T4 r0 f9 (fun w => z9 _ _ w rfl) (fun w => z9 _ _ w rfl)).mpr B2
        by_cases z : k = (hI h4 x0 44).toNatClampNeg
        · subst z
          obtain ⟨ra, t1, t2⟩ := B0
          obtain ⟨rc, t3, t4⟩ := B'
          rw [r_eq t3 t1] at t2
          rw [r_eq t4 t2]; exact P9
        · obtain ⟨k1, k2⟩ := fbo_r T4 r0 B0
          have y : ∀ kk ii, fS [] [(11000 + (hI h4 x0 44).toNatClampNeg, bpL)] kk (cw c b2) ii = false := fun kk ii => fs_cf (Or.inr (by rw [k2]; exact fun q => z (Nat.add_left_cancel q))) (by unfold fS; rfl)
          exact pz_fr T4 k1 f9 (fun _ _ => y _ _) (fun _ => y _ _) (fun _ => y _ _) (fun _ => y _ _) (p3'.1 k b2 B0)
      · exact tx_fr T4 r0 f9 ⟨fun w => z9 _ _ w rfl, fun w i => z9 _ _ w rfl⟩ p4'
    · have l6 := nle_i n1
      refine s_ref er ?_
      refine s_ref er ?_
      have ed := rg_decs i6 (by decide)
      have id : Rg 0 2999 (x6 - (1 : Int32)) := ⟨by omega, by omega⟩
      have cd := clamp_i id.1
      refine s_gd (by rw [thN T qr (k := 97) (n := 3000) rfl (by decide)]; exact rg_inB id (by decide)) ?_
      refine s_gd (by rw [thN T qr (k := 97) (n := 3000) rfl (by decide)]; exact rg_inB i6 (by decide)) ?_
      refine s_hq (th_wI T qr (k := 97) (lo := 0) (hi := 2999) rfl (thI T qr (k := 97) (lo := 0) (hi := 2999) rfl) (by decide) (by decide) (pm_a hA rfl)) (fun h4 T4 w4 => ?_)
      have f4 := fr1I (c := c) (A := [(97, 999)]) qr rfl w4
      refine s_q (fun v ev => ?_)
      have ev2 : v.toInt = x6.toInt - 1 := by rw [ev]; exact rg_dec i6 (by decide)
      clear ev
      refine ih T4 (fs_97Y T r0 f4 ⟨p1, p2, p3, p4, p5, p6, p7⟩) (by omega) (by omega) (fun r' er' i hi ni => ?_) (by omega)
      rw [w4] at er'
      have hz := r_eq er (show hR h x0 42 = some r' from er')
      subst hz
      rw [w4, r_I]
      by_cases z : i = x6.toNatClampNeg
      · rw [if_pos ⟨rfl, z⟩]
        exact O r' er _ (by omega) (by omega)
      · rw [if_neg (fun y => z y.2)]
        exact O r' er i hi (by omega)
end
end
section
section
variable {zq : Nat} {Bq : Nat × Nat} {ρ : Nat → Nat} {c : Cm} {h o : Hp} {x0 b g i F s : Nat} {n : Int} {x1 x2 x3 x4 x5 x6 : Int32}
def FRY (zq : Nat) (Bq : Nat × Nat) (x0 g : Nat) (n : Int) (h : Hp) : Prop := (hI h x0 44).toInt = n ∧ FdPY zq Bq x0 h ∧ hR h x0 45 = some g ∧ PZ zq g h ∧ (hI h x0 3).toInt ≤ 87
theorem fd_128Y {t0 : Int32} (hF : 700000 ≤ F) (hA : pmA c fdL) (hW : ∀ j, j ≤ 2999 → pmO c (11000 + j) bpL) (T : TH ρ c h) (r0 : ρ x0 = 16) (i1 : Rg 0 256 x1) (i0 : Rg 0 1 t0) (P : FRY zq Bq x0 g n h) (a2 : 0 ≤ x2.toInt) (b2 : x2.toInt ≤ n) (hn : x4 = 0 → ¬ t0 = 0 → n < 3000) : Sat (sX15_findsRoom_128 F h x0 x1 x2 x4 t0) (MkI ρ c 0 1 (FdPY zq Bq x0)) := by
  unfold sX15_findsRoom_128
  obtain ⟨p1, p2, p3, p4, p5⟩ := P
  have ex : Sat (sX15_findsRoom_280 F h x0 x1 t0) (MkI ρ c 0 1 (FdPY zq Bq x0)) := s_imp (fd_280Y hA T r0 i1 i0 p2) (fun o ⟨a, b, d⟩ => ⟨ρ, c, ex_0, a, b, d⟩)
  refine s_br (fun z4 => s_br (fun _ => ex) (fun nz => ?_)) (fun _ => ex)
  have ln := hn z4 nz
  have i4 : Rg 0 2999 (hI h x0 44) := ⟨by omega, by omega⟩
  have c4 := clamp_i i4.1
  refine s_foundY (pmA_s hA rfl) T r0 i4 rfl p2.2.2.1 (fun o ρ1 c1 b X T1 f FP B kp => ?_)
  unfold sX15_findsRoom_168
  have r1 := ex_r X r0 (by decide)
  have rg : ρ g = 13 := rr T (thR T r0 (i := 45) (k2 := 13) rfl (by decide)) p3
  have e44 : hI o x0 44 = hI h x0 44 := (fr_RI f r0 (by decide) (fun _ => rfl)).1
  have E1 : FbE x0 (n + 1) o := fun k hk => by
    by_cases z : k = (hI h x0 44).toNatClampNeg
    · exact ⟨b, by rw [z]; exact B⟩
    · obtain ⟨b', B'⟩ := p2.2.1 k (by omega)
      exact ⟨b', kp k b' B'⟩
  have S1 : FSY zq Bq x0 g n o := ⟨by rw [e44]; exact p1, E1, FP, tx_fr T r0 f ⟨fun _ => rfl, fun _ _ => rfl⟩ p2.2.2.2, by rw [(fr_RI f r0 (by decide) (fun _ => rfl)).2.2]; exact p3, pz_fr T rg f (fun _ _ => rfl) (fun _ => rfl) (fun _ => rfl) (fun _ => rfl) p4, by rw [(fr_RI f r0 (by decide) (fun _ => rfl)).1]; exact p5⟩
  refine s_q (fun v ev => ?_)
  have ev2 : v.toInt = n := by rw [ev, e44]; exact p1
  clear ev
  have O1 := or_fr T r0 f ⟨fun _ => rfl, fun _ _ => rfl⟩ (fun _ => rfl) p2.1
  have n1 : (hI o x0 44).toInt = n := S1.1
  refine s_imp (fd_174Y hF (fun w k i m => ex_p X (hA w k i m)) (fun j hj k i m => ex_p X (hW j hj k i m)) r1 i1 i0 (by omega) ln a2 F T1 S1 (by omega) (by omega) (fun r er i hi ni => ?_) (by omega)) (fun q ⟨a, b, d⟩ => ⟨ρ1, c1, X, a, b, d⟩)
  have := O1 r er i (by omega)
  omega
theorem fd_108Y (hF : 700000 ≤ F) (hA : pmA c fdL) (hW : ∀ j, j ≤ 2999 → pmO c (11000 + j) bpL) (T : TH ρ c h) (r0 : ρ x0 = 16) (i1 : Rg 0 256 x1) (P : FRY zq Bq x0 g n h) (a2 : 0 ≤ x2.toInt) (b2 : x2.toInt ≤ n) : Sat (sX15_findsRoom_108 F h x0 x1 x2 x4) (MkI ρ c 0 1 (FdPY zq Bq x0)) := by
  unfold sX15_findsRoom_108 sX15_findsRoom_123
  have p1 := P.1
  refine s_br (fun _ => s_br (fun _ => ?_) (fun n1 => ?_)) (fun n4 => ?_)
  · exact fd_128Y hF hA hW T r0 i1 (rg_b rfl) P a2 b2 (fun _ z => absurd rfl z)
  · have l3 : (hI h x0 44).toInt < 3000 := nle_i n1
    exact fd_128Y hF hA hW T r0 i1 (rg_b rfl) P a2 b2 (fun _ _ => by omega)
  · exact fd_128Y hF hA hW T r0 i1 (rg_b rfl) P a2 b2 (fun z _ => absurd z n4)
theorem fd_42Y (hF : 700000 ≤ F) (hA : pmA c fdL) (hW : ∀ j, j ≤ 2999 → pmO c (11000 + j) bpL) (T : TH ρ c h) (r0 : ρ x0 = 16) (i1 : Rg 0 256 x1) (P : FRY zq Bq x0 g n h) : ∀ (f : Nat) {x2 x3 x4 : Int32}, 0 ≤ x2.toInt → x2.toInt ≤ x3.toInt → x3.toInt ≤ n → 0 < f → (x4 = 0 → (x3.toInt - x2.toInt).toNat + 1 < f) → Sat (sX15_findsRoom_42 F f h x0 x1 x2 x3 x4) (MkI ρ c 0 1 (FdPY zq Bq x0)) := by
  intro f
  induction f with
  | zero => intros; omega
  | succ f ih =>
    intro x2 x3 x4 a2 b2 b3 _ hf
    rw [sX15_findsRoom_42]
    unfold sX15_findsRoom_70 sX15_findsRoom_82 sX15_findsRoom_105
    have ex : Sat (sX15_findsRoom_108 F h x0 x1 x2 x4) (MkI ρ c 0 1 (FdPY zq Bq x0)) := fd_108Y hF hA hW T r0 i1 P a2 (by omega)
    have in4 := thI T r0 (k := 16) (i := 44) (lo := 0) (hi := 3000) rfl
    have p1 := P.1
    have n3 : n ≤ 3000 := by have := in4.2; omega
    refine s_br (fun _ => ex) (fun n1 => ?_)
    have l3 := nle_i n1
    refine s_br (fun z4 => ?_) (fun _ => ex)
    have hf' := hf z4
    refine s_q (fun v ev => ?_)
    have i23 : Rg 0 6000 (x2 + x3) := ⟨by rw [ta ⟨by omega, by omega⟩]; omega, by rw [ta ⟨by omega, by omega⟩]; omega⟩
    have e23 : (x2 + x3).toInt = x2.toInt + x3.toInt := ta ⟨by omega, by omega⟩
    have ev2 : v.toInt = (x2.toInt + x3.toInt) / 2 := by
      rw [ev, td i23 (rg_b rfl : Rg 2 2 (2 : Int32)) (by decide), e23]; rfl
    clear ev
    have iv : Rg 0 2999 v := ⟨by omega, by omega⟩
    obtain ⟨r, er, qr⟩ := thR T r0 (i := 42) (k2 := 97) rfl (by decide)
    refine s_ref er ?_
    refine s_gd (by rw [thN T qr (k := 97) (n := 3000) rfl (by decide)]; exact rg_inB iv (by decide)) ?_
    have ik := thI T qr (k := 97) (i := v.toNatClampNeg) (lo := 0) (hi := 2999) rfl
    have tl : TxL x0 (hI h r v.toNatClampNeg) h := fun r' er' => by
      have ck := clamp_i ik.1
      have e96 : (96 : Int32).toInt = 96 := rfl
      have em : ((96 : Int32) * (hI h r v.toNatClampNeg)).toInt = 96 * (hI h r v.toNatClampNeg).toInt := by rw [tm (by rw [e96]; have := ik.1; have := ik.2; omega), e96]
      have cm := clamp_i (v := (96 : Int32) * (hI h r v.toNatClampNeg)) (by rw [em]; have := ik.1; omega)
      have en : ((96 : Int32) * (hI h r v.toNatClampNeg)).toNatClampNeg = 96 * (hI h r v.toNatClampNeg).toNatClampNeg := by omega
      rw [en]
      exact P.2.1.2.2.2 r' er' _ (by have := ik.2; omega)
    refine s_cI0 (zX15_compare hF T r0 ik tl) (fun o6 e6 j6 => ?_)
    rw [show o6.2 = h from e6]
    have go : ∀ {t : Int32}, (t = 0 → ¬ o6.1 = 0) → Sat (br (0 ≤ o6.1) (br (o6.1 ≤ 0) (sX15_findsRoom_42 F f h x0 x1 x2 x3 t) (nm (v + (1 : Int32)) fun v_3 => sX15_findsRoom_42 F f h x0 x1 v_3 x3 t)) (sX15_findsRoom_42 F f h x0 x1 x2 v t)) (MkI ρ c 0 1 (FdPY zq Bq x0)) := fun {t} ht => by
      refine s_br (fun g1 => s_br (fun g2 => ?_) (fun g2 => ?_)) (fun g1 => ?_)
      · have q1 : 0 ≤ o6.1.toInt := le_i g1
        have q2 : o6.1.toInt ≤ 0 := le_i g2
        have q0 : o6.1 = 0 := Int32.toInt_inj.mp (by show o6.1.toInt = 0; omega)
        exact ih a2 b2 b3 (by omega) (fun z => absurd q0 (ht z))
      · refine s_q (fun y ey => ?_)
        have ey2 : y.toInt = v.toInt + 1 := by rw [ey]; exact (nc_s iv (by decide)).2
        clear ey
        exact ih (by omega) (by omega) b3 (by omega) (fun z => by omega)
      · exact ih a2 (by omega) (by omega) (by omega) (fun z => by omega)
    exact s_br (fun _ => go (fun z => absurd z (by decide))) (fun nz => go (fun _ => nz))
theorem zX15_findsRoomY (hF : 700000 ≤ F) (hA : pmA c fdL) (hW : ∀ j, j ≤ 2999 → pmO c (11000 + j) bpL) (T : TH ρ c h) (r0 : ρ x0 = 16) (P : FdPY zq Bq x0 h) (G : GZ x0 g h) : Sat (sX15_findsRoom F h x0) (MkI ρ c 0 1 (FdPY zq Bq x0)) := by
  unfold sX15_findsRoom sX15_findsRoom_19 sX15_findsRoom_32
  refine s_q (fun v ev => ?_)
  have iv : Rg 0 256 v := by rw [ev]; exact thI T r0 (k := 16) (i := 3) (lo := 0) (hi := 256) rfl
  clear ev
  obtain ⟨r2, e2, q2⟩ := thR T r0 (i := 2) (k2 := 83) rfl (by decide)
  refine s_ref e2 ?_
  obtain ⟨r1, e1, q1⟩ := thR T r0 (i := 43) (k2 := 98) rfl (by decide)
  refine s_ref e1 ?_
  refine s_gd (by decide) (s_gd (by decide) (s_gd (rg_nneg iv (by decide)) ?_))
  refine s_gd (g_len (rg_b rfl : Rg (0) (0) ((0 : Int32))) iv (thN T q2 (k := 83) (n := 256) rfl (by decide)) (by decide)) ?_
  refine s_gd (g_len (rg_b rfl : Rg (0) (0) ((0 : Int32))) iv (thN T q1 (k := 98) (n := 256) rfl (by decide)) (by decide)) ?_
  refine s_gd (fun i _ => fits_b (rg_m (thI T q2 (k := 83) (lo := (-128)) (hi := (127)) rfl) (by decide))) ?_
  refine s_hq (th_cpI T q2 q1 (k0 := 83) (k := 98) (lo0 := (-128)) (hi0 := (127)) (lo := (-128)) (hi := (127)) (fun _ => rfl) (fun _ => rfl) (by decide) (by decide) (by decide) (fun _ => (pm_a hA rfl))) (fun h3 T3 w3 => ?_)
  have f3 := fr1C (c := c) (A := [(98, 999)]) q1 rfl w3
  refine s_hq (th_wI T3 r0 (k := 16) (lo := (0)) (hi := (256)) rfl (rg_b rfl) (by decide) (by decide) (pm_a hA rfl)) (fun h4 T4 w4 => ?_)
  have f4 := fr1I (c := c) (A := [(16, 3)]) r0 rfl w4
  obtain ⟨g1, g2, g3, g4⟩ := G
  have rg : ρ g = 13 := rr T (thR T r0 (i := 45) (k2 := 13) rfl (by decide)) g1
  have P3 := fd_frY T r0 f3 fB98Y ⟨fun _ => rfl, fun _ _ => rfl⟩ ⟨fun _ => rfl, fun _ _ => rfl⟩ (fun _ => rfl) P
  have P4 := fd_frY T3 r0 f4 ⟨fun _ => rfl, fun _ _ => rfl, fun _ => ⟨fun _ _ => rfl, fun _ => rfl, fun _ => rfl, fun _ => rfl⟩⟩ ⟨fun _ => rfl, fun _ _ => rfl⟩ ⟨fun _ => rfl, fun _ _ => rfl⟩ (fun _ => rfl) P3
  have g1' : hR h4 x0 45 = some g := by rw [(fr_RI f4 r0 (by decide) (fun _ => rfl)).2.2, (fr_RI f3 r0 (by decide) (fun _ => rfl)).2.2]; exact g1
  have g2' : hJ h4 g 2 = 0 := by rw [(fr_RI f4 rg (by decide) (fun _ => rfl)).2.1, (fr_RI f3 rg (by decide) (fun _ => rfl)).2.1]; exact g2
  have g3' : hI h4 g 3 = 0 := by rw [(fr_RI f4 rg (by decide) (fun _ => rfl)).1, (fr_RI f3 rg (by decide) (fun _ => rfl)).1]; exact g3
  have g4' : ∀ H, hR h4 g 5 = some H → ∀ j : Nat, j < 24 → (hI h4 H j).toInt ≤ 0 := fun H eH j hj => by
    rw [(fr_RI f4 rg (by decide) (fun _ => rfl)).2.2, (fr_RI f3 rg (by decide) (fun _ => rfl)).2.2] at eH
    have rH : ρ H = 64 := rr T (thR T rg (i := 5) (k2 := 64) rfl (by decide)) eH
    rw [(fr_RI f4 rH (by decide) (fun _ => rfl)).1, (fr_RI f3 rH (by decide) (fun _ => rfl)).1]
    exact g4 H eH j hj
  refine s_ref g1' ?_
  obtain ⟨H, eH, qH⟩ := thR T4 rg (i := 5) (k2 := 64) rfl (by decide)
  have z0 := sH_z (g4' H eH) (Nat.zero_le 1) 12 (Nat.le_refl _)
  have z1 := sH_z (g4' H eH) (Nat.le_refl 1) 12 (Nat.le_refl _)
  have o0 : (hI h4 x0 3).toInt = 0 := by rw [he_s w4]; rfl
  have zz : (0 : Int32).toInt = 0 := rfl
  refine s_cVfq (S := wrF) (P := fun o => (hI o x0 3).toInt ≤ 87) T4 (fs_sub (pmA_s hA rfl) fs_n) (zX15_writeAll (s := 64) (v := 87) hF fs_a (th_in _ T4) r0 rg (by decide) (by rw [o0]; decide) (Nat.le_refl _) (thI T4 r0 (k := 16) (i := 13) (lo := 9) (hi := 64) rfl).2 eH (by rw [o0, g2', g3', cRt_0, zz]; omega)) (fun o5 T5 f5 u5 => ?_)
  have P5 := fd_frY T4 r0 f5 fB83Y ⟨fun _ => rfl, fun _ _ => rfl⟩ ⟨fun _ => rfl, fun _ _ => rfl⟩ (fun _ => rfl) P4
  have W5 : PZ zq g o5 := by
    have k3 : hI o5 g 3 = 0 := by rw [(fr_RI f5 rg (by decide) (fun _ => rfl)).1, g3']
    refine ⟨pe_0 (by rw [k3]; rfl), fun M H' m1 m2 => ?_, ?_, by rw [k3]; decide, fun n => by rw [k3] at n; exact absurd n (by decide)⟩
    · rw [(fr_RI f5 rg (by decide) (fun _ => rfl)).2.2] at m2
      have y : H' = H := r_eq eH m2
      subst y
      have kH : ∀ i, hI o5 H' i = hI h4 H' i := fun i => (fr_RI f5 qH (by decide) (fun _ => rfl)).1
      have := mc_le (hI o5 M) 64
      unfold tot
      rw [sh_eq (h := h4) 12 (fun i _ => kH _), sh_eq (h := h4) 12 (fun i _ => kH _)]
      omega
    · have : hJ o5 g 2 = 0 := by rw [(fr_RI f5 rg (by decide) (fun _ => rfl)).2.1, g2']
      rw [this, crt_0]
      decide
  have R5 : FRY zq Bq x0 g (hI o5 x0 44).toInt o5 := ⟨rfl, P5, by rw [(fr_RI f5 r0 (by decide) (fun _ => rfl)).2.2]; exact g1', W5, u5⟩
  have i44 := thI T5 r0 (k := 16) (i := 44) (lo := 0) (hi := 3000) rfl
  refine s_q (fun y ey => ?_)
  have ey2 : y.toInt = (hI o5 x0 44).toInt := by rw [ey]
  clear ey
  exact fd_42Y hF hA hW T5 r0 iv R5 F (by decide) (by rw [zz, ey2]; exact i44.1) (by omega) (by omega) (fun _ => by rw [zz]; have := i44.2; omega)
end
end
