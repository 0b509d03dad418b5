/-! addAll by its equation: all that comes of a set is there -/
/-- a row of so many men is there -/
def FdS (rs rk : Nat) (g : Hp) (m : Nat) (b : Int32 → Nat) : Prop := ∃ f, Sd f m ∧ (∀ v, cn f v m = b v) ∧ Fnd rs rk (pkF f (nI m) m) g
/-- the man i of set k left out, and become -/
def CL (re rm R Bc Bm rs rk : Nat) (g : Hp) (k i : Nat) (n : Int) : Prop :=
  (¬ (hI g re (5 * k + i) - (1 : Int32)) >>> ((1 : Int32) &&& 31) = hI g R 10 → FdS rs rk g ((hI g rm k).toNatClampNeg - 1) (fun v => cn (sk (fun p => hI g re (5 * k + p)) i) v ((hI g rm k).toNatClampNeg - 1))) ∧
  ∀ j : Int32, 0 ≤ j.toInt → j.toInt < n → j.toInt < (hI g Bm ((hI g re (5 * k + i) - (1 : Int32)) >>> ((1 : Int32) &&& 31)).toNatClampNeg).toInt → FdS rs rk g (hI g rm k).toNatClampNeg (fun v => cn (up (fun p => hI g re (5 * k + p)) i (((1 : Int32) + ((2 : Int32) * (hI g Bc (((6 : Int32) * ((hI g re (5 * k + i) - (1 : Int32)) >>> ((1 : Int32) &&& 31))) + j).toNatClampNeg))) + ((hI g re (5 * k + i) - (1 : Int32)) &&& (1 : Int32)))) v (hI g rm k).toNatClampNeg)
section
variable {ρ : Nat → Nat} {c : Cm} {x0 rm re rb rk rs ro R Bc Bm F : Nat} {h0 h g : Hp}
theorem cl_mono (qR : ρ R = 15) (qBc : ρ Bc = 80) (qBm : ρ Bm = 81) (r0 : ρ x0 = 16) (m5 : ∀ k, (hI h rm k).toNatClampNeg ≤ 5) (A : Mo ρ x0 rm re rk rs h g) {k i : Nat} {n : Int} (hk : (k : Int) < (hI h x0 49).toInt) (hi : i < (hI h rm k).toNatClampNeg) (P : CL re rm R Bc Bm rs rk h k i n) : CL re rm R Bc Bm rs rk g k i n := by
  obtain ⟨a1, a2, a3, a4, a5, a6, a7⟩ := A
  obtain ⟨b1, b2⟩ := a6 k hk
  have m := m5 k
  have fs : ∀ {n : Nat} {f f' : Nat → Int32}, FdS rs rk h n (fun v => cn f v n) → (∀ p, p < n → f' p = f p) → FdS rs rk g n (fun v => cn f' v n) := by
    rintro n f f' ⟨q, q1, q2, q3⟩ w
    exact ⟨q, q1, fun v => by rw [q2 v]; exact (cn_eq n w).symm, a4 _ q3⟩
  have kR : hI g R 10 = hI h R 10 := a3 R 10 (by rw [qR]; decide) (by rw [qR]; decide) (fun w => absurd (w.1 ▸ qR) (by rw [r0]; decide))
  have kBc : ∀ j, hI g Bc j = hI h Bc j := fun j => a3 Bc j (by rw [qBc]; decide) (by rw [qBc]; decide) (fun w => absurd (w.1 ▸ qBc) (by rw [r0]; decide))
  have kBm : ∀ j, hI g Bm j = hI h Bm j := fun j => a3 Bm j (by rw [qBm]; decide) (by rw [qBm]; decide) (fun w => absurd (w.1 ▸ qBm) (by rw [r0]; decide))
  unfold CL
  rw [b1, b2 i (by omega), kR, kBm]
  refine ⟨fun nr => fs (P.1 nr) (fun p hp => ?_), fun j j0 jn jl => ?_⟩
  · unfold sk
    split
    · exact b2 p (by omega)
    · exact b2 (p + 1) (by omega)
  · rw [kBc]
    refine fs (P.2 j j0 jn jl) (fun p hp => ?_)
    unfold up
    split
    · rfl
    · exact b2 p (by omega)
theorem mo_w {j : Nat} {v : Int32} (qs : ρ rs = 107) (qk : ρ rk = 106) (qo : ρ ro = 108) (qm : ρ rm = 99) (qe : ρ re = 100) (r0 : ρ x0 = 16) : Mo ρ x0 rm re rk rs g (wI g ro j v) := by
  have rd : ∀ a i, ¬ a = ro → hI (wI g ro j v) a i = hI g a i := fun a i na => by rw [r_I, if_neg (fun w => na w.1)]
  have nx : ¬ x0 = ro := fun w => absurd (w ▸ r0) (by rw [qo]; decide)
  have ns : ¬ rs = ro := fun w => absurd (w ▸ qs) (by rw [qo]; decide)
  have nk : ¬ rk = ro := fun w => absurd (w ▸ qk) (by rw [qo]; decide)
  have nm' : ¬ rm = ro := fun w => absurd (w ▸ qm) (by rw [qo]; decide)
  have ne : ¬ re = ro := fun w => absurd (w ▸ qe) (by rw [qo]; decide)
  refine ⟨fun _ _ => rfl, fun _ => rfl, fun a i _ n2 _ => rd a i (fun w => n2 (by rw [w, qo]; decide)), ?_, by rw [rd x0 49 nx]; exact Int.le_refl _, fun k _ => ⟨rd rm k nm', fun i _ => rd re _ ne⟩, fun k l1 l2 => absurd l2 (by rw [rd x0 49 nx]; omega)⟩
  rintro key ⟨M, B1, B2, B3⟩
  exact ⟨M, fun m' hm => by rw [rd rs _ ns]; exact B1 m' hm, by rw [rd rs _ ns]; exact B2, by rw [rd rk _ nk]; exact B3⟩
/-- addSet, with all that is told of it -/
theorem ads_t (hF : 700000 ≤ F) (hA : pmA c seL) (Q : SlR ρ x0 rm re rb rk rs ro h) (T : TH ρ c h) (P : SE x0 h) {n : Int32} (i1 : Rg 0 5 n) (W : RW x0 n.toInt h) {o : Int32 × Hp} (e : sX15_addSet F h x0 n = some o) : (TH ρ c o.2 ∧ SE x0 o.2) ∧ (¬ o.1 = 0 → Mo ρ x0 rm re rk rs h o.2 ∧ FdS rs rk o.2 n.toNatClampNeg (fun v => cn (fun i => hI h ro i) v n.toNatClampNeg)) := by
  obtain ⟨t1, _, t3, _⟩ := sat_e (zX15_addSet hF hA T Q.1.1 i1 P W) e
  refine ⟨⟨t1, t3⟩, fun nz => ?_⟩
  have s := thI T Q.1.1 (k := 16) (i := 49) (lo := 0) (hi := 4096) rfl
  obtain ⟨m1, f, f1, f2, f3⟩ := ads_q hF Q i1 (thN T Q.1.2.2.2.2.2.2 (k := 108) (n := 6) rfl (by decide)) (fun j => by have := thI T Q.1.2.2.2.2.2.1 (k := 107) (i := j) (lo := 0) (hi := 4096) rfl; exact ⟨this.1, this.2⟩) s.1 s.2 e nz
  refine ⟨m1, f, f1, f2, ?_⟩
  have : n = nI n.toNatClampNeg := by
    have a := i1.1
    have b := i1.2
    have := clamp_i a
    apply Int32.toInt_inj.mp
    rw [z_toInt (by omega)]
    omega
  rw [← this]
  exact f3
theorem slr_mo (Q : SlR ρ x0 rm re rb rk rs ro h) (A : Mo ρ x0 rm re rk rs h g) : SlR ρ x0 rm re rb rk rs ro g := by
  obtain ⟨q, e1, e2, e3, e4, e5, e6⟩ := Q
  exact ⟨q, by rw [A.1]; exact e1, by rw [A.1]; exact e2, by rw [A.1]; exact e3, by rw [A.1]; exact e4, by rw [A.1]; exact e5, by rw [A.1]; exact e6⟩
theorem cwo_q (hF : 700000 ≤ F) (hA : pmA c seL) (Q : SlR ρ x0 rm re rb rk rs ro h) (T : TH ρ c h) (P : SE x0 h) {x1 x2 : Int32} (i1 : Rg 0 4095 x1) (ln : x1.toInt < (hI h x0 49).toInt) (a2 : 0 ≤ x2.toInt) (l2 : x2.toInt < (hI h rm x1.toNatClampNeg).toInt) {o : Int32 × Hp} (e : sX15_copyWithout F h x0 x1 x2 = some o) : (TH ρ c o.2 ∧ SE x0 o.2) ∧ (¬ o.1 = 0 → Mo ρ x0 rm re rk rs h o.2 ∧ FdS rs rk o.2 ((hI h rm x1.toNatClampNeg).toNatClampNeg - 1) (fun v => cn (sk (fun p => hI h re (5 * x1.toNatClampNeg + p)) x2.toNatClampNeg) v ((hI h rm x1.toNatClampNeg).toNatClampNeg - 1))) := by
  have Q' := Q
  obtain ⟨⟨r0, qm, qe, qb, qk, qs, qo⟩, ⟨e46, e47, e48, e55, e56, e57⟩⟩ := Q'
  have nom : ¬ rm = ro := fun w => absurd (w ▸ qm) (by rw [qo]; decide)
  have noe : ¬ re = ro := fun w => absurd (w ▸ qe) (by rw [qo]; decide)
  have nox : ¬ x0 = ro := fun w => absurd (w ▸ r0) (by rw [qo]; decide)
  have c2 := clamp_i a2
  have im := thI T qm (k := 99) (i := x1.toNatClampNeg) (lo := 0) (hi := 5) rfl
  have cm := clamp_i im.1
  have bm := im.2
  have c1 := clamp_i i1.1
  have lp : ∀ (f : Nat) {g : Hp} {x3 x4 : Int32}, TH ρ c g → SE x0 g → Mo ρ x0 rm re rk rs h g → (∀ k, hI g rm k = hI h rm k) → (∀ k, hI g re k = hI h re k) → hI g x0 49 = hI h x0 49 → RW x0 x3.toInt g → 0 ≤ x4.toInt → x4.toInt ≤ (hI h rm x1.toNatClampNeg).toInt → (x3.toInt = if x4.toInt ≤ x2.toInt then x4.toInt else x4.toInt - 1) → (∀ p : Nat, (p : Int) < x3.toInt → hI g ro p = sk (fun p => hI h re (5 * x1.toNatClampNeg + p)) x2.toNatClampNeg p) → sX15_copyWithout_5 F f g x0 x1 x2 x3 x4 = some o → (TH ρ c o.2 ∧ SE x0 o.2) ∧ (¬ o.1 = 0 → Mo ρ x0 rm re rk rs h o.2 ∧ FdS rs rk o.2 ((hI h rm x1.toNatClampNeg).toNatClampNeg - 1) (fun v => cn (sk (fun p => hI h re (5 * x1.toNatClampNeg + p)) x2.toNatClampNeg) v ((hI h rm x1.toNatClampNeg).toNatClampNeg - 1))) := by
    intro f
    induction f with
    | zero => intro g x3 x4 _ _ _ _ _ _ _ _ _ _ _ e; exact absurd e (by simp [sX15_copyWithout_5])
    | succ f ih =>
      intro g x3 x4 Tg Pg M km ke k49 W a4 b4 r3 rows e
      unfold sX15_copyWithout_5 sX15_copyWithout_42 at e
      simp only [nm] at e
      have c4 := clamp_i a4
      replace e := cl_s e; obtain ⟨r1, p, e⟩ := e
      rw [M.1] at p
      have := r_eq e46 p; subst this
      replace e := (gd_s e).2
      rw [km] at e
      replace e := br_s e; rcases e with ⟨cc, e⟩ | ⟨cc, e⟩
      · have cc := le_i cc
        have x3v : x3.toInt = (hI h r1 x1.toNatClampNeg).toInt - 1 := by rw [r3, if_neg (by omega)]; omega
        have c3 := clamp_i (v := x3) (by omega)
        replace e := cl_s e; obtain ⟨o4, e4, e⟩ := e
        have e := Option.some.inj (gd_s e).2
        subst e
        obtain ⟨t, u⟩ := ads_t hF hA (slr_mo Q M) Tg Pg ⟨by omega, by omega⟩ W e4
        refine ⟨t, fun nz => ?_⟩
        obtain ⟨u1, u2⟩ := u nz
        have en : x3.toNatClampNeg = (hI h r1 x1.toNatClampNeg).toNatClampNeg - 1 := by omega
        have m5 : ∀ k, (hI g r1 k).toNatClampNeg ≤ 5 := fun k => by
          have i := thI Tg qm (k := 99) (i := k) (lo := 0) (hi := 5) rfl
          have := clamp_i i.1
          have := i.2
          omega
        refine ⟨mo_t m5 M u1, ?_⟩
        rw [en] at u2
        obtain ⟨f, f1, f2, f3⟩ := u2
        exact ⟨f, f1, fun v => by rw [f2 v]; exact cn_eq _ (fun p hp => rows p (by omega)), f3⟩
      have cc := nle_i cc
      have i4 : Rg 0 4 x4 := ⟨a4, by omega⟩
      have ny := nc_s i4 (by decide)
      replace e := br_s e; rcases e with ⟨q, e⟩ | ⟨q, e⟩
      · rw [q] at r3
        refine ih Tg Pg M km ke k49 W (by omega) (by omega) ?_ rows e
        rw [ny.2, if_neg (by rw [q]; omega), r3, if_pos (Int.le_refl _), q]
        omega
      · have q' : ¬ x4.toInt = x2.toInt := fun w => q (Int32.toInt_inj.mp w)
        replace e := cl_s e; obtain ⟨r7, p, e⟩ := e
        rw [M.1] at p
        have := r_eq e57 p; subst this
        replace e := cl_s e; obtain ⟨r8, p, e⟩ := e
        rw [M.1] at p
        have := r_eq e47 p; subst this
        replace e := (gd_s e).2
        replace e := (gd_s e).2
        have ix := (ix5 (x1 := x1) (x4 := x4) i1 i4).2
        rw [ix, ke] at e
        have x3b : 0 ≤ x3.toInt ∧ x3.toInt ≤ 4 := by rw [r3]; split <;> omega
        have c3 := clamp_i x3b.1
        have n3 := nc_s (x := x3) (b := 4) ⟨x3b.1, x3b.2⟩ (by decide)
        have pos : 1 ≤ (hI h r8 (5 * x1.toNatClampNeg + x4.toNatClampNeg)).toInt := P.2.2.2.2.1 r1 r8 e46 e47 x1.toNatClampNeg (by omega) x4.toNatClampNeg (by omega)
        have iv := thI T qe (k := 100) (i := 5 * x1.toNatClampNeg + x4.toNatClampNeg) (lo := 0) (hi := 24) rfl
        have T2 : TH ρ c (wI g r7 x3.toNatClampNeg (hI h r8 (5 * x1.toNatClampNeg + x4.toNatClampNeg))) := th_wI Tg qo (k := 108) (lo := 0) (hi := 24) rfl iv (by decide) (by decide) (pm_a hA rfl)
        obtain ⟨P2, _, W2⟩ := row_w (n := x3.toInt) Tg r0 (by rw [M.1]; exact e57) qo rfl Pg rfl (Or.inl pos) W
        have m5 : ∀ k, (hI g r1 k).toNatClampNeg ≤ 5 := fun k => by
          have i := thI Tg qm (k := 99) (i := k) (lo := 0) (hi := 5) rfl
          have := clamp_i i.1
          have := i.2
          omega
        refine ih T2 P2 (mo_t m5 M (mo_w qs qk qo qm qe r0)) (fun k => by rw [r_I, if_neg (fun w => nom w.1)]; exact km k) (fun k => by rw [r_I, if_neg (fun w => noe w.1)]; exact ke k) (by rw [r_I, if_neg (fun w => nox w.1)]; exact k49) ?_ (by omega) (by omega) ?_ ?_ e
        · intro ro' er i hi
          replace er : hR g x0 57 = some ro' := er
          rw [M.1] at er
          have := r_eq e57 er; subst this
          rw [r_I]
          by_cases w : i = x3.toNatClampNeg
          · rw [if_pos ⟨rfl, w⟩]; exact pos
          · rw [if_neg (fun z => w z.2)]
            exact W ro' (by rw [M.1]; exact e57) i (by omega)
        · rw [n3.2, ny.2, r3]
          split <;> split <;> omega
        · intro p hp
          rw [r_I]
          by_cases w : p = x3.toNatClampNeg
          · rw [if_pos ⟨rfl, w⟩, w]
            unfold sk
            by_cases z : x4.toInt ≤ x2.toInt
            · rw [if_pos z] at r3
              rw [if_pos (by omega)]
              congr 1
              omega
            · rw [if_neg z] at r3
              rw [if_neg (by omega)]
              congr 1
              omega
          · rw [if_neg (fun z => w z.2)]
            exact rows p (by omega)
  unfold sX15_copyWithout at e
  have z0 : (0 : Int32).toInt = 0 := rfl
  refine lp F T P ⟨fun _ _ => rfl, fun _ => rfl, fun _ _ _ _ _ => rfl, fun _ w => w, Int.le_refl _, fun _ _ => ⟨rfl, fun _ _ => rfl⟩, fun k l1 l2 => absurd l2 (by omega)⟩ (fun _ => rfl) (fun _ => rfl) rfl (fun _ _ i hi => absurd hi (by rw [z0]; omega)) (by decide) (by rw [z0]; exact im.1) (by rw [z0, if_pos a2]) (fun p hp => absurd hp (by rw [z0]; omega)) e
end
