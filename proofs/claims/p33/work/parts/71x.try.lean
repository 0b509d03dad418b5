/-! trySteps: what it adds; how many moves there can be -/
theorem oth_post {h : Hp} {x0 : Nat} {m : Int32} {o : Int32 × Hp} (e : sX15_becomesOthers h x0 m = some o) : o.2 = h := by
  unfold sX15_becomesOthers sX15_becomesOthers_17 at e
  obtain ⟨_, _, e⟩ := cl_s e
  obtain ⟨_, _, e⟩ := cl_s e
  replace e := (gd_s e).2
  rcases br_s e with ⟨_, e⟩ | ⟨_, e⟩
  · rw [← Option.some.inj (gd_s e).2]
  · rw [← Option.some.inj (gd_s e).2]
/-- the rank that is a side's last -/
def lc (sd : Int32) (R : Int) : Int := if sd = 0 then R - 1 else 0
theorem rank_last {h : Hp} {x0 : Nat} {q sd : Int32} {o : Int32 × Hp} (iq : Rg 0 63 q) (iF : Rg 3 8 (hI h x0 11)) (iR : Rg 3 8 (hI h x0 12)) (e : sX15_rankFor h x0 q sd = some o) (w : o.1 = hI h x0 12) : q.toInt / (hI h x0 11).toInt = lc sd (hI h x0 12).toInt := by
  have t2 := td iq iF ⟨by decide, by decide⟩
  have q2 := rg_divv iq iF ⟨by decide, by decide⟩
  have := q2.1
  have := q2.2
  have := iR.1
  have := iR.2
  unfold sX15_rankFor sX15_rankFor_26 at e
  rcases br_s e with ⟨c1, e⟩ | ⟨c1, e⟩
  · replace e := (gd_s e).2
    have := Option.some.inj e
    rw [← this] at w
    have w := eq_i w
    rw [ta (by show _ ≤ (q / hI h x0 11).toInt + 1 ∧ (q / hI h x0 11).toInt + 1 ≤ _; omega)] at w
    have : (1 : Int32).toInt = 1 := rfl
    unfold lc
    rw [if_pos c1, ← t2]
    omega
  · replace e := (gd_s e).2
    have := Option.some.inj e
    rw [← this] at w
    have w := eq_i w
    rw [ts (by omega)] at w
    unfold lc
    rw [if_neg c1, ← t2]
    omega
theorem ts_post {ρ : Nat → Nat} {c : Cm} {F x0 b l : Nat} {h o : Hp} {s t m sd : Int32} (T : TH ρ c h) (rx : ρ x0 = 16) (rb : ρ b = 13) (rl : ρ l = 14) (is : Rg 0 63 s) (it : Rg 0 63 t) (tq : t.toInt < (hI h x0 13).toInt) (sq : s.toInt < (hI h x0 13).toInt) (lt0 : (hI h l 0).toInt ≤ 2994) (P : MvB x0 b l h) (mn : ∀ M, hR h b 0 = some M → 0 < (hI h M s.toNatClampNeg).toInt ∧ (hI h M s.toNatClampNeg - (1 : Int32)) &&& (1 : Int32) = sd) (LE : LedOk x0 b s sd h) (st : StepAt x0 t h) (e0 : sX15_trySteps F h x0 b s t m l = some o) :
    MvB x0 b l o ∧ AFr ρ l h o ∧ (hI h l 0).toInt ≤ (hI o l 0).toInt ∧ ((hI o l 0).toInt ≤ (hI h l 0).toInt + 1 ∨ ((hI o l 0).toInt ≤ (hI h l 0).toInt + 6 ∧ t.toInt / (hI h x0 11).toInt = lc (hI h b 1) (hI h x0 12).toInt)) := by
  obtain ⟨S, e25, rS⟩ := thR T rx (i := 25) (k2 := 87) rfl (by decide)
  obtain ⟨Fa, e26, rFa⟩ := thR T rx (i := 26) (k2 := 88) rfl (by decide)
  obtain ⟨M, eM, rM⟩ := thR T rb (i := 0) (k2 := 62) rfl (by decide)
  obtain ⟨H, eH, rH⟩ := thR T rb (i := 5) (k2 := 64) rfl (by decide)
  obtain ⟨R, eR, rR⟩ := thR T rx (i := 4) (k2 := 15) rfl (by decide)
  obtain ⟨Fl, eFl, rFl⟩ := thR T rR (i := 5) (k2 := 75) rfl (by decide)
  obtain ⟨Bm, eBm, rBm⟩ := thR T rR (i := 14) (k2 := 81) rfl (by decide)
  have iF : Rg 3 8 (hI h x0 11) := thI T rx rfl
  have iR : Rg 3 8 (hI h x0 12) := thI T rx rfl
  have i0 : Rg 0 3000 (hI h l 0) := thI T rl rfl
  have iBm : ∀ i, Rg 0 6 (hI h Bm i) := fun i => thI T rBm rfl
  have g0 := i0.1
  have L := LE S Fa M R Fl e25 e26 eM eR eFl t.toNatClampNeg (by rw [nc_i it.1]; exact tq) (st S e25)
  rw [nc_i it.1] at L
  obtain ⟨mn1, mn2⟩ := mn M eM
  have nts : ¬ t.toInt = s.toInt := by
    intro q
    have : t = s := Int32.toInt_inj.mp q
    rw [this] at L
    rcases L.1 with w | w
    · omega
    · exact w mn2
  -- an entry of these
  have E : ∀ k mo : Int32, (k = 0 ∨ k = 1) → (0 < mo.toInt → WayE (hI h x0 11).toInt M h s.toInt t.toInt mo.toInt) → Ent (hI h x0 11).toInt (hI h x0 13).toInt M H (hI h b 1) h s t m k mo := by
    intro k mo hk hm
    have k3 : ¬ k.toInt = 3 := by rcases hk with q | q <;> rw [q] <;> decide
    exact ⟨tq, fun q => absurd q k3, fun _ => ⟨is.1, sq, mn1⟩, fun _ q => ⟨nts, hm q⟩⟩
  have kk : ∀ {g : Hp}, AFr ρ l h g → (∀ j, hI g M j = hI h M j) ∧ (∀ j, hI g H j = hI h H j) ∧ hI g b 1 = hI h b 1 ∧ hI g x0 11 = hI h x0 11 ∧ hI g x0 13 = hI h x0 13 := fun fr =>
    ⟨fun j => fr.2.2 M j (by rw [rM]; decide) (fun q => absurd (q.1 ▸ rM) (by rw [rl]; decide)), fun j => fr.2.2 H j (by rw [rH]; decide) (fun q => absurd (q.1 ▸ rH) (by rw [rl]; decide)), fr.2.2 b 1 (by rw [rb]; decide) (fun q => absurd q.2 (by decide)), fr.2.2 x0 11 (by rw [rx]; decide) (fun q => absurd q.2 (by decide)), fr.2.2 x0 13 (by rw [rx]; decide) (fun q => absurd q.2 (by decide))⟩
  have one : ∀ (g g2 : Hp) (k mo bc tk : Int32), AFr ρ l h g → 0 ≤ (hI g l 0).toInt → (hI g l 0).toInt ≤ 2999 → MvB x0 b l g → (k = 0 ∨ k = 1) → (0 < mo.toInt → WayE (hI h x0 11).toInt M h s.toInt t.toInt mo.toInt) → sX13_add g l s t m bc tk k mo = some g2 → MvB x0 b l g2 ∧ AFr ρ l h g2 ∧ (hI g2 l 0).toInt = (hI g l 0).toInt + 1 := by
    intro g g2 k mo bc tk fr ge le Pg hk hm e
    refine mv_add0 T fr rx rb rl ge le Pg (fun M' H' p1 p2 => ?_) e
    rw [fr.1] at p1 p2
    have q1 := r_eq eM p1
    have q2 := r_eq eH p2
    subst q1; subst q2
    obtain ⟨a1, a2, a3, a4, a5⟩ := kk fr
    rw [a3, a4, a5]
    exact ent_c a1 a2 (E k mo hk hm)
  have loop : ∀ (k mo tk : Int32), (k = 0 ∨ k = 1) → (0 < mo.toInt → WayE (hI h x0 11).toInt M h s.toInt t.toInt mo.toInt) → ∀ (f : Nat) (g : Hp) (x9 : Int32), AFr ρ l h g → MvB x0 b l g → 0 ≤ x9.toInt → x9.toInt ≤ 6 → (hI g l 0).toInt = (hI h l 0).toInt + x9.toInt → sX15_trySteps_152 F f g x0 s t m l tk mo k x9 = some o → MvB x0 b l o ∧ AFr ρ l h o ∧ (hI h l 0).toInt ≤ (hI o l 0).toInt ∧ (hI o l 0).toInt ≤ (hI h l 0).toInt + 6 := by
    intro k mo tk hk hm f
    induction f with
    | zero => intro g x9 _ _ _ _ _ e; exact absurd e (by simp [sX15_trySteps_152])
    | succ f ih =>
      intro g x9 fr Pg a1 a2 a3 e
      unfold sX15_trySteps_152 at e
      replace e := cl_s e; obtain ⟨R', p1, e⟩ := e
      rw [fr.1] at p1
      have := r_eq eR p1
      subst this
      replace e := cl_s e; obtain ⟨B', p2, e⟩ := e
      rw [fr.1] at p2
      have := r_eq eBm p2
      subst this
      replace e := (gd_s e).2
      replace e := br_s e; rcases e with ⟨_, e⟩ | ⟨c1, e⟩
      · unfold sX15_trySteps_223 at e
        have := Option.some.inj e
        subst this
        exact ⟨Pg, fr, by omega, by omega⟩
      replace c1 := nle_i c1
      rw [fr.2.2 B' _ (by rw [rBm]; decide) (fun q => absurd (q.1 ▸ rBm) (by rw [rl]; decide))] at c1
      have b6 := (iBm m.toNatClampNeg).2
      replace e := cl_s e; obtain ⟨_, _, e⟩ := e
      replace e := cl_s e; obtain ⟨_, _, e⟩ := e
      replace e := (gd_s e).2
      replace e := cl_s e; obtain ⟨g2, e8, e⟩ := e
      obtain ⟨z1, z2, z3⟩ := one g g2 k mo _ tk fr (by omega) (by omega) Pg hk hm e8
      simp only [nm] at e
      have x1 : (x9 + (1 : Int32)).toInt = x9.toInt + 1 := ta (by show _ ≤ x9.toInt + 1 ∧ x9.toInt + 1 ≤ _; omega)
      exact ih g2 _ z2 z1 (by rw [x1]; omega) (by rw [x1]; omega) (by rw [x1]; omega) e
  have b106 : ∀ (k mo tk : Int32), (k = 0 ∨ k = 1) → (0 < mo.toInt → WayE (hI h x0 11).toInt M h s.toInt t.toInt mo.toInt) → sX15_trySteps_106 F h x0 b s t m l tk mo k = some o → MvB x0 b l o ∧ AFr ρ l h o ∧ (hI h l 0).toInt ≤ (hI o l 0).toInt ∧ ((hI o l 0).toInt ≤ (hI h l 0).toInt + 1 ∨ ((hI o l 0).toInt ≤ (hI h l 0).toInt + 6 ∧ t.toInt / (hI h x0 11).toInt = lc (hI h b 1) (hI h x0 12).toInt)) := by
    intro k mo tk hk hm e
    have b207 : sX15_trySteps_207 F h s t m l tk mo k = some o → MvB x0 b l o ∧ AFr ρ l h o ∧ (hI h l 0).toInt ≤ (hI o l 0).toInt ∧ ((hI o l 0).toInt ≤ (hI h l 0).toInt + 1 ∨ ((hI o l 0).toInt ≤ (hI h l 0).toInt + 6 ∧ t.toInt / (hI h x0 11).toInt = lc (hI h b 1) (hI h x0 12).toInt)) := by
      intro e
      unfold sX15_trySteps_207 sX15_trySteps_223 at e
      replace e := cl_s e; obtain ⟨g2, e8, e⟩ := e
      have := Option.some.inj e
      subst this
      obtain ⟨z1, z2, z3⟩ := one h g2 k mo _ tk afr_r g0 (by omega) P hk hm e8
      exact ⟨z1, z2, by omega, Or.inl (by omega)⟩
    have b149 : t.toInt / (hI h x0 11).toInt = lc (hI h b 1) (hI h x0 12).toInt → sX15_trySteps_149 F h x0 s t m l tk mo k = some o → MvB x0 b l o ∧ AFr ρ l h o ∧ (hI h l 0).toInt ≤ (hI o l 0).toInt ∧ ((hI o l 0).toInt ≤ (hI h l 0).toInt + 1 ∨ ((hI o l 0).toInt ≤ (hI h l 0).toInt + 6 ∧ t.toInt / (hI h x0 11).toInt = lc (hI h b 1) (hI h x0 12).toInt)) := by
      intro ra e
      unfold sX15_trySteps_149 at e
      obtain ⟨z1, z2, z3, z4⟩ := loop k mo tk hk hm F h _ afr_r P (by decide) (by decide) (by show _ = _ + (0 : Int); omega) e
      exact ⟨z1, z2, z3, Or.inr ⟨z4, ra⟩⟩
    unfold sX15_trySteps_106 at e
    replace e := cl_s e; obtain ⟨o1, e1, e⟩ := e
    have h1 := oth_post e1
    obtain ⟨v1, g1⟩ := o1
    replace h1 : g1 = h := h1
    subst h1
    replace e := br_s e; rcases e with ⟨_, e⟩ | ⟨_, e⟩
    · exact b207 e
    replace e := cl_s e; obtain ⟨o3, e3, e⟩ := e
    have h3 := (rank_post e3).1
    obtain ⟨v3, g3⟩ := o3
    replace h3 : g3 = g1 := h3
    subst h3
    replace e := br_s e; rcases e with ⟨c3, e⟩ | ⟨_, e⟩
    · have ra := rank_last it iF iR e3 c3
      replace e := cl_s e; obtain ⟨_, _, e⟩ := e
      replace e := br_s e; rcases e with ⟨_, e⟩ | ⟨_, e⟩
      · exact b149 ra e
      replace e := br_s e; rcases e with ⟨_, e⟩ | ⟨_, e⟩
      · exact b149 ra e
      · exact b207 e
    · exact b207 e
  have b90 : ∀ (mo tk : Int32), (0 < mo.toInt → WayE (hI h x0 11).toInt M h s.toInt t.toInt mo.toInt) → sX15_trySteps_90 F h x0 b s t m l tk mo = some o → MvB x0 b l o ∧ AFr ρ l h o ∧ (hI h l 0).toInt ≤ (hI o l 0).toInt ∧ ((hI o l 0).toInt ≤ (hI h l 0).toInt + 1 ∨ ((hI o l 0).toInt ≤ (hI h l 0).toInt + 6 ∧ t.toInt / (hI h x0 11).toInt = lc (hI h b 1) (hI h x0 12).toInt)) := by
    intro mo tk hm e
    unfold sX15_trySteps_90 at e
    replace e := cl_s e; obtain ⟨_, _, e⟩ := e
    replace e := (gd_s e).2
    replace e := br_s e; rcases e with ⟨_, e⟩ | ⟨_, e⟩
    · exact b106 _ _ _ (Or.inl rfl) hm e
    · exact b106 _ _ _ (Or.inr rfl) hm e
  have b48 : ∀ (tk : Int32), sX15_trySteps_48 F h x0 b s t m l tk = some o → MvB x0 b l o ∧ AFr ρ l h o ∧ (hI h l 0).toInt ≤ (hI o l 0).toInt ∧ ((hI o l 0).toInt ≤ (hI h l 0).toInt + 1 ∨ ((hI o l 0).toInt ≤ (hI h l 0).toInt + 6 ∧ t.toInt / (hI h x0 11).toInt = lc (hI h b 1) (hI h x0 12).toInt)) := by
    intro tk e
    have z : 0 < (0 : Int32).toInt → WayE (hI h x0 11).toInt M h s.toInt t.toInt (0 : Int32).toInt := fun q => absurd q (by decide)
    unfold sX15_trySteps_48 sX15_trySteps_89 at e
    replace e := cl_s e; obtain ⟨R', p1, e⟩ := e
    have := r_eq eR p1
    subst this
    replace e := cl_s e; obtain ⟨Fl', p2, e⟩ := e
    have := r_eq eFl p2
    subst this
    replace e := cl_s e; obtain ⟨S', p3, e⟩ := e
    have := r_eq e25 p3
    subst this
    replace e := (gd_s e).2
    replace e := (gd_s e).2
    replace e := br_s e; rcases e with ⟨_, e⟩ | ⟨c1, e⟩
    · exact b90 _ _ z e
    replace e := cl_s e; obtain ⟨_, _, e⟩ := e
    replace e := (gd_s e).2
    replace e := br_s e; rcases e with ⟨_, e⟩ | ⟨_, e⟩
    · exact b90 _ _ z e
    replace e := cl_s e; obtain ⟨F', p4, e⟩ := e
    have := r_eq e26 p4
    subst this
    replace e := (gd_s e).2
    exact b90 _ _ (fun _ => L.2 c1) e
  have e := e0
  unfold sX15_trySteps at e
  replace e := cl_s e; obtain ⟨_, _, e⟩ := e
  replace e := (gd_s e).2
  replace e := br_s e; rcases e with ⟨_, e⟩ | ⟨_, e⟩
  · replace e := cl_s e; obtain ⟨_, _, e⟩ := e
    replace e := (gd_s e).2
    replace e := br_s e; rcases e with ⟨_, e⟩ | ⟨_, e⟩
    · exact b48 _ e
    replace e := cl_s e; obtain ⟨_, _, e⟩ := e
    replace e := (gd_s e).2
    replace e := cl_s e; obtain ⟨o9, e9, e⟩ := e
    unfold sX15_manOf at e9
    have := Option.some.inj e9
    subst this
    exact b48 _ e
  · replace e := cl_s e; obtain ⟨_, _, e⟩ := e
    replace e := cl_s e; obtain ⟨_, _, e⟩ := e
    replace e := (gd_s e).2
    replace e := (gd_s e).2
    replace e := cl_s e; obtain ⟨o14, e14, e⟩ := e
    unfold sX15_manOf at e14
    have := Option.some.inj e14
    subst this
    exact b48 _ e
/-! how many moves there can be -/
def ow (v sd : Int32) : Bool := decide (0 < v.toInt) && decide ((v - (1 : Int32)) &&& (1 : Int32) = sd)
def Kc (g : Nat → Int32) (sd : Int32) : Nat → Int
  | 0 => 0
  | n + 1 => Kc g sd n + if ow (g n) sd = true then 1 else 0
def Ac (g : Nat → Int32) (sd : Int32) (F cc : Int) : Nat → Int
  | 0 => 0
  | n + 1 => Ac g sd F cc n + if ow (g n) sd = true then 0 else if (n : Int) / F = cc then 6 else 1
def Oc (g : Nat → Int32) : Nat → Int
  | 0 => 0
  | n + 1 => Oc g n + if (g n).toInt = 0 then 1 else 0
section
variable {g : Nat → Int32} {sd : Int32} {F cc : Int}
theorem kc_1 {n : Nat} : (ow (g n) sd = true ∧ Kc g sd (n + 1) = Kc g sd n + 1) ∨ (¬ ow (g n) sd = true ∧ Kc g sd (n + 1) = Kc g sd n) := by
  by_cases q : ow (g n) sd = true
  · exact Or.inl ⟨q, by simp [Kc, q]⟩
  · exact Or.inr ⟨q, by simp [Kc, q]⟩
theorem ec_1 {n : Nat} : ((g n).toInt = 0 ∧ Oc g (n + 1) = Oc g n + 1) ∨ (¬ (g n).toInt = 0 ∧ Oc g (n + 1) = Oc g n) := by
  by_cases q : (g n).toInt = 0
  · exact Or.inl ⟨q, by simp [Oc, q]⟩
  · exact Or.inr ⟨q, by simp [Oc, q]⟩
theorem ac_1 {n : Nat} : (ow (g n) sd = true ∧ Ac g sd F cc (n + 1) = Ac g sd F cc n) ∨ (¬ ow (g n) sd = true ∧ (n : Int) / F = cc ∧ Ac g sd F cc (n + 1) = Ac g sd F cc n + 6) ∨ (¬ ow (g n) sd = true ∧ ¬ (n : Int) / F = cc ∧ Ac g sd F cc (n + 1) = Ac g sd F cc n + 1) := by
  by_cases q : ow (g n) sd = true
  · exact Or.inl ⟨q, by simp [Ac, q]⟩
  · by_cases p : (n : Int) / F = cc
    · exact Or.inr (Or.inl ⟨q, p, by simp [Ac, q, p]⟩)
    · exact Or.inr (Or.inr ⟨q, p, by simp [Ac, q, p]⟩)
theorem ow_pos {v : Int32} (h : ow v sd = true) : 0 < v.toInt := by
  unfold ow at h
  rw [Bool.and_eq_true, decide_eq_true_eq] at h
  exact h.1
theorem ke_b (n : Nat) : 0 ≤ Kc g sd n ∧ 0 ≤ Oc g n ∧ Kc g sd n + Oc g n ≤ n := by
  induction n with
  | zero => simp [Kc, Oc]
  | succ n ih =>
    rcases kc_1 (g := g) (sd := sd) (n := n) with ⟨a, b⟩ | ⟨a, b⟩ <;> rcases ec_1 (g := g) (n := n) with ⟨c, d⟩ | ⟨c, d⟩
    · exact absurd (ow_pos a) (by omega)
    · omega
    · omega
    · omega
theorem kc_m {n m : Nat} (h : n ≤ m) : Kc g sd n ≤ Kc g sd m := by
  induction h with
  | refl => exact Int.le_refl _
  | step _ ih => rcases kc_1 (g := g) (sd := sd) with ⟨_, b⟩ | ⟨_, b⟩ <;> rw [b] <;> omega
theorem ec_m {n m : Nat} (h : n ≤ m) : Oc g n ≤ Oc g m := by
  induction h with
  | refl => exact Int.le_refl _
  | step _ ih => rcases ec_1 (g := g) with ⟨_, b⟩ | ⟨_, b⟩ <;> rw [b] <;> omega
theorem ac_m {n m : Nat} (h : n ≤ m) : Ac g sd F cc n ≤ Ac g sd F cc m := by
  induction h with
  | refl => exact Int.le_refl _
  | step _ ih => rcases ac_1 (g := g) (sd := sd) (F := F) (cc := cc) with ⟨_, b⟩ | ⟨_, _, b⟩ | ⟨_, _, b⟩ <;> rw [b] <;> omega
theorem ac_0 (n : Nat) : 0 ≤ Ac g sd F cc n := ac_m (n := 0) (Nat.zero_le n)
def Lc (F c0 : Int) (n : Nat) : Int := if (n : Int) ≤ c0 then 0 else if (n : Int) ≤ c0 + F then n - c0 else F
theorem ac_b0 (hF : 0 < F) (n : Nat) : Ac g sd F cc n + Kc g sd n ≤ n + 5 * Lc F (cc * F) n := by
  induction n with
  | zero => simp [Ac, Kc, Lc]; split <;> (try split) <;> omega
  | succ n ih =>
    have m1 : Lc F (cc * F) n ≤ Lc F (cc * F) (n + 1) := by unfold Lc; split <;> split <;> (try split) <;> (try split) <;> omega
    rcases ac_1 (g := g) (sd := sd) (F := F) (cc := cc) (n := n) with ⟨a, b⟩ | ⟨a, p, b⟩ | ⟨a, p, b⟩ <;> rcases kc_1 (g := g) (sd := sd) (n := n) with ⟨c, d⟩ | ⟨c, d⟩
    · omega
    · exact absurd a c
    · exact absurd c a
    · have q1 := Int.emod_nonneg (n : Int) (show F ≠ 0 by omega)
      have q2 := Int.emod_lt_of_pos (n : Int) hF
      have q3 := Int.mul_ediv_add_emod (n : Int) F
      rw [p, Int.mul_comm] at q3
      have : Lc F (cc * F) (n + 1) = Lc F (cc * F) n + 1 := by
        unfold Lc
        rw [if_neg (by omega), if_pos (by omega)]
        by_cases w : (n : Int) ≤ cc * F
        · rw [if_pos w]; omega
        · rw [if_neg w, if_pos (by omega)]; omega
      omega
    · exact absurd c a
    · omega
theorem ac_b (hF : 0 < F) (h8 : F ≤ 8) (n : Nat) : Ac g sd F cc n + Kc g sd n ≤ n + 40 := by
  have := ac_b0 (g := g) (sd := sd) (cc := cc) hF n
  have : Lc F (cc * F) n ≤ F := by unfold Lc; split <;> (try split) <;> omega
  omega
end
theorem kd_b (k : Int) (h0 : 0 ≤ k) (h1 : k ≤ 64) : k * (106 - k) + 12 * (64 - k) ≤ 2977 ∧ k * (106 - k) ≤ 2809 ∧ 0 ≤ k * (106 - k) := by
  have all : ∀ j : Fin 65, (j.val : Int) * (106 - (j.val : Int)) + 12 * (64 - (j.val : Int)) ≤ 2977 ∧ (j.val : Int) * (106 - (j.val : Int)) ≤ 2809 ∧ 0 ≤ (j.val : Int) * (106 - (j.val : Int)) := by decide
  have := all ⟨k.toNat, by omega⟩
  have e : ((k.toNat : Nat) : Int) = k := by omega
  simp only [e] at this
  exact this
