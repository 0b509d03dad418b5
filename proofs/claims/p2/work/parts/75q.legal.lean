/-! legal moves, by their squares -/
theorem fq_s {A : List (Nat × Nat)} {k w i : Nat} (x : XS k i = false) (s : ∀ k i, mS A k i = true → XS k i = true) : fS A [] k w i = false := by
  cases q : fS A [] k w i with
  | false => rfl
  | true =>
    have : mS A k i = true := by
      unfold fS at q
      simpa using q
    rw [s k i this] at x
    exact x
section
variable {ρ : Nat → Nat} {c : Cm} {C : Int32 → Int32 → Prop} {x0 b l lf lt F wb wl : Nat} {h o : Hp} {x3 x4 x5 : Int32}
theorem la_fr {S : Nat → Nat → Nat → Bool} (T : TH ρ c h) (rl : ρ l = 14) (rf : ρ lf = 66) (rt : ρ lt = 67) (f : Fr ρ (cat c S h) h o) (s1 : ∀ w, S 14 w 0 = false) (s2 : ∀ w i, S 66 w i = false) (s3 : ∀ w i, S 67 w i = false) (P : LA C l lf lt h) : LA C l lf lt o := by
  intro i hi
  rw [(fr_RI f rl (by decide) s1).1] at hi
  rw [(fr_RI f rf (by decide) (fun w => s2 w i)).1, (fr_RI f rt (by decide) (fun w => s3 w i)).1]
  exact P i hi
theorem la_set {x y : Int32} (T : TH ρ c h) (rl : ρ l = 14) (e1 : hR h l 1 = some lf) (e2 : hR h l 2 = some lt) (hy : 0 ≤ y.toInt ∧ y.toInt < (hI h l 0).toInt) (P : LA C l lf lt h) (e : sX13_set h l x l y = some o) : LA C l lf lt o ∧ hI o l 0 = hI h l 0 ∧ hR o l 1 = some lf ∧ hR o l 2 = some lt := by
  have r1 := rr T (thR T rl (i := 1) (k2 := 66) rfl (by decide)) e1
  have r2 := rr T (thR T rl (i := 2) (k2 := 67) rfl (by decide)) e2
  obtain ⟨lm, e3, r3⟩ := thR T rl (i := 3) (k2 := 68) rfl (by decide)
  obtain ⟨lb, e4, r4⟩ := thR T rl (i := 4) (k2 := 69) rfl (by decide)
  obtain ⟨lx, e5, r5⟩ := thR T rl (i := 5) (k2 := 70) rfl (by decide)
  obtain ⟨lk, e6, r6⟩ := thR T rl (i := 6) (k2 := 71) rfl (by decide)
  obtain ⟨lo, e7, r7⟩ := thR T rl (i := 7) (k2 := 72) rfl (by decide)
  obtain ⟨fr, z0, z⟩ := set_post rl r1 r2 r3 r4 r5 r6 r7 e1 e2 e3 e4 e5 e6 e7 e
  refine ⟨fun i hi => ?_, z0, by rw [fr.1]; exact e1, by rw [fr.1]; exact e2⟩
  rw [z0] at hi
  obtain ⟨w1, w2, _⟩ := z i
  rw [w1, w2]
  have cy := clamp_i hy.1
  by_cases w : i = x.toNatClampNeg
  · rw [if_pos w, if_pos w]
    exact P y.toNatClampNeg (by omega)
  · rw [if_neg w, if_neg w]
    exact P i hi
theorem la_cut {v : Int32} (rl : ρ l = 14) (rf : ρ lf = 66) (rt : ρ lt = 67) (w : o = wI h l 0 v) (le : v.toInt ≤ (hI h l 0).toInt) (P : LA C l lf lt h) : LA C l lf lt o := by
  intro i hi
  rw [w, r_I, if_pos ⟨rfl, rfl⟩] at hi
  rw [w, r_I, if_neg (ne_r rf rl (by decide)), r_I, if_neg (ne_r rt rl (by decide))]
  exact P i (by omega)
theorem lgq_110 (hF : 700000 ≤ F) (hO : pmO c wl [(66, 999), (67, 999), (68, 999), (69, 999), (70, 999), (71, 999), (72, 999), (14, 0)]) (ol : cw c l = wl) (rl : ρ l = 14) : ∀ (f : Nat) {h : Hp} {x3 x5 : Int32}, TH ρ c h → hR h l 1 = some lf → hR h l 2 = some lt → LA C l lf lt h → 0 ≤ x3.toInt → x3.toInt ≤ x5.toInt → x5.toInt ≤ (hI h l 0).toInt → (3001 - x5.toInt).toNat < f → Sat (sX15_legal_110 F f h l x3 x5) (fun o => TH ρ c o ∧ LA C l lf lt o) := by
  intro f
  induction f with
  | zero => intros; omega
  | succ f ih =>
    intro h x3 x5 T e1 e2 P a3 a5 b5 hf
    rw [sX15_legal_110]
    unfold sX15_legal_152 sX15_legal_141
    have m := thI T rl (k := 14) (i := 0) (lo := 0) (hi := 3000) rfl
    have m3 := m.2
    have r1 := rr T (thR T rl (i := 1) (k2 := 66) rfl (by decide)) e1
    have r2 := rr T (thR T rl (i := 2) (k2 := 67) rfl (by decide)) e2
    refine s_br (fun _ => ?_) (fun n1 => ?_)
    · refine s_hq (th_wI T rl (k := 14) (lo := 0) (hi := 3000) rfl ⟨a3, by omega⟩ (by decide) (by decide) (pm_o hO ol rfl)) (fun h2 T2 w2 => ?_)
      exact s_some ⟨T2, la_cut rl r1 r2 w2 (by omega) P⟩
    · have l5 := nle_i n1
      have i5 : Rg 0 2999 x5 := ⟨by omega, by omega⟩
      have i3 : Rg 0 2999 x3 := ⟨a3, by omega⟩
      have n5 := nc_s i5 (by decide)
      have n3 := nc_s i3 (by decide)
      obtain ⟨lx, ex, rx⟩ := thR T rl (i := 5) (k2 := 70) rfl (by decide)
      refine s_ref ex ?_
      refine s_gd (by rw [thN T rx (k := 70) (n := 3000) rfl (by decide)]; exact rg_inB i5 (by decide)) ?_
      refine s_br (fun _ => ?_) (fun _ => ?_)
      · refine s_q (fun y ey => ?_)
        have ey2 : y.toInt = x5.toInt + 1 := by rw [ey]; exact n5.2
        exact ih T e1 e2 P a3 (by omega) (by omega) (by omega)
      · refine s_dd (zX13_set hF (pmO_s hO rfl) ol ol T rl i3 rl i5) (fun o6 e6 T6 => ?_)
        obtain ⟨P6, k6, e16, e26⟩ := la_set T rl e1 e2 ⟨by omega, l5⟩ P e6
        refine s_q (fun v ev => s_q (fun y ey => ?_))
        have ey2 : y.toInt = x5.toInt + 1 := by rw [ey]; exact n5.2
        have ev2 : v.toInt = x3.toInt + 1 := by rw [ev]; exact n3.2
        exact ih T6 e16 e26 P6 (by omega) (by omega) (by rw [k6]; omega) (by omega)
theorem lgq_28 (hF : 700000 ≤ F) (hA : pmA c [(16, 23), (16, 24)]) (hB : pmO c 2528 [(62, 999), (63, 999), (64, 999), (65, 999), (13, 1), (13, 2), (13, 3), (13, 7)]) (hO : pmO c wl [(66, 999), (67, 999), (68, 999), (69, 999), (70, 999), (71, 999), (72, 999), (14, 0)]) (ob : cw c b = wb) (nb : ¬ wb = 2528) (ol : cw c l = wl) (r0 : ρ x0 = 16) (rb : ρ b = 13) (rl : ρ l = 14) : ∀ (f : Nat) {h : Hp} {x3 x4 x5 : Int32}, TH ρ c h → SqOk x0 h → MvB x0 b l h → hR h l 1 = some lf → hR h l 2 = some lt → LA C l lf lt h → 0 ≤ x3.toInt → x3.toInt ≤ x5.toInt → x5.toInt ≤ (hI h l 0).toInt → (3001 - x5.toInt).toNat < f → Sat (sX15_legal_28 F f h x0 b l x3 x4 x5) (fun o => TH ρ c o ∧ LA C l lf lt o) := by
  intro f
  induction f with
  | zero => intros; omega
  | succ f ih =>
    intro h x3 x4 x5 T sq mv e1 e2 P a3 a5 b5 hf
    rw [sX15_legal_28]
    unfold sX15_legal_152 sX15_legal_79 sX15_legal_73
    have m := thI T rl (k := 14) (i := 0) (lo := 0) (hi := 3000) rfl
    have m3 := m.2
    have r1 := rr T (thR T rl (i := 1) (k2 := 66) rfl (by decide)) e1
    have r2 := rr T (thR T rl (i := 2) (k2 := 67) rfl (by decide)) e2
    have z0 : (0 : Int32).toInt = 0 := rfl
    refine s_br (fun _ => ?_) (fun n1 => ?_)
    · refine s_hq (th_wI T rl (k := 14) (lo := 0) (hi := 3000) rfl ⟨a3, by omega⟩ (by decide) (by decide) (pm_o hO ol rfl)) (fun h2 T2 w2 => ?_)
      have P2 := la_cut rl r1 r2 w2 (by omega) P
      obtain ⟨R, eR, rR⟩ := thR T2 r0 (i := 4) (k2 := 15) rfl (by decide)
      refine s_ref eR ?_
      refine s_br (fun _ => s_some ⟨T2, P2⟩) (fun _ => ?_)
      refine s_br (fun _ => s_some ⟨T2, P2⟩) (fun _ => ?_)
      exact lgq_110 hF hO ol rl F T2 (by rw [w2]; exact e1) (by rw [w2]; exact e2) P2 (by decide) (Int.le_refl _) (by rw [z0]; exact (thI T2 rl (k := 14) (i := 0) (lo := 0) (hi := 3000) rfl).1) (by rw [z0]; omega)
    · have l5 := nle_i n1
      have i5 : Rg 0 2999 x5 := ⟨by omega, by omega⟩
      have i3 : Rg 0 2999 x3 := ⟨a3, by omega⟩
      have n5 := nc_s i5 (by decide)
      have n3 := nc_s i3 (by decide)
      refine s_cIf (S := fS [(16, 23), (16, 24)] [(2528, [(62, 999), (63, 999), (64, 999), (65, 999), (13, 1), (13, 2), (13, 3), (13, 7)])]) T (fs_sub hA (fs_c hB fs_n)) (zX15_isSafe hF fs_a (fs_o (.head _)) ob ol (th_in _ T) r0 rb rl i5 sq mv l5) (fun o6 T6 i6 f6 => ?_)
      have sq6 : SqOk x0 o6.2 := sq_fr T r0 f6 (fun _ => rfl) (fun _ => rfl) (fun _ => rfl) sq
      have mv6 : MvB x0 b l o6.2 := mv_fr T r0 rb rl f6 (fun _ => rfl) (fun _ => rfl) rfl (by rw [ob]; exact fs_cf (Or.inr nb) (fs_nf rfl)) rfl (by rw [ob]; intro _; exact fs_cf (Or.inr nb) (fs_nf rfl)) (by rw [ob]; intro _; exact fs_cf (Or.inr nb) (fs_nf rfl)) rfl rfl rfl rfl rfl rfl (fun _ => rfl) (fun _ => rfl) (fun _ => rfl) (fun _ => rfl) (fun _ => rfl) mv
      have P6 : LA C l lf lt o6.2 := la_fr T rl r1 r2 f6 (fun _ => rfl) (fun _ _ => rfl) (fun _ _ => rfl) P
      have k6 : hI o6.2 l 0 = hI h l 0 := (fr_RI f6 rl (by decide) (fun _ => rfl)).1
      have e16 : hR o6.2 l 1 = some lf := by rw [(fr_RI f6 rl (by decide) (fun _ => rfl)).2.2]; exact e1
      have e26 : hR o6.2 l 2 = some lt := by rw [(fr_RI f6 rl (by decide) (fun _ => rfl)).2.2]; exact e2
      refine s_br (fun _ => ?_) (fun _ => ?_)
      · refine s_q (fun y ey => ?_)
        have ey2 : y.toInt = x5.toInt + 1 := by rw [ey]; exact n5.2
        exact ih T6 sq6 mv6 e16 e26 P6 a3 (by omega) (by rw [k6]; omega) (by omega)
      · refine s_cVfq (S := fS [] [(wl, [(66, 999), (67, 999), (68, 999), (69, 999), (70, 999), (71, 999), (72, 999)])]) T6 (fs_sub pmA_n (fs_c (pmO_s hO rfl) fs_n)) (s_weq (zX13_set hF (fs_o (.head _)) ol ol (th_in _ T6) rl i3 rl i5)) (fun o8 T8 f8 e8 => ?_)
        obtain ⟨P8, k8, e18, e28⟩ := la_set T6 rl e16 e26 ⟨by omega, by rw [k6]; exact l5⟩ P6 e8
        have mv8 := mv_set T6 r0 rb rl ⟨by omega, by rw [k6]; exact l5⟩ mv6 e8
        have sq8 : SqOk x0 o8 := sq_fr T6 r0 f8 (fun _ => rfl) (fun _ => rfl) (fun _ => rfl) sq6
        obtain ⟨lx, ex, rx⟩ := thR T8 rl (i := 5) (k2 := 70) rfl (by decide)
        refine s_ref ex ?_
        refine s_gd (by rw [thN T8 rx (k := 70) (n := 3000) rfl (by decide)]; exact rg_inB i3 (by decide)) ?_
        have fin : ∀ (t0 : Int32), Sat (nm (x4 ||| t0) fun v_1 => nm (x3 + (1 : Int32)) fun v_2 => nm (x5 + (1 : Int32)) fun v_3 => sX15_legal_28 F f o8 x0 b l v_2 v_1 v_3) (fun o => TH ρ c o ∧ LA C l lf lt o) := fun t0 => by
          refine s_q (fun u eu => s_q (fun v ev => s_q (fun y ey => ?_)))
          have ey2 : y.toInt = x5.toInt + 1 := by rw [ey]; exact n5.2
          have ev2 : v.toInt = x3.toInt + 1 := by rw [ev]; exact n3.2
          exact ih T8 sq8 mv8 e18 e28 P8 (by omega) (by omega) (by rw [k8, k6]; omega) (by omega)
        exact s_br (fun _ => fin _) (fun _ => fin _)
/-- legal: all its moves are so, where all that are tried are -/
theorem legal_q (hF : 700000 ≤ F) (hA : pmA c [(87, 999), (88, 999), (89, 999), (16, 23), (16, 24), (16, 29)]) (hB : pmO c 2528 [(62, 999), (63, 999), (64, 999), (65, 999), (13, 1), (13, 2), (13, 3), (13, 7)]) (hO : pmO c wl [(66, 999), (67, 999), (68, 999), (69, 999), (70, 999), (71, 999), (72, 999), (14, 0)]) (ob : cw c b = wb) (nb : ¬ wb = 2528) (ol : cw c l = wl) (T : TH ρ c h) (r0 : ρ x0 = 16) (rb : ρ b = 13) (rl : ρ l = 14) (sq : SqOk x0 h) (pe : PE b h) (e1 : hR h l 1 = some lf) (e2 : hR h l 2 = some lt) (K : ∀ g o, Fq ρ h g → sX15_tryAll F g x0 b l = some o → LA C l lf lt o) : Sat (sX15_legal F h x0 b l) (fun o => TH ρ c o ∧ LA C l lf lt o) := by
  have r1 := rr T (thR T rl (i := 1) (k2 := 66) rfl (by decide)) e1
  have r2 := rr T (thR T rl (i := 2) (k2 := 67) rfl (by decide)) e2
  unfold sX15_legal
  refine s_hq (th_wI T rl (k := 14) (lo := 0) (hi := 3000) rfl (rg_m (rg_b rfl : Rg 0 0 (0 : Int32)) (by decide)) (by decide) (by decide) (pm_o hO ol rfl)) (fun h1 T1 w1 => ?_)
  have q1 : Fq ρ h h1 := by rw [w1]; exact fq_w fq_r rl
  have f1 := fr1Io (c := c) (B := [(14, 0)]) rl ol rfl w1
  refine s_cIf (S := fS [(16, 29)] []) T1 (fs_sub (pmA_s hA rfl) fs_n) (zX15_early hF fs_a ob (th_in _ T1) r0 rb) (fun o2 T2 i2 f2 => ?_)
  have q2 : Fq ρ h o2.2 := fq_t q1 (fun a i n x => f2.1 a i n (fq_s x (fun k i m => by
    have : k = 16 ∧ i = 29 := by
      unfold mS at m
      simp at m
      exact ⟨m.1.symm, m.2.symm⟩
    rw [this.1, this.2]
    rfl)))
  refine s_br (fun _ => ?_) (fun _ => ?_)
  · have pe2 : PE b o2.2 := pe_fr T1 rb f2 rfl rfl rfl (fun _ => rfl) (fun _ => rfl) (pe_fr T rb f1 rfl rfl rfl (fun _ => rfl) (fun _ => rfl) pe)
    refine s_cVfq (S := fS [(87, 999), (88, 999), (89, 999), (16, 23), (16, 24)] [(wl, [(66, 999), (67, 999), (68, 999), (69, 999), (70, 999), (71, 999), (72, 999), (14, 0)])]) T2 (fs_sub (pmA_s hA rfl) (fs_c hO fs_n)) (s_weq2 (zX15_tryAll hF fs_a (fs_o (.head _)) ob ol (th_in _ T2) r0 rb rl pe2)) (fun o4 T4 f4 w4 => ?_)
    have P4 := K o2.2 o4 q2 w4.2
    have sq4 : SqOk x0 o4 := sq_fr T2 r0 f4 (fun _ => rfl) (fun _ => rfl) (fun _ => rfl) (sq_fr T1 r0 f2 (fun _ => rfl) (fun _ => rfl) (fun _ => rfl) (sq_fr T r0 f1 (fun _ => rfl) (fun _ => rfl) (fun _ => rfl) sq))
    have kR : ∀ {i : Nat}, (i = 1 ∨ i = 2) → hR o4 l i = hR h l i := fun {i} w => by
      have a : hR o2.2 l i = hR h l i := fqE i q2 rl (by decide) (by rcases w with w | w <;> subst w <;> rfl)
      have z : hR o4 l i = hR o2.2 l i := by
        rcases w with w | w <;> subst w
        · exact (fr_RI f4 rl (by decide) (fun _ => rfl)).2.2
        · exact (fr_RI f4 rl (by decide) (fun _ => rfl)).2.2
      exact z.trans a
    have z0 : (0 : Int32).toInt = 0 := rfl
    exact lgq_28 hF (pmA_s hA rfl) hB hO ob nb ol r0 rb rl F T4 sq4 w4.1 (by rw [kR (Or.inl rfl)]; exact e1) (by rw [kR (Or.inr rfl)]; exact e2) P4 (by decide) (Int.le_refl _) (by rw [z0]; exact (thI T4 rl (k := 14) (i := 0) (lo := 0) (hi := 3000) rfl).1) (by rw [z0]; omega)
  · refine s_some ⟨T2, la_fr T1 rl r1 r2 f2 (fun _ => rfl) (fun _ _ => rfl) (fun _ _ => rfl) (fun i hi => ?_)⟩
    rw [w1, r_I, if_pos ⟨rfl, rfl⟩] at hi
    exact absurd hi (by show ¬ (i : Int) < 0; omega)
end
