section
/-! legal moves fit their board -/
section
variable {ρ : Nat → Nat} {c : Cm} {gg : Nat → Int32} {sd : Int32} {np : Int} {x0 b l lf lt lx lk lo F wb wl : Nat} {h o : Hp} {x3 x4 x5 : Int32}
def LR (ρ : Nat → Nat) (l lf lt lx lk lo : Nat) (h : Hp) : Prop := (hR h l 1 = some lf ∧ hR h l 2 = some lt ∧ hR h l 5 = some lx ∧ hR h l 6 = some lk ∧ hR h l 7 = some lo)
theorem lr_r (T : TH ρ c h) (rl : ρ l = 14) (E : LR ρ l lf lt lx lk lo h) : ρ lf = 66 ∧ ρ lt = 67 ∧ ρ lx = 70 ∧ ρ lk = 71 ∧ ρ lo = 72 := by
  obtain ⟨e1, e2, e5, e6, e7⟩ := E
  exact ⟨rr T (thR T rl (i := 1) (k2 := 66) rfl (by decide)) e1, rr T (thR T rl (i := 2) (k2 := 67) rfl (by decide)) e2, rr T (thR T rl (i := 5) (k2 := 70) rfl (by decide)) e5, rr T (thR T rl (i := 6) (k2 := 71) rfl (by decide)) e6, rr T (thR T rl (i := 7) (k2 := 72) rfl (by decide)) e7⟩
theorem l2_fr {S : Nat → Nat → Nat → Bool} (T : TH ρ c h) (rl : ρ l = 14) (E : LR ρ l lf lt lx lk lo h) (f : Fr ρ (cat c S h) h o) (s1 : ∀ w i, i < 8 → S 14 w i = false) (s2 : ∀ k w i, 66 ≤ k → k ≤ 72 → S k w i = false) (P : L2 l lf lt lx lk lo gg sd np h) : L2 l lf lt lx lk lo gg sd np o ∧ LR ρ l lf lt lx lk lo o ∧ hI o l 0 = hI h l 0 := by
  obtain ⟨q1, q2, q5, q6, q7⟩ := lr_r T rl E
  have k0 : hI o l 0 = hI h l 0 := (fr_RI f rl (by decide) (fun w => s1 w 0 (by decide))).1
  have kR : ∀ {i : Nat}, i < 8 → hR o l i = hR h l i := fun {i} hi => (fr_RI f rl (by decide) (fun w => s1 w i hi)).2.2
  obtain ⟨e1, e2, e5, e6, e7⟩ := E
  refine ⟨fun i hi => ?_, ⟨by rw [kR (by decide)]; exact e1, by rw [kR (by decide)]; exact e2, by rw [kR (by decide)]; exact e5, by rw [kR (by decide)]; exact e6, by rw [kR (by decide)]; exact e7⟩, k0⟩
  rw [k0] at hi
  rw [(fr_RI f q1 (by decide) (fun w => s2 66 w i (by decide) (by decide))).1, (fr_RI f q2 (by decide) (fun w => s2 67 w i (by decide) (by decide))).1, (fr_RI f q5 (by decide) (fun w => s2 70 w i (by decide) (by decide))).1, (fr_RI f q6 (by decide) (fun w => s2 71 w i (by decide) (by decide))).1, (fr_RI f q7 (by decide) (fun w => s2 72 w i (by decide) (by decide))).1]
  exact P i hi
theorem set_lx {lm lb : Nat} {x y : Int32} (r_l : ρ l = 14) (r_lf : ρ lf = 66) (r_lt : ρ lt = 67) (r_lm : ρ lm = 68) (r_lb : ρ lb = 69) (r_lx : ρ lx = 70) (r_lk : ρ lk = 71) (r_lo : ρ lo = 72) (e_lf : hR h l 1 = some lf) (e_lt : hR h l 2 = some lt) (e_lm : hR h l 3 = some lm) (e_lb : hR h l 4 = some lb) (e_lx : hR h l 5 = some lx) (e_lk : hR h l 6 = some lk) (e_lo : hR h l 7 = some lo) (e : sX13_set h l x l y = some o) (i : Nat) : hI o lx i = if i = x.toNatClampNeg then hI h lx y.toNatClampNeg else hI h lx i := by
  have ne : ∀ {a d p q : Nat}, ρ a = p → ρ d = q → p ≠ q → ¬ a = d := fun ha hd hpq z => hpq (by rw [← ha, z]; exact hd)
  unfold sX13_set at e
  simp only [nm] at e
  replace e := cl_s e; obtain ⟨r1, w1, e⟩ := e
  have u1 : r1 = lf := r_eq e_lf w1
  subst u1
  replace e := cl_s e; obtain ⟨_, _, e⟩ := e
  iterate 2 replace e := (gd_s e).2
  replace e := cl_s e; obtain ⟨r2, w2, e⟩ := e
  have u2 : r2 = lt := r_eq e_lt w2
  subst u2
  replace e := cl_s e; obtain ⟨_, _, e⟩ := e
  iterate 2 replace e := (gd_s e).2
  replace e := cl_s e; obtain ⟨r3, w3, e⟩ := e
  have u3 : r3 = lm := r_eq e_lm w3
  subst u3
  replace e := cl_s e; obtain ⟨_, _, e⟩ := e
  iterate 2 replace e := (gd_s e).2
  replace e := cl_s e; obtain ⟨r4, w4, e⟩ := e
  have u4 : r4 = lb := r_eq e_lb w4
  subst u4
  replace e := cl_s e; obtain ⟨_, _, e⟩ := e
  iterate 2 replace e := (gd_s e).2
  replace e := cl_s e; obtain ⟨r5, w5, e⟩ := e
  have u5 : r5 = lx := r_eq e_lx w5
  subst u5
  replace e := cl_s e; obtain ⟨r5', w5', e⟩ := e
  have u5' : r5' = r5 := r_eq e_lx w5'
  subst u5'
  iterate 2 replace e := (gd_s e).2
  replace e := cl_s e; obtain ⟨r6, w6, e⟩ := e
  have u6 : r6 = lk := r_eq e_lk w6
  subst u6
  replace e := cl_s e; obtain ⟨_, _, e⟩ := e
  iterate 2 replace e := (gd_s e).2
  replace e := cl_s e; obtain ⟨r7, w7, e⟩ := e
  have u7 : r7 = lo := r_eq e_lo w7
  subst u7
  replace e := cl_s e; obtain ⟨_, _, e⟩ := e
  iterate 2 replace e := (gd_s e).2
  rw [← Option.some.inj e]
  rw [rI_a (ne r_lx r_lo (by decide)), rI_a (ne r_lx r_lk (by decide)), r_I]
  by_cases z : i = x.toNatClampNeg
  · rw [if_pos ⟨rfl, z⟩, if_pos z, rI_a (ne r_lx r_lb (by decide)), rI_a (ne r_lx r_lm (by decide)), rI_a (ne r_lx r_lt (by decide)), rI_a (ne r_lx r_lf (by decide))]
  · rw [if_neg (fun w => z w.2), if_neg z, rI_a (ne r_lx r_lb (by decide)), rI_a (ne r_lx r_lm (by decide)), rI_a (ne r_lx r_lt (by decide)), rI_a (ne r_lx r_lf (by decide))]
theorem l2_set {x y : Int32} (T : TH ρ c h) (rl : ρ l = 14) (E : LR ρ l lf lt lx lk lo h) (hy : 0 ≤ y.toInt ∧ y.toInt < (hI h l 0).toInt) (P : L2 l lf lt lx lk lo gg sd np h) (e : sX13_set h l x l y = some o) : L2 l lf lt lx lk lo gg sd np o ∧ hI o l 0 = hI h l 0 ∧ LR ρ l lf lt lx lk lo o := by
  obtain ⟨r1, r2, r5, r6, r7⟩ := lr_r T rl E
  obtain ⟨e1, e2, e5, e6, e7⟩ := E
  obtain ⟨lm, e3, r3⟩ := thR T rl (i := 3) (k2 := 68) rfl (by decide)
  obtain ⟨lb, e4, r4⟩ := thR T rl (i := 4) (k2 := 69) rfl (by decide)
  obtain ⟨fr, z0, z⟩ := set_post rl r1 r2 r3 r4 r5 r6 r7 e1 e2 e3 e4 e5 e6 e7 e
  have zx := set_lx rl r1 r2 r3 r4 r5 r6 r7 e1 e2 e3 e4 e5 e6 e7 e
  refine ⟨fun i hi => ?_, z0, ⟨by rw [fr.1]; exact e1, by rw [fr.1]; exact e2, by rw [fr.1]; exact e5, by rw [fr.1]; exact e6, by rw [fr.1]; exact e7⟩⟩
  rw [z0] at hi
  obtain ⟨w1, w2, _, w6, w7⟩ := z i
  rw [w1, w2, w6, w7, zx i]
  have cy := clamp_i hy.1
  by_cases w : i = x.toNatClampNeg
  · rw [if_pos w, if_pos w, if_pos w, if_pos w, if_pos w]
    exact P y.toNatClampNeg (by omega)
  · rw [if_neg w, if_neg w, if_neg w, if_neg w, if_neg w]
    exact P i hi
theorem l2_cut {v : Int32} (T : TH ρ c h) (rl : ρ l = 14) (E : LR ρ l lf lt lx lk lo h) (w : o = wI h l 0 v) (le : v.toInt ≤ (hI h l 0).toInt) (P : L2 l lf lt lx lk lo gg sd np h) : L2 l lf lt lx lk lo gg sd np o ∧ LR ρ l lf lt lx lk lo o := by
  obtain ⟨r1, r2, r5, r6, r7⟩ := lr_r T rl E
  refine ⟨fun i hi => ?_, by rw [w]; exact E⟩
  rw [w, r_I, if_pos ⟨rfl, rfl⟩] at hi
  rw [w, r_I, if_neg (ne_r r1 rl (by decide)), r_I, if_neg (ne_r r2 rl (by decide)), r_I, if_neg (ne_r r5 rl (by decide)), r_I, if_neg (ne_r r6 rl (by decide)), r_I, if_neg (ne_r r7 rl (by decide))]
  exact P i (by omega)
theorem lgz_110 (hF : 700000 ≤ F) (hO : pmO c wl [(66, 999), (67, 999), (68, 999), (69, 999), (70, 999), (71, 999), (72, 999), (14, 0)]) (ol : cw c l = wl) (rl : ρ l = 14) : ∀ (f : Nat) {h : Hp} {x3 x5 : Int32}, TH ρ c h → LR ρ l lf lt lx lk lo h → L2 l lf lt lx lk lo gg sd np h → 0 ≤ x3.toInt → x3.toInt ≤ x5.toInt → x5.toInt ≤ (hI h l 0).toInt → (3001 - x5.toInt).toNat < f → Sat (sX15_legal_110 F f h l x3 x5) (fun o => TH ρ c o ∧ L2 l lf lt lx lk lo gg sd np o) := by
  intro f
  induction f with
  | zero => intros; omega
  | succ f ih =>
    intro h x3 x5 T E P a3 a5 b5 hf
    rw [sX15_legal_110]
    unfold sX15_legal_152 sX15_legal_141
    have m := thI T rl (k := 14) (i := 0) (lo := 0) (hi := 3000) rfl
    have m3 := m.2
    refine s_br (fun _ => ?_) (fun n1 => ?_)
    · refine s_hq (th_wI T rl (k := 14) (lo := 0) (hi := 3000) rfl ⟨a3, by omega⟩ (by decide) (by decide) (pm_o hO ol rfl)) (fun h2 T2 w2 => ?_)
      exact s_some ⟨T2, (l2_cut T rl E w2 (by omega) P).1⟩
    · have l5 := nle_i n1
      have i5 : Rg 0 2999 x5 := ⟨by omega, by omega⟩
      have i3 : Rg 0 2999 x3 := ⟨a3, by omega⟩
      have n5 := nc_s i5 (by decide)
      have n3 := nc_s i3 (by decide)
      obtain ⟨_, ex, rx⟩ := thR T rl (i := 5) (k2 := 70) rfl (by decide)
      refine s_ref ex ?_
      refine s_gd (by rw [thN T rx (k := 70) (n := 3000) rfl (by decide)]; exact rg_inB i5 (by decide)) ?_
      refine s_br (fun _ => ?_) (fun _ => ?_)
      · refine s_q (fun y ey => ?_)
        have ey2 : y.toInt = x5.toInt + 1 := by rw [ey]; exact n5.2
        exact ih T E P a3 (by omega) (by omega) (by omega)
      · refine s_dd (zX13_set hF (pmO_s hO rfl) ol ol T rl i3 rl i5) (fun o6 e6 T6 => ?_)
        obtain ⟨P6, k6, E6⟩ := l2_set T rl E ⟨by omega, l5⟩ P e6
        refine s_q (fun v ev => s_q (fun y ey => ?_))
        have ey2 : y.toInt = x5.toInt + 1 := by rw [ey]; exact n5.2
        have ev2 : v.toInt = x3.toInt + 1 := by rw [ev]; exact n3.2
        exact ih T6 E6 P6 (by omega) (by omega) (by rw [k6]; omega) (by omega)
theorem lgz_28 (hF : 700000 ≤ F) (hA : pmA c [(16, 23), (16, 24)]) (hB : pmO c 2528 [(62, 999), (63, 999), (64, 999), (65, 999), (13, 1), (13, 2), (13, 3), (13, 7)]) (hO : pmO c wl [(66, 999), (67, 999), (68, 999), (69, 999), (70, 999), (71, 999), (72, 999), (14, 0)]) (ob : cw c b = wb) (nb : ¬ wb = 2528) (ol : cw c l = wl) (r0 : ρ x0 = 16) (rb : ρ b = 13) (rl : ρ l = 14) : ∀ (f : Nat) {h : Hp} {x3 x4 x5 : Int32}, TH ρ c h → SqOk x0 h → MvB x0 b l h → LR ρ l lf lt lx lk lo h → L2 l lf lt lx lk lo gg sd np h → 0 ≤ x3.toInt → x3.toInt ≤ x5.toInt → x5.toInt ≤ (hI h l 0).toInt → (3001 - x5.toInt).toNat < f → Sat (sX15_legal_28 F f h x0 b l x3 x4 x5) (fun o => TH ρ c o ∧ L2 l lf lt lx lk lo gg sd np o) := by
  intro f
  induction f with
  | zero => intros; omega
  | succ f ih =>
    intro h x3 x4 x5 T sq mv E P a3 a5 b5 hf
    rw [sX15_legal_28]
    unfold sX15_legal_152 sX15_legal_79 sX15_legal_73
    have m := thI T rl (k := 14) (i := 0) (lo := 0) (hi := 3000) rfl
    have m3 := m.2
    have z0 : (0 : Int32).toInt = 0 := rfl
    refine s_br (fun _ => ?_) (fun n1 => ?_)
    · refine s_hq (th_wI T rl (k := 14) (lo := 0) (hi := 3000) rfl ⟨a3, by omega⟩ (by decide) (by decide) (pm_o hO ol rfl)) (fun h2 T2 w2 => ?_)
      obtain ⟨P2, E2'⟩ := l2_cut T rl E w2 (by omega) P
      obtain ⟨R, eR, rR⟩ := thR T2 r0 (i := 4) (k2 := 15) rfl (by decide)
      refine s_ref eR ?_
      refine s_br (fun _ => s_some ⟨T2, P2⟩) (fun _ => ?_)
      refine s_br (fun _ => s_some ⟨T2, P2⟩) (fun _ => ?_)
      exact lgz_110 hF hO ol rl F T2 E2' P2 (by decide) (Int.le_refl _) (by rw [z0]; exact (thI T2 rl (k := 14) (i := 0) (lo := 0) (hi := 3000) rfl).1) (by rw [z0]; omega)
    · have l5 := nle_i n1
      have i5 : Rg 0 2999 x5 := ⟨by omega, by omega⟩
      have i3 : Rg 0 2999 x3 := ⟨a3, by omega⟩
      have n5 := nc_s i5 (by decide)
      have n3 := nc_s i3 (by decide)
      refine s_cIf (S := fS [(16, 23), (16, 24)] [(2528, [(62, 999), (63, 999), (64, 999), (65, 999), (13, 1), (13, 2), (13, 3), (13, 7)])]) T (fs_sub hA (fs_c hB fs_n)) (zX15_isSafe hF fs_a (fs_o (.head _)) ob ol (th_in _ T) r0 rb rl i5 sq mv l5) (fun o6 T6 i6 f6 => ?_)
      have sq6 : SqOk x0 o6.2 := sq_fr T r0 f6 (fun _ => rfl) (fun _ => rfl) (fun _ => rfl) sq
      have mv6 : MvB x0 b l o6.2 := mv_fr T r0 rb rl f6 (fun _ => rfl) (fun _ => rfl) rfl (by rw [ob]; exact fs_cf (Or.inr nb) (fs_nf rfl)) rfl (by rw [ob]; intro _; exact fs_cf (Or.inr nb) (fs_nf rfl)) (by rw [ob]; intro _; exact fs_cf (Or.inr nb) (fs_nf rfl)) rfl rfl rfl rfl rfl rfl (fun _ => rfl) (fun _ => rfl) (fun _ => rfl) (fun _ => rfl) (fun _ => rfl) mv
      obtain ⟨P6, E6, k6⟩ := l2_fr T rl E f6 (fun w i hi => by
        match i, hi with
        | 0, _ | 1, _ | 2, _ | 3, _ | 4, _ | 5, _ | 6, _ | 7, _ => rfl) (fun k w i a b => by
        have : k = 66 ∨ k = 67 ∨ k = 68 ∨ k = 69 ∨ k = 70 ∨ k = 71 ∨ k = 72 := by omega
        rcases this with z | z | z | z | z | z | z <;> subst z <;> rfl) P
      refine s_br (fun _ => ?_) (fun _ => ?_)
      · refine s_q (fun y ey => ?_)
        have ey2 : y.toInt = x5.toInt + 1 := by rw [ey]; exact n5.2
        exact ih T6 sq6 mv6 E6 P6 a3 (by omega) (by rw [k6]; omega) (by omega)
      · refine s_cVfq (S := fS [] [(wl, [(66, 999), (67, 999), (68, 999), (69, 999), (70, 999), (71, 999), (72, 999)])]) T6 (fs_sub pmA_n (fs_c (pmO_s hO rfl) fs_n)) (s_weq (zX13_set hF (fs_o (.head _)) ol ol (th_in _ T6) rl i3 rl i5)) (fun o8 T8 f8 e8 => ?_)
        obtain ⟨P8, k8, E8⟩ := l2_set T6 rl E6 ⟨by omega, by rw [k6]; exact l5⟩ P6 e8
        have mv8 := mv_set T6 r0 rb rl ⟨by omega, by rw [k6]; exact l5⟩ mv6 e8
        have sq8 : SqOk x0 o8 := sq_fr T6 r0 f8 (fun _ => rfl) (fun _ => rfl) (fun _ => rfl) sq6
        obtain ⟨_, ex, rx⟩ := thR T8 rl (i := 5) (k2 := 70) rfl (by decide)
        refine s_ref ex ?_
        refine s_gd (by rw [thN T8 rx (k := 70) (n := 3000) rfl (by decide)]; exact rg_inB i3 (by decide)) ?_
        have fin : ∀ (t0 : Int32), Sat (nm (x4 ||| t0) fun v_1 => nm (x3 + (1 : Int32)) fun v_2 => nm (x5 + (1 : Int32)) fun v_3 => sX15_legal_28 F f o8 x0 b l v_2 v_1 v_3) (fun o => TH ρ c o ∧ L2 l lf lt lx lk lo gg sd np o) := fun t0 => by
          refine s_q (fun u eu => s_q (fun v ev => s_q (fun y ey => ?_)))
          have ey2 : y.toInt = x5.toInt + 1 := by rw [ey]; exact n5.2
          have ev2 : v.toInt = x3.toInt + 1 := by rw [ev]; exact n3.2
          exact ih T8 sq8 mv8 E8 P8 (by omega) (by omega) (by rw [k8, k6]; omega) (by omega)
        exact s_br (fun _ => fin _) (fun _ => fin _)
theorem tz_of {M : Nat} (T : TH ρ c h) (r0 : ρ x0 = 16) (rb : ρ b = 13) (rl : ρ l = 14) (pe : PE b h) (E : LR ρ l lf lt lx lk lo h) (eM : hR h b 0 = some M) (P : L2 l lf lt lx lk lo (hI h M) (hI h b 1) (hI h b 3).toInt h) : ∃ S Fa Ct P' R A B Ri lm lb, TZ ρ x0 l b S Fa Ct M P' R A B Ri lf lt lm lb lx lk lo (hI h M) (hI h b 1) (hI h b 3).toInt h := by
  obtain ⟨r1, r2, r5, r6, r7⟩ := lr_r T rl E
  obtain ⟨e1, e2, e5, e6, e7⟩ := E
  obtain ⟨lm, e3, r3⟩ := thR T rl (i := 3) (k2 := 68) rfl (by decide)
  obtain ⟨lb, e4, r4⟩ := thR T rl (i := 4) (k2 := 69) rfl (by decide)
  obtain ⟨S, eS, rS⟩ := thR T r0 (i := 25) (k2 := 87) rfl (by decide)
  obtain ⟨Fa, eFa, rFa⟩ := thR T r0 (i := 26) (k2 := 88) rfl (by decide)
  obtain ⟨Ct, eCt, rCt⟩ := thR T r0 (i := 27) (k2 := 89) rfl (by decide)
  obtain ⟨R, eR, rR⟩ := thR T r0 (i := 4) (k2 := 15) rfl (by decide)
  obtain ⟨A, eA, rA⟩ := thR T rR (i := 6) (k2 := 76) rfl (by decide)
  obtain ⟨B, eB, rB⟩ := thR T rR (i := 7) (k2 := 77) rfl (by decide)
  obtain ⟨Ri, eRi, rRi⟩ := thR T rR (i := 8) (k2 := 78) rfl (by decide)
  obtain ⟨P', eP, rP⟩ := thR T rb (i := 4) (k2 := 63) rfl (by decide)
  have rM := rr T (thR T rb (i := 0) (k2 := 62) rfl (by decide)) eM
  exact ⟨S, Fa, Ct, P', R, A, B, Ri, lm, lb, ⟨⟨eS, eFa, eCt, eM, eP, eR, eA, eB, eRi⟩, ⟨r0, rb, rS, rFa, rCt, rM, rP, rR, rA, rB, rRi⟩, fun i => thI T rA rfl, fun i => thI T rB rfl, thI T rb rfl, rfl, pe, fun i => thI T rRi rfl⟩, ⟨⟨e1, e2, e3, e4, e5, e6, e7⟩, ⟨rl, r1, r2, r3, r4, r5, r6, r7⟩, thN T r1 rfl (by decide)⟩, P, fun _ => rfl, rfl, (thI T r0 (i := 13) (lo := 9) (hi := 64) rfl).2⟩
/-- legal: all its moves fit the board -/
theorem legal_z {M : Nat} (hF : 700000 ≤ F) (hA : pmA c [(87, 999), (88, 999), (89, 999), (16, 23), (16, 24), (16, 29)]) (hB : pmO c 2528 [(62, 999), (63, 999), (64, 999), (65, 999), (13, 1), (13, 2), (13, 3), (13, 7)]) (hO : pmO c wl [(66, 999), (67, 999), (68, 999), (69, 999), (70, 999), (71, 999), (72, 999), (14, 0)]) (ob : cw c b = wb) (nb : ¬ wb = 2528) (ol : cw c l = wl) (T : TH ρ c h) (r0 : ρ x0 = 16) (rb : ρ b = 13) (rl : ρ l = 14) (sq : SqOk x0 h) (pe : PE b h) (E : LR ρ l lf lt lx lk lo h) (eM : hR h b 0 = some M) : Sat (sX15_legal F h x0 b l) (fun o => TH ρ c o ∧ L2 l lf lt lx lk lo (hI h M) (hI h b 1) (hI h b 3).toInt o) := by
  have rM := rr T (thR T rb (i := 0) (k2 := 62) rfl (by decide)) eM
  unfold sX15_legal
  refine s_hq (th_wI T rl (k := 14) (lo := 0) (hi := 3000) rfl (rg_m (rg_b rfl : Rg 0 0 (0 : Int32)) (by decide)) (by decide) (by decide) (pm_o hO ol rfl)) (fun h1 T1 w1 => ?_)
  have f1 := fr1Io (c := c) (B := [(14, 0)]) rl ol rfl w1
  have E1 : LR ρ l lf lt lx lk lo h1 := by rw [w1]; exact E
  have z1 : hI h1 l 0 = 0 := by rw [w1, r_I, if_pos ⟨rfl, rfl⟩]
  have n1 : ∀ {gg : Nat → Int32} {sd : Int32} {np : Int} {g : Hp}, hI g l 0 = 0 → L2 l lf lt lx lk lo gg sd np g := fun {gg sd np g} z i hi => by
    rw [z] at hi
    exact absurd hi (by show ¬ (i : Int) < 0; omega)
  have kM1 : ∀ i, hI h1 M i = hI h M i := fun i => by rw [w1, r_I, if_neg (ne_r rM rl (by decide))]
  have kb1 : ∀ i, hI h1 b i = hI h b i := fun i => by rw [w1, r_I, if_neg (ne_r rb rl (by decide))]
  refine s_cIf (S := fS [(16, 29)] []) T1 (fs_sub (pmA_s hA rfl) fs_n) (zX15_early hF fs_a ob (th_in _ T1) r0 rb) (fun o2 T2 i2 f2 => ?_)
  have kM2 : ∀ i, hI o2.2 M i = hI h M i := fun i => by rw [(fr_RI f2 rM (by decide) (fun _ => rfl)).1]; exact kM1 i
  have kb2 : ∀ i, hI o2.2 b i = hI h b i := fun i => by rw [(fr_RI f2 rb (by decide) (fun _ => rfl)).1]; exact kb1 i
  have kl2 : hI o2.2 l 0 = 0 := by rw [(fr_RI f2 rl (by decide) (fun _ => rfl)).1]; exact z1
  have kR2 : ∀ i, hR o2.2 l i = hR h l i := fun i => by rw [(fr_RI f2 rl (by decide) (fun _ => rfl)).2.2, w1]; rfl
  have eM2 : hR o2.2 b 0 = some M := by rw [(fr_RI f2 rb (by decide) (fun _ => rfl)).2.2, w1]; exact eM
  have E2' : LR ρ l lf lt lx lk lo o2.2 := by
    obtain ⟨u1, u2, u5, u6, u7⟩ := E
    exact ⟨by rw [kR2]; exact u1, by rw [kR2]; exact u2, by rw [kR2]; exact u5, by rw [kR2]; exact u6, by rw [kR2]; exact u7⟩
  refine s_br (fun _ => ?_) (fun _ => ?_)
  · have pe2 : PE b o2.2 := pe_fr T1 rb f2 rfl rfl rfl (fun _ => rfl) (fun _ => rfl) (pe_fr T rb f1 rfl rfl rfl (fun _ => rfl) (fun _ => rfl) pe)
    refine s_cVfq (S := fS [(87, 999), (88, 999), (89, 999), (16, 23), (16, 24)] [(wl, [(66, 999), (67, 999), (68, 999), (69, 999), (70, 999), (71, 999), (72, 999), (14, 0)])]) T2 (fs_sub (pmA_s hA rfl) (fs_c hO fs_n)) (s_weq2 (zX15_tryAll hF fs_a (fs_o (.head _)) ob ol (th_in _ T2) r0 rb rl pe2)) (fun o4 T4 f4 w4 => ?_)
    obtain ⟨S, Fa, Ct, P', R, A, B, Ri, lm, lb, Z⟩ := tz_of T2 r0 rb rl pe2 E2' eM2 (n1 kl2)
    obtain ⟨k4, Z4⟩ := tall_z Z w4.2
    have P4 := Z4.2.2.1
    have em : hI o2.2 M = hI h M := funext kM2
    rw [em, kb2, kb2] at P4
    have E4 : LR ρ l lf lt lx lk lo o4 := by
      obtain ⟨u1, u2, u5, u6, u7⟩ := E2'
      exact ⟨by rw [k4.1]; exact u1, by rw [k4.1]; exact u2, by rw [k4.1]; exact u5, by rw [k4.1]; exact u6, by rw [k4.1]; exact u7⟩
    have sq4 : SqOk x0 o4 := sq_fr T2 r0 f4 (fun _ => rfl) (fun _ => rfl) (fun _ => rfl) (sq_fr T1 r0 f2 (fun _ => rfl) (fun _ => rfl) (fun _ => rfl) (sq_fr T r0 f1 (fun _ => rfl) (fun _ => rfl) (fun _ => rfl) sq))
    have z0 : (0 : Int32).toInt = 0 := rfl
    exact lgz_28 hF (pmA_s hA rfl) hB hO ob nb ol r0 rb rl F T4 sq4 w4.1 E4 P4 (by decide) (Int.le_refl _) (by rw [z0]; exact (thI T4 rl (k := 14) (i := 0) (lo := 0) (hi := 3000) rfl).1) (by rw [z0]; omega)
  · exact s_some ⟨T2, n1 kl2⟩
end
end
section
/-! places of the reference: boards that can be written, paid for ahead -/
section
variable {zq : Nat} {ρ : Nat → Nat} {c : Cm} {h o g : Hp} {x0 x1 b : Nat} {Bq : Nat × Nat}
theorem wr_eq (kR : ∀ i, hR o b i = hR h b i) (kJ : hJ o b 2 = hJ h b 2) (k1 : hI o b 1 = hI h b 1) (k3 : hI o b 3 = hI h b 3) (kM : ∀ M, hR h b 0 = some M → ∀ i, hI o M i = hI h M i) (kP : ∀ M, hR h b 4 = some M → ∀ i, hI o M i = hI h M i) (kH : ∀ M, hR h b 5 = some M → ∀ i, hI o M i = hI h M i) (W : WrE zq b h) : WrE zq b o := by
  obtain ⟨p1, p2, p3, p4⟩ := W
  refine ⟨fun M H e1 e2 => ?_, by rw [kJ]; exact p2, by rw [k3]; exact p3, fun n M P e1 e2 => ?_⟩
  · rw [kR] at e1 e2
    rw [tot_k (kM M e1) (kH H e2)]
    exact p1 M H e1 e2
  · rw [kR] at e1 e2
    rw [k3] at n
    rw [kP P e2, kM M e1, k1]
    exact p4 n M P e1 e2
theorem crt_0 : ∀ n, cRt (0 : Int64) n = 0 := by
  intro n
  induction n with
  | zero => rfl
  | succ n ih => rw [cRt, ih, bj_zero]; rfl
/-- a board, as kept boards are -/
def PZ (zq : Nat) (b : Nat) (h : Hp) : Prop := PE b h ∧ WrE zq b h
/-- kept places -/
def BdY (zq : Nat) (Bq : Nat × Nat) (x0 : Nat) (h : Hp) : Prop := (∀ r s, hR h x0 14 = some r → hR h x0 15 = some s → ∀ i, i < 60 → ¬ hI h s i ≤ 0 → ∃ b, hR h r i = some b ∧ PZ zq b h) ∧ (∀ r, hR h x0 14 = some r → ∀ i j a b, ¬ i = j → hR h r i = some a → hR h r j = some b → ∀ k, (k = 0 ∨ k = 4 ∨ k = 5) → ∀ M M', hR h a k = some M → hR h b k = some M' → ¬ M = M') ∧ Pay 14 60 5 162 Bq x0 h
theorem bdy_p (P : BdY zq Bq x0 h) : BdP x0 h := ⟨fun r s e1 e2 i hi hs => by
  obtain ⟨b, eb, pb⟩ := P.1 r s e1 e2 i hi hs
  exact ⟨b, eb, pb.1⟩, fun r e1 i j a b ne ea eb k hk M M' m1 m2 => P.2.1 r e1 i j a b ne ea eb k (by rcases hk with z | z; exact Or.inl z; exact Or.inr (Or.inl z)) M M' m1 m2⟩
theorem pz_eq (kR : ∀ i, hR o b i = hR h b i) (kJ : hJ o b 2 = hJ h b 2) (k1 : hI o b 1 = hI h b 1) (k3 : hI o b 3 = hI h b 3) (kM : ∀ M, hR h b 0 = some M → ∀ i, hI o M i = hI h M i) (kP : ∀ M, hR h b 4 = some M → ∀ i, hI o M i = hI h M i) (kH : ∀ M, hR h b 5 = some M → ∀ i, hI o M i = hI h M i) (W : PZ zq b h) : PZ zq b o := by
  refine ⟨fun M P e1 e2 k k1' k2 => ?_, wr_eq kR kJ k1 k3 kM kP kH W.2⟩
  rw [kR] at e1 e2
  rw [k3] at k2
  rw [kP P e2, kM M e1]
  exact W.1 M P e1 e2 k k1' k2
theorem tot_0 {M H : Nat} (kM : ∀ i, hI h M i = 0) (kH : ∀ i, hI h H i = 0) : tot M H h ≤ 96 := by
  have a : ∀ n, mC (hI h M) n = 0 := by
    intro n
    induction n with
    | zero => rfl
    | succ n ih => rw [mC, ih, kM, if_neg (by decide)]; rfl
  have b : ∀ d n, sH h H d n = 0 := by
    intro d n
    induction n with
    | zero => rfl
    | succ n ih => rw [sH, ih, kH]; rfl
  unfold tot
  rw [a, b, b]
  decide
end
theorem kpy_35 {ρ : Nat → Nat} {c : Cm} {F zq : Nat} {Bq : Nat × Nat} {w_x1 : Nat} (hF : 700000 ≤ F) (hA : pmA c [(84, 999), (85, 999), (16, 16)]) (hi : pmO c 3400 [(62, 999), (63, 999), (64, 999), (65, 999), (13, 1), (13, 2), (13, 3), (13, 7)]) {h : Hp} {x0 x1 r b3 : Nat} {x2 : Int32} (o_x1 : cw c x1 = w_x1) (T : TH ρ c h) (r_x0 : ρ x0 = 16) (r_x1 : ρ x1 = 13) (i2 : Rg 0 59 x2) (er : hR h x0 14 = some r) (eb : hR h r x2.toNatClampNeg = some b3) (bd : BdY zq Bq x0 h) (pe : PZ zq x1 h) : Sat (sX15_keep_35 F h x0 x1 x2) (fun o => TH ρ c o.2 ∧ Rg (-104) 59 o.1 ∧ BdY zq Bq x0 o.2) := by
  have qr := rr T (thR T r_x0 (i := 14) (k2 := 84) rfl (by decide)) er
  have rb := thRn T qr (k2 := 13) rfl (by decide) eb
  have wb : cw c b3 = 3400 := th_id T qr eb rfl (by decide)
  unfold sX15_keep_35 sX15_keep_45
  refine s_ref er ?_
  refine s_gd (by rw [thN T qr (k := 84) (n := 60) rfl (by decide)]; exact rg_inB i2 (by decide)) ?_
  refine s_ref eb ?_
  refine s_dd (zX12_copy (F := F) hF hi wb o_x1 T rb r_x1) (fun o4 e4 T4 => ?_)
  refine s_q (fun h5 e5 => ?_)
  have T5 : TH ρ c h5 := by rw [e5]; exact th_wI T4 r_x0 (k := 16) (lo := -2147483648) (hi := 2147483647) rfl (rg_top _) (by decide) (by decide) (pm_a hA rfl)
  obtain ⟨s, es, qs⟩ := thR T5 r_x0 (i := 15) (k2 := 85) rfl (by decide)
  refine s_ref es ?_
  refine s_gd (by rw [thN T5 qs (k := 85) (n := 60) rfl (by decide)]; exact rg_inB i2 (by decide)) ?_
  refine s_q (fun h6 e6 => ?_)
  have T6 : TH ρ c h6 := by rw [e6]; exact th_wI T5 qs (k := 85) (lo := -2147483648) (hi := 2147483647) rfl (rg_top _) (by decide) (by decide) (pm_a hA rfl)
  refine s_some ⟨T6, rg_m i2 (by decide), ?_⟩
  obtain ⟨Mb, eMb, rMb⟩ := thR T r_x1 (i := 0) (k2 := 62) rfl (by decide)
  obtain ⟨Mt, eMt, rMt⟩ := thR T rb (i := 0) (k2 := 62) rfl (by decide)
  obtain ⟨Pb, ePb, rPb⟩ := thR T r_x1 (i := 4) (k2 := 63) rfl (by decide)
  obtain ⟨Pt, ePt, rPt⟩ := thR T rb (i := 4) (k2 := 63) rfl (by decide)
  obtain ⟨Hb, eHb, rHb⟩ := thR T r_x1 (i := 5) (k2 := 64) rfl (by decide)
  obtain ⟨Ht, eHt, rHt⟩ := thR T rb (i := 5) (k2 := 64) rfl (by decide)
  obtain ⟨C, eC, rC⟩ := thR T rb (i := 6) (k2 := 65) rfl (by decide)
  obtain ⟨f1, fM, fH, f3, f4, f5, f6, fo, fa⟩ := cpy_post rb r_x1 rMb rMt rPb rPt rHb rHt rC eMb eMt ePb ePt eHb eHt eC e4
  have pe4 : PZ zq b3 o4 := ⟨pe_copy T rb r_x1 pe.1 e4, wr_copy T rb r_x1 pe.2 e4⟩
  have jj := (cpy_j e4).2.1
  have kJ : ∀ a i, hJ h6 a i = hJ o4 a i := fun a i => by rw [e6, e5]; rfl
  have kR : ∀ a i, hR h6 a i = hR h a i := fun a i => by rw [e6, e5]; exact f1 a i
  have kI : ∀ {a k : Nat}, ρ a = k → k ≠ 16 → k ≠ 85 → ∀ i, hI h6 a i = hI o4 a i := fun ha k1 k2 i => by
    rw [e6, r_I, if_neg (fun q => k2 (by rw [← ha, q.1, qs])), e5, r_I, if_neg (fun q => k1 (by rw [← ha, q.1, r_x0]))]
  refine ⟨fun r' s' p1 p2 i hi hs => ?_, fun r' p1 i j a b ne ea eb' k hk M M' m1 m2 => ?_, fun r' p1 => ?_⟩
  · rw [kR] at p1 p2
    have y1 := r_eq er p1
    subst y1
    have es0 : hR h x0 15 = some s := by
      have : hR h5 x0 15 = some s := es
      rw [e5] at this
      have this : hR o4 x0 15 = some s := this
      rw [f1] at this
      exact this
    have y2 := r_eq es0 p2
    subst y2
    by_cases q : i = x2.toNatClampNeg
    · refine ⟨b3, by rw [kR, q]; exact eb, pz_eq (h := o4) (fun i => by rw [kR, f1]) (kJ _ _) (kI rb (by decide) (by decide) _) (kI rb (by decide) (by decide) _) (fun M m => ?_) (fun M m => ?_) (fun M m => ?_) pe4⟩
      · rw [f1] at m
        exact kI (rr T (thR T rb (i := 0) (k2 := 62) rfl (by decide)) m) (by decide) (by decide)
      · rw [f1] at m
        exact kI (rr T (thR T rb (i := 4) (k2 := 63) rfl (by decide)) m) (by decide) (by decide)
      · rw [f1] at m
        exact kI (rr T (thR T rb (i := 5) (k2 := 64) rfl (by decide)) m) (by decide) (by decide)
    · have hs0 : ¬ hI h s' i ≤ 0 := by
        have : hI h6 s' i = hI h s' i := by
          rw [e6, r_I, if_neg (fun w => q w.2), e5, r_I, if_neg (fun w => absurd (w.1 ▸ qs) (by rw [r_x0]; decide)), fo s' i (by rw [qs]; decide)]
        rw [this] at hs
        exact hs
      obtain ⟨b, e1, pb⟩ := bd.1 r' s' er es0 i hi hs0
      have rb' := thRn T qr (k2 := 13) rfl (by decide) e1
      have d : ∀ {x y k1 k2 : Nat}, ρ x = k1 → ρ y = k2 → k1 ≠ k2 → ¬ x = y := fun h1 h2 h3 w => h3 (by rw [← h1, ← h2, w])
      obtain ⟨Mo, eMo, rMo⟩ := thR T rb' (i := 0) (k2 := 62) rfl (by decide)
      have nb : ¬ b = b3 := fun w => by
        have nM : ¬ Mo = Mt := bd.2.1 r' er i _ b b3 q e1 eb 0 (Or.inl rfl) Mo Mt eMo eMt
        rw [w] at eMo
        exact nM (r_eq eMt eMo)
      have kb : ∀ i, hI h6 b i = hI h b i := fun i => by rw [kI rb' (by decide) (by decide), fa b i nb (d rb' rMt (by decide)) (d rb' rPt (by decide)) (d rb' rHt (by decide)) (d rb' rC (by decide))]
      refine ⟨b, by rw [kR]; exact e1, pz_eq (h := h) (fun i => kR _ _) (by rw [kJ, jj b 2 nb]) (kb 1) (kb 3) (fun M m i' => ?_) (fun M m i' => ?_) (fun M m i' => ?_) pb⟩
      · have rM := rr T (thR T rb' (i := 0) (k2 := 62) rfl (by decide)) m
        have nM : ¬ M = Mt := bd.2.1 r' er i _ b b3 q e1 eb 0 (Or.inl rfl) M Mt m eMt
        rw [kI rM (by decide) (by decide), fa M _ (d rM rb (by decide)) nM (d rM rPt (by decide)) (d rM rHt (by decide)) (d rM rC (by decide))]
      · have rP := rr T (thR T rb' (i := 4) (k2 := 63) rfl (by decide)) m
        have nP : ¬ M = Pt := bd.2.1 r' er i _ b b3 q e1 eb 4 (Or.inr (Or.inl rfl)) M Pt m ePt
        rw [kI rP (by decide) (by decide), fa M _ (d rP rb (by decide)) (d rP rMt (by decide)) nP (d rP rHt (by decide)) (d rP rC (by decide))]
      · have rH := rr T (thR T rb' (i := 5) (k2 := 64) rfl (by decide)) m
        have nH : ¬ M = Ht := bd.2.1 r' er i _ b b3 q e1 eb 5 (Or.inr (Or.inr rfl)) M Ht m eHt
        rw [kI rH (by decide) (by decide), fa M _ (d rH rb (by decide)) (d rH rMt (by decide)) (d rH rPt (by decide)) nH (d rH rC (by decide))]
  · rw [kR] at p1 ea eb' m1 m2
    exact bd.2.1 r' p1 i j a b ne ea eb' k hk M M' m1 m2
  · rw [kR] at p1
    rw [T6.1.1.trans T.1.1.symm, nuC_eq 60 (fun i _ => kR r' i)]
    exact bd.2.2 r' p1
theorem keep_y {ρ : Nat → Nat} {c : Cm} {F zq : Nat} {Bq : Nat × Nat} {w_x1 : Nat} (hF : 700000 ≤ F) (hA : pmA c [(84, 999), (85, 999), (16, 16)]) (hi_3400 : pmO c 3400 [(62, 999), (63, 999), (64, 999), (65, 999), (13, 1), (13, 2), (13, 3), (13, 7)]) {h : Hp} {x0 x1 : Nat} (o_x1 : cw c x1 = w_x1) (T : TH ρ c h) (r_x0 : ρ x0 = 16) (r_x1 : ρ x1 = 13) (bd : BdY zq Bq x0 h) (pe : PZ zq x1 h) : Sat (sX15_keep F h x0 x1) (fun o => ∃ ρ' c', Ext ρ c ρ' c' ∧ TH ρ' c' o.2 ∧ Rg (-104) 59 o.1 ∧ BdY zq Bq x0 o.2) := by
  unfold sX15_keep sX15_keep_4
  refine s_dI0 (zX15_freePlace hF T r_x0) (fun o e0 e1 i1 => ?_)
  obtain ⟨p, g⟩ := o
  have e1 : g = h := e1
  subst e1
  refine s_br (fun c1 => s_some ⟨ρ, c, ex_0, T, rg_b rfl, bd⟩) (fun c1 => ?_)
  have i2 : Rg 0 59 p := rg_nlo c1 i1 (rg_b rfl)
  obtain ⟨r, er, qr⟩ := thR T r_x0 (i := 14) (k2 := 84) rfl (by decide)
  refine s_ref er ?_
  refine s_gd (by rw [thN T qr (k := 84) (n := 60) rfl (by decide)]; exact rg_inB i2 (by decide)) ?_
  have t1 : g.1 = c.1 := T.1.1
  show Sat (onr (hR g r p.toNatClampNeg) _ _) _
  cases q : hR g r p.toNatClampNeg with
  | none =>
    show Sat (cl (hR g x0 14) _) _
    refine s_ref er ?_
    refine s_q (fun a ea => ?_)
    refine s_q (fun h8 e8 => ?_)
    subst ea
    subst e8
    unfold sX15_keep_30 sX15_keep_34
    refine s_dd (newBoard T 3400) (fun o1 eo1 ho => ?_)
    obtain ⟨ρ1, c1', X1, T1, a1, w1, O1⟩ := ho
    have eo : o1 = boH g := by rw [boH_v] at eo1; exact (Option.some.inj eo1).symm
    have r01 := ex_r X1 r_x0 (by decide)
    have r11 := ex_r X1 r_x1 (by decide)
    have qr1 := ex_r X1 qr (by decide)
    have lt : ∀ x, ρ x ≠ 0 → x < g.1.1 := fun x hx => by rw [t1]; exact T.2.1.2.2.1 x hx
    have rl : ∀ x i y, ρ x ≠ 0 → hR g x i = some y → y < g.1.1 := fun x i y hx hy => by rw [t1]; exact T.2.1.2.2.2 x i y hx hy
    have er1 : hR o1 x0 14 = some r := by rw [(O1 x0 (lt x0 (by rw [r_x0]; decide))).2.2.1]; exact er
    refine s_gd (by rw [thN T1 qr1 (k := 84) (n := 60) rfl (by decide)]; exact rg_inB i2 (by decide)) ?_
    refine s_q (fun h2 e2 => ?_)
    have T2 : TH ρ1 c1' h2 := by
      rw [e2]
      exact th_wRe T1 qr1 (k2 := 13) rfl (by decide) a1 (by decide) (by decide) rfl rfl rfl w1 (ex_p X1 (pm_a hA rfl))
    have er2 : hR h2 x0 14 = some r := by rw [e2, r_R, if_neg (ne_r r01 qr1 (by decide))]; exact er1
    have ee : hR h2 r p.toNatClampNeg = some (hS g) := by rw [e2, r_R, if_pos ⟨rfl, rfl⟩]
    have hS0 : hS g = g.1.1 := rfl
    -- what stood before
    have kR : ∀ {x k : Nat}, ρ x = k → k ≠ 0 → k ≠ 84 → ∀ i, hR h2 x i = hR g x i := fun {x k} hx h0 h84 i => by
      rw [e2, r_R, if_neg (fun w => h84 (by rw [← hx, w.1, qr])), (O1 x (lt x (by rw [hx]; exact h0))).2.2.1]
    have kI : ∀ {x k : Nat}, ρ x = k → k ≠ 0 → ∀ i, hI h2 x i = hI g x i := fun {x k} hx h0 i => by
      rw [e2]
      show hI o1 x i = _
      exact (O1 x (lt x (by rw [hx]; exact h0))).1 i
    have kr : ∀ i, ¬ i = p.toNatClampNeg → hR h2 r i = hR g r i := fun i hi => by
      rw [e2, r_R, if_neg (fun w => hi w.2), (O1 r (lt r (by rw [qr]; decide))).2.2.1]
    have kJ : ∀ {x k : Nat}, ρ x = k → k ≠ 0 → ∀ i, hJ h2 x i = hJ g x i := fun {x k} hx h0 i => by
      rw [e2]
      show hJ o1 x i = _
      exact (O1 x (lt x (by rw [hx]; exact h0))).2.1 i
    have pek : ∀ b, ρ b = 13 → PZ zq b g → PZ zq b h2 := fun b hb pb => pz_eq (fun i => kR hb (by decide) (by decide) i) (kJ hb (by decide) 2) (kI hb (by decide) 1) (kI hb (by decide) 3) (fun M m => kI (rr T (thR T hb (i := 0) (k2 := 62) rfl (by decide)) m) (by decide)) (fun M m => kI (rr T (thR T hb (i := 4) (k2 := 63) rfl (by decide)) m) (by decide)) (fun M m => kI (rr T (thR T hb (i := 5) (k2 := 64) rfl (by decide)) m) (by decide)) pb
    have nI : ∀ i, hI h2 (hS g) i = 0 := fun i => by rw [e2]; show hI o1 (hS g) i = 0; rw [eo]; exact boH_I g 0 i (by decide)
    have nR : ∀ i M, hR h2 (hS g) i = some M → g.1.1 ≤ M := fun i M hM => by
      rw [e2, r_R, if_neg (fun w => absurd (w.1 ▸ a1) (by rw [qr1]; decide)), eo, hS0, boH_R] at hM
      split at hM
      · have := Option.some.inj hM; omega
      · split at hM
        · have := Option.some.inj hM; omega
        · split at hM
          · have := Option.some.inj hM; omega
          · split at hM
            · have := Option.some.inj hM; omega
            · exact absurd hM (by simp)
    have bd2 : BdY zq Bq x0 h2 := by
      refine ⟨fun r' s' p1 p2 i hi hs => ?_, fun r' p1 i j a b ne ea eb k hk M M' m1 m2 => ?_, fun r' p1 => ?_⟩
      · have y1 := r_eq er2 p1
        subst y1
        rw [kR r_x0 (by decide) (by decide)] at p2
        have qs := rr T (thR T r_x0 (i := 15) (k2 := 85) rfl (by decide)) p2
        rw [kI qs (by decide)] at hs
        by_cases w : i = p.toNatClampNeg
        · refine ⟨hS g, by rw [w]; exact ee, pe_0 (by rw [nI]; rfl), fun M H m1 m2 => ?_, ?_, by rw [nI]; decide, fun n => ?_⟩
          · have nn : ∀ k i, k < 5 → hI h2 (g.1.1 + k) i = 0 := fun k i hk => by rw [e2]; show hI o1 (g.1.1 + k) i = 0; rw [eo]; exact boH_I g k i hk
            have nRR : ∀ i, hR h2 (hS g) i = hR (boH g) g.1.1 i := fun i => by rw [e2, r_R, if_neg (fun w => absurd (w.1 ▸ a1) (by rw [qr1]; decide)), eo, hS0]
            rw [nRR, boH_R] at m1 m2
            have y1 : g.1.1 + 1 = M := Option.some.inj m1
            have y2 : g.1.1 + 3 = H := Option.some.inj m2
            subst y1; subst y2
            exact tot_0 (fun i => nn 1 i (by decide)) (fun i => nn 3 i (by decide))
          · have : hJ h2 (hS g) 2 = 0 := by rw [e2]; show hJ o1 (hS g) 2 = 0; rw [eo]; exact boH_J g 0 2 (by decide)
            rw [this, crt_0]
            decide
          · rw [nI] at n
            exact absurd n (by decide)
        · obtain ⟨b, eb, pb⟩ := bd.1 r' s' er p2 i hi hs
          exact ⟨b, by rw [kr i w]; exact eb, pek b (thRn T qr (k2 := 13) rfl (by decide) eb) pb⟩
      · have y1 := r_eq er2 p1
        subst y1
        have old : ∀ i a M, ¬ i = p.toNatClampNeg → hR h2 r' i = some a → hR h2 a k = some M → hR g r' i = some a ∧ hR g a k = some M ∧ M < g.1.1 := fun i a M hi ha hM => by
          rw [kr i hi] at ha
          have ra := thRn T qr (k2 := 13) rfl (by decide) ha
          rw [kR ra (by decide) (by decide)] at hM
          exact ⟨ha, hM, rl a k M (by rw [ra]; decide) hM⟩
        by_cases wi : i = p.toNatClampNeg
        · have wj : ¬ j = p.toNatClampNeg := fun w => ne (by rw [wi, w])
          rw [wi, ee] at ea
          have ea := Option.some.inj ea
          rw [← ea] at m1
          have := nR k M m1
          have := (old j b M' wj eb m2).2.2
          omega
        · by_cases wj : j = p.toNatClampNeg
          · rw [wj, ee] at eb
            have eb := Option.some.inj eb
            rw [← eb] at m2
            have := nR k M' m2
            have := (old i a M wi ea m1).2.2
            omega
          · obtain ⟨u1, u2, _⟩ := old i a M wi ea m1
            obtain ⟨v1, v2, _⟩ := old j b M' wj eb m2
            exact bd.2.1 r' er i j a b ne u1 v1 k hk M M' u2 v2
      · have y1 := r_eq er2 p1
        subst y1
        have l60 := clamp_i i2.1
        have i59 := i2.2
        have cc := nuC_set q ee (fun i hi => kr i hi) 60 (by omega)
        have pb := bd.2.2 r' er
        have h21 : h2.1 = (g.1.1 + 5, g.1.2 + 162) := by rw [e2]; show o1.1 = _; rw [eo]; exact boH_1 g
        rw [h21]
        show g.1.1 + 5 + 5 * nuC h2 r' 60 ≤ Bq.1 ∧ g.1.2 + 162 + 162 * nuC h2 r' 60 ≤ Bq.2
        omega
    refine s_imp (kpy_35 (F := F) hF (ex_A X1 hA) (ex_O X1 hi_3400) (ex_w X1 r_x1 (by decide) o_x1) T2 r01 r11 i2 er2 ee bd2 (pek x1 r_x1 pe)) (fun o ho => ⟨ρ1, c1', X1, ho⟩)
  | some r4 =>
    show Sat (sX15_keep_35 F g x0 x1 p) _
    exact s_imp (kpy_35 (F := F) hF hA hi_3400 o_x1 T r_x0 r_x1 i2 er q bd pe) (fun o ho => ⟨ρ, c, ex_0, ho⟩)
end
section
/-! games of the reference: boards that can be written, paid for ahead -/
section
variable {zq : Nat} {ρ : Nat → Nat} {c : Cm} {h o : Hp} {E : Nat → Nat → Bool} {wb wl : Nat → Bool} {x0 d b l w i : Nat} {Bq : Nat × Nat}
theorem pz_fr {S : Nat → Nat → Nat → Bool} (T : TH ρ c h) (rb : ρ b = 13) (f : Fr ρ (cat c S h) h o) (s0 : ∀ i, i < 6 → S 13 (cw c b) i = false) (s4 : ∀ i, S 62 (cw c b) i = false) (s5 : ∀ i, S 63 (cw c b) i = false) (s6 : ∀ i, S 64 (cw c b) i = false) (P : PZ zq b h) : PZ zq b o := ⟨pe_fr T rb f (s0 0 (by decide)) (s0 3 (by decide)) (s0 4 (by decide)) s4 s5 P.1, wr_fr T rb f s0 s4 s5 s6 P.2⟩
theorem pz_sy (n : nice E) (T : TH ρ c h) (rb : ρ b = 13) (ew : cw c b = w) (hb : wb w = false) (f : Fr ρ (cat c (SY E wb wl) h) h o) (P : PZ zq b h) : PZ zq b o := by
  have z : ∀ k i, (k = 13 ∨ k = 14 ∨ (62 ≤ k ∧ k ≤ 72) ∨ k = 15) → mS saL k i = false → mS mpL k i = false → SY E wb wl k (cw c b) i = false := fun k i a0 a1 a2 => sy_f (n.1 k i a0) a1 (Or.inr (by rw [ew]; exact hb)) (Or.inl a2)
  exact pz_fr T rb f (fun i _ => z _ _ (by omega) rfl rfl) (fun i => z _ _ (by omega) rfl rfl) (fun i => z _ _ (by omega) rfl rfl) (fun i => z _ _ (by omega) rfl rfl) P
theorem pay_k0 {f n p q k : Nat} (T : TH ρ c h) (r0 : ρ x0 = k) {k2 : Nat} (hk : rfK k f = k2) (h2 : k2 ≠ 0) (e1 : o.1 = h.1) (R : hR o x0 f = hR h x0 f) (Q : ∀ r i, ρ r = k2 → hR o r i = hR h r i) (P : Pay f n p q Bq x0 h) : Pay f n p q Bq x0 o := fun r er => by
  rw [R] at er
  have rr' : ρ r = k2 := rr T (thR T r0 (i := f) (k2 := k2) hk h2) er
  rw [e1, nuC_eq n (fun i _ => Q r i rr')]
  exact P r er
/-- games' boards: all can be written, all are paid for -/
def GaY (zq : Nat) (Bq : Nat × Nat) (x0 : Nat) (h : Hp) : Prop := (∀ i b, Gb x0 i b h → PZ zq b h) ∧ Pay 37 2408 5 162 Bq x0 h
theorem gay_p (G : GaY zq Bq x0 h) : GaP x0 h := fun i b B => (G.1 i b B).1
theorem gaw_sy (n : nice E) (n92 : ∀ i, E 92 i = false) (T : TH ρ c h) (r0 : ρ x0 = 16) (f : Fr ρ (cat c (SY E wb wl) h) h o) (hb : ∀ j, wb (5000 + j) = false ∨ ∀ b, Gb x0 j b h → PZ zq b o) (G : GaY zq Bq x0 h) (T' : TH ρ c o := by assumption) : GaY zq Bq x0 o := ⟨fun i b B => by
  have B0 := (gb_sy n (n92 i) T r0 f).mpr B
  rcases hb i with q | q
  · obtain ⟨k1, k2⟩ := gb_r T r0 B0
    exact pz_sy n T k1 k2 q f (G.1 i b B0)
  · exact q b B0, pay_k0 T r0 (k2 := 92) rfl (by decide) (T'.1.1.trans T.1.1.symm) (fr_RI f r0 (by decide) (fun _ => sy_f n.2.2.2.2.1 rfl (Or.inl rfl) (Or.inl rfl))).2.2 (fun r i qr => (fr_RI f qr (by decide) (fun _ => sy_f (n92 i) rfl (Or.inl rfl) (Or.inl rfl))).2.2) G.2⟩
end
section
variable {zq : Nat} {ρ : Nat → Nat} {c : Cm} {h o : Hp} {E : Nat → Nat → Bool} {wb wl : Nat → Bool} {x0 d b l w i F : Nat} {Bq : Nat × Nat} {x1 x2 : Int32}
/-- the board of a game at a move: made where it is wanting -/
theorem gameBw (h9 : ∀ w, cPm c 92 w (gi x1 x2) = true) (T : TH ρ c h) (r0 : ρ x0 = 16) (i1 : Rg 0 7 x1) (i2 : Rg 0 300 x2) (G : GaY zq Bq x0 h) : Sat (sX15_gameBoard h x0 x1 x2) (fun o => ∃ ρ' c', Ext ρ c ρ' c' ∧ TH ρ' c' o.2 ∧ GaY zq Bq x0 o.2 ∧ Gb x0 (gi x1 x2) o.1 o.2 ∧ ∀ j b, Gb x0 j b h → Gb x0 j b o.2) := by
  unfold sX15_gameBoard
  refine s_q (fun v ev => ?_)
  have iv : Rg 0 2407 v := by rw [ev]; exact gi_r i1 i2
  have eg : gi x1 x2 = v.toNatClampNeg := by rw [ev]; rfl
  rw [eg] at h9 ⊢
  obtain ⟨r, er, qr⟩ := thR T r0 (i := 37) (k2 := 92) rfl (by decide)
  refine s_ref er ?_
  refine s_gd (by rw [thN T qr (k := 92) (n := 2408) rfl (by decide)]; exact rg_inB iv (by decide)) ?_
  have t1 : h.1 = c.1 := T.1.1
  cases q : hR h r v.toNatClampNeg with
  | none =>
    show Sat (cl (hR h x0 37) _) _
    refine s_ref er ?_
    refine s_q (fun a ea => ?_)
    refine s_q (fun h8 e8 => ?_)
    subst ea
    subst e8
    unfold sX15_gameBoard_25 sX15_gameBoard_29 sX15_gameBoard_30
    obtain ⟨o1, eo1, ρ1, c1, X1, T1, a1, w1, O1⟩ := newBoard T (5000 + v.toNatClampNeg)
    refine s_val eo1 ?_
    have ob : o1 = boH h := by rw [boH_v] at eo1; exact (Option.some.inj eo1).symm
    have z3 : hI o1 (hS h) 3 = 0 := by rw [ob]; exact boH_I h 0 3 (by decide)
    have r01 := ex_r X1 r0 (by decide)
    have qr1 := ex_r X1 qr (by decide)
    have lt : ∀ a, ρ a ≠ 0 → a < h.1.1 := fun a ha => by rw [t1]; exact T.2.1.2.2.1 a ha
    have lt0 : x0 < h.1.1 := lt x0 (by rw [r0]; decide)
    have ltr : r < h.1.1 := lt r (by rw [qr]; decide)
    have er1 : hR o1 x0 37 = some r := by rw [(O1 x0 lt0).2.2.1]; exact er
    refine s_gd (by rw [thN T1 qr1 (k := 92) (n := 2408) rfl (by decide)]; exact rg_inB iv (by decide)) ?_
    refine s_q (fun h2 e2 => ?_)
    have T2 : TH ρ1 c1 h2 := by
      rw [e2]
      exact th_wRe T1 qr1 (k2 := 13) rfl (by decide) a1 (by decide) (by decide) rfl rfl rfl w1 (ex_p X1 (h9 _))
    have er2 : hR h2 x0 37 = some r := by rw [e2, r_R, if_neg (ne_r r01 qr1 (by decide))]; exact er1
    refine s_ref er2 ?_
    refine s_gd (by rw [thN T2 qr1 (k := 92) (n := 2408) rfl (by decide)]; exact rg_inB iv (by decide)) ?_
    have ee : hR h2 r v.toNatClampNeg = some (hS h) := by rw [e2, r_R, if_pos ⟨rfl, rfl⟩]
    have kp : ∀ j b, Gb x0 j b h → Gb x0 j b h2 := fun j b ⟨r', g1, g2⟩ => by
      have : r' = r := r_eq er g1
      subst this
      have z : j ≠ v.toNatClampNeg := fun z => by rw [z, q] at g2; exact absurd g2 (by simp)
      exact ⟨r', er2, by rw [e2, r_R, if_neg (fun y => z y.2), (O1 r' ltr).2.2.1]; exact g2⟩
    refine s_ref ee (s_some ⟨ρ1, c1, X1, T2, ⟨fun j b B => ?_, fun r' p1 => ?_⟩, ⟨r, er2, ee⟩, kp⟩)
    rotate_left
    · have y1 : r' = r := r_eq er2 p1
      subst y1
      have l60 := clamp_i iv.1
      have i59 := iv.2
      have cc := nuC_set q ee (fun i hi => by rw [e2, r_R, if_neg (fun y => hi y.2), (O1 r' ltr).2.2.1]) 2408 (by omega)
      have pb := G.2 r' er
      have h21 : h2.1 = (h.1.1 + 5, h.1.2 + 162) := by rw [e2]; show o1.1 = _; rw [ob]; exact boH_1 h
      rw [h21]
      show h.1.1 + 5 + 5 * nuC h2 r' 2408 ≤ Bq.1 ∧ h.1.2 + 162 + 162 * nuC h2 r' 2408 ≤ Bq.2
      omega
    obtain ⟨r', g1, g2⟩ := B
    have : r' = r := r_eq er2 g1
    subst this
    by_cases z : j = v.toNatClampNeg
    · rw [z, ee] at g2
      rw [← Option.some.inj g2]
      have hS0 : hS h = h.1.1 := rfl
      have a1' : ¬ hS h = r' := fun w => by rw [w] at a1; rw [a1] at qr1; exact absurd qr1 (by decide)
      have nn : ∀ k i, k < 5 → hI h2 (h.1.1 + k) i = 0 := fun k i hk => by rw [e2]; show hI o1 (h.1.1 + k) i = 0; rw [ob]; exact boH_I h k i hk
      have nRR : ∀ i, hR h2 (hS h) i = hR (boH h) h.1.1 i := fun i => by rw [e2, r_R, if_neg (fun w => a1' w.1), ob, hS0]
      have n3 : hI h2 (hS h) 3 = 0 := by rw [e2]; exact z3
      refine ⟨pe_0 (by rw [n3]; rfl), fun M H m1 m2 => ?_, ?_, by rw [n3]; decide, fun n => by rw [n3] at n; exact absurd n (by decide)⟩
      · rw [nRR, boH_R] at m1 m2
        have y1 : h.1.1 + 1 = M := Option.some.inj m1
        have y2 : h.1.1 + 3 = H := Option.some.inj m2
        subst y1; subst y2
        exact tot_0 (fun i => nn 1 i (by decide)) (fun i => nn 3 i (by decide))
      · have : hJ h2 (hS h) 2 = 0 := by rw [e2]; show hJ o1 (hS h) 2 = 0; rw [ob]; exact boH_J h 0 2 (by decide)
        rw [this, crt_0]
        decide
    · rw [e2, r_R, if_neg (fun y => z y.2), (O1 r' ltr).2.2.1] at g2
      have P := G.1 j b ⟨r', er, g2⟩
      have rb := thRn T qr (k2 := 13) rfl (by decide) g2
      have kI : ∀ {x k : Nat}, ρ x = k → k ≠ 0 → ∀ i, hI h2 x i = hI h x i := fun {x k} hx h0 i => by
        rw [e2]
        show hI o1 x i = _
        exact (O1 x (lt x (by rw [hx]; exact h0))).1 i
      have ltb := lt b (by rw [rb]; decide)
      refine pz_eq (fun i => ?_) ?_ (kI rb (by decide) 1) (kI rb (by decide) 3) (fun M m => kI (rr T (thR T rb (i := 0) (k2 := 62) rfl (by decide)) m) (by decide)) (fun M m => kI (rr T (thR T rb (i := 4) (k2 := 63) rfl (by decide)) m) (by decide)) (fun M m => kI (rr T (thR T rb (i := 5) (k2 := 64) rfl (by decide)) m) (by decide)) P
      · rw [e2, r_R, if_neg (ne_r (ex_r X1 rb (by decide)) qr1 (by decide)), (O1 b ltb).2.2.1]
      · rw [e2]
        show hJ o1 b 2 = _
        exact (O1 b ltb).2.1 2
  | some r4 =>
    show Sat (sX15_gameBoard_30 h x0 v) _
    unfold sX15_gameBoard_30
    refine s_ref er ?_
    refine s_gd (by rw [thN T qr (k := 92) (n := 2408) rfl (by decide)]; exact rg_inB iv (by decide)) ?_
    exact s_ref q (s_some ⟨ρ, c, ex_0, T, G, ⟨r, er, q⟩, fun _ _ B => B⟩)
theorem s_gamew {β : Type} {Q : β → Prop} {k : Nat × Hp → Option β} (hp : ∀ k w i, SY E wb wl k w i = true → cPm c k w i = true) (hi : ∀ i, i ≤ 2407 → E 92 i = true) (T : TH ρ c h) (r0 : ρ x0 = 16) (i1 : Rg 0 7 x1) (i2 : Rg 0 300 x2) (G : GaY zq Bq x0 h) (H : ∀ o ρ1 c1, Ext ρ c ρ1 c1 → TH ρ1 c1 o.2 → Fr ρ (cat c (SY (g92 (gi x1 x2)) no no) h) h o.2 → GaY zq Bq x0 o.2 → Gb x0 (gi x1 x2) o.1 o.2 → (∀ j b, Gb x0 j b h → Gb x0 j b o.2) → Sat (k o) Q) : Sat (cl (sX15_gameBoard h x0 x1 x2) k) Q :=
  s_mk (g := fun (o : Nat × Hp) => o.2) (P := fun (o : Nat × Hp) (_ : Nat → Nat) (_ : Cm) => GaY zq Bq x0 o.2 ∧ Gb x0 (gi x1 x2) o.1 o.2 ∧ ∀ j b, Gb x0 j b h → Gb x0 j b o.2) T (fun k w i m => hp k w i (sy_sub (fun k i z => by
      unfold g92 at z
      rw [Bool.and_eq_true, beq_iff_eq] at z
      rw [z.1]; exact hi i (by rw [beq_iff_eq.mp z.2]; exact rg_clamp (gi_r i1 i2) (by decide))) (fun _ z => no_f z) (fun _ z => no_f z) m))
    (gameBw (syE (sx_c (SY (g92 (gi x1 x2)) no no)) (by unfold g92; rw [beq_self_eq_true, beq_self_eq_true]; rfl)) (th_in _ T) r0 i1 i2 G) (fun _ _ _ _ _ p => p) (fun o ρ1 c1 X T1 f p => H o ρ1 c1 X T1 f p.1 p.2.1 p.2.2)
end
end
section
def gmE2 : Nat → Nat → Bool := fun k i => (k == 92 && decide (i ≤ 2407)) || k == 93 || k == 94
theorem gm2_t {i : Nat} (h : i ≤ 2407) : gmE2 92 i = true := by
  unfold gmE2
  rw [decide_eq_true h]; rfl
section
variable {zq : Nat} {ρ : Nat → Nat} {c : Cm} {h o : Hp} {E : Nat → Nat → Bool} {wb wl : Nat → Bool} {x0 d b l w i F : Nat} {Bq : Nat × Nat} {x1 x2 : Int32}
/-- moves of a game's board -/
theorem s_legalGw {β : Type} {Q : β → Prop} {k : Hp → Option β} (hF : 700000 ≤ F) (hp : ∀ k w i, SY E wb wl k w i = true → cPm c k w i = true) (h1 : wb 2528 = true) (h3 : wl 2530 = true) (T : TH ρ c h) (r0 : ρ x0 = 16) (sq : SqOk x0 h) (G : GaY zq Bq x0 h) (B : Gb x0 i b h) (el : hR h x0 30 = some l) (H : ∀ o, TH ρ c o → Fr ρ (cat c (SY noE (is 2528) (is 2530)) h) h o → SqOk x0 o → GaY zq Bq x0 o → Gb x0 i b o → hR o x0 30 = some l → MvB x0 b l o → MvZ b l o → Sat (k o) Q) : Sat (cl (sX15_legal F h x0 b l) k) Q := by
  obtain ⟨k1, k3⟩ := gb_r T r0 B
  obtain ⟨l', el', ql'⟩ := thR T r0 (i := 30) (k2 := 14) rfl (by decide)
  have ql : ρ l = 14 := by rw [r_eq el' el]; exact ql'
  have wl' : cw c l = 2530 := th_id T r0 (w := 2530) el rfl (by decide)
  have hs : ∀ k w i, SY noE (is 2528) (is 2530) k w i = true → cPm c k w i = true := fun k w i m => hp k w i (sy_sub (fun _ _ z => noE_f z) (fun w z => by rw [is_e z]; exact h1) (fun w z => by rw [is_e z]; exact h3) m)
  obtain ⟨M, eM, rM⟩ := thR T k1 (i := 0) (k2 := 62) rfl (by decide)
  obtain ⟨lf, e1, q1⟩ := thR T ql (i := 1) (k2 := 66) rfl (by decide)
  obtain ⟨lt, e2, q2⟩ := thR T ql (i := 2) (k2 := 67) rfl (by decide)
  obtain ⟨lx, e5, q5⟩ := thR T ql (i := 5) (k2 := 70) rfl (by decide)
  obtain ⟨lk, e6, q6⟩ := thR T ql (i := 6) (k2 := 71) rfl (by decide)
  obtain ⟨lo, e7, q7⟩ := thR T ql (i := 7) (k2 := 72) rfl (by decide)
  have Z := legal_z (c := c) (x0 := x0) (lf := lf) (lt := lt) (lx := lx) (lk := lk) (lo := lo) (wl := 2530) hF (pmA_s (syA hp) rfl) (pmO_s (syB hp h1) rfl) (pmO_s (syM hp h3) rfl) k3 (by omega) wl' T r0 k1 ql sq (G.1 i b B).1 ⟨e1, e2, e5, e6, e7⟩ eM
  refine s_cVfq T hs (s_weq2 (zX15_legal hF (pmA_s (syA (sx_c _)) rfl) (pmO_s (syB (sx_c _) is_s) rfl) (pmO_s (w := 2530) (syM (sx_c _) is_s) rfl) k3 wl' (by omega) (th_in _ T) r0 k1 ql sq (G.1 i b B).1)) (fun o T1 f mv => ?_)
  obtain ⟨mv, eo⟩ := mv
  have L : L2 l lf lt lx lk lo (hI h M) (hI h b 1) (hI h b 3).toInt o := by
    obtain ⟨o', eo', _, z⟩ := Z
    have : o' = o := by rw [eo'] at eo; exact Option.some.inj eo
    rw [← this]; exact z
  have zb : ∀ k i, (k = 13 ∨ (62 ≤ k ∧ k ≤ 65)) → SY noE (is 2528) (is 2530) k (cw c b) i = false := fun k i hk => by
    rcases hk with z | z
    · rw [z]; exact sy_f rfl rfl (Or.inr (by rw [k3]; exact is_f (by omega))) (Or.inl rfl)
    · have : k = 62 ∨ k = 63 ∨ k = 64 ∨ k = 65 := by omega
      rcases this with z | z | z | z <;> rw [z] <;> exact sy_f rfl rfl (Or.inr (by rw [k3]; exact is_f (by omega))) (Or.inl rfl)
  have fb : ∀ i, hI o b i = hI h b i ∧ hR o b i = hR h b i := fun i => by
    have := f.1 b i (by rw [k1]; decide) (by rw [k1]; exact zb 13 i (Or.inl rfl))
    exact ⟨this.1, this.2.2⟩
  have fM : ∀ i, hI o M i = hI h M i := fun i => (f.1 M i (by rw [rM]; decide) (by rw [rM]; show SY noE (is 2528) (is 2530) 62 (cw c M) i = false; rw [th_ih T k1 (by decide) eM rfl]; exact zb 62 i (Or.inr (by decide)))).1
  have fl : ∀ i, 1 ≤ i → i < 8 → hR o l i = hR h l i := fun i a1 a2 => by
    have : SY noE (is 2528) (is 2530) 14 (cw c l) i = false := by
      rcases (by omega : i = 1 ∨ i = 2 ∨ i = 3 ∨ i = 4 ∨ i = 5 ∨ i = 6 ∨ i = 7) with z | z | z | z | z | z | z <;> rw [z] <;> exact sy_f rfl rfl (Or.inl rfl) (Or.inl rfl)
    exact (f.1 l i (by rw [ql]; decide) (by rw [ql]; exact this)).2.2
  have mz : MvZ b l o := by
    intro M' lf' lt' lx' lk' lo' p0 p1 p2 p5 p6 p7
    rw [(fb 0).2] at p0
    rw [fl _ (by decide) (by decide)] at p1 p2 p5 p6 p7
    have y0 := r_eq eM p0
    have y1 := r_eq e1 p1
    have y2 := r_eq e2 p2
    have y5 := r_eq e5 p5
    have y6 := r_eq e6 p6
    have y7 := r_eq e7 p7
    subst y0; subst y1; subst y2; subst y5; subst y6; subst y7
    rw [(fb 1).1, (fb 3).1, show hI o M' = hI h M' from funext fM]
    exact L
  exact H o T1 f (sq_sy nice_0 T r0 f sq) (gaw_sy nice_0 (fun _ => rfl) T r0 f (fun j => Or.inl (no5 (by decide))) G) ((gb_sy nice_0 rfl T r0 f).mp B) (by rw [(fr_RI f r0 (by decide) (fun _ => sy_f rfl rfl (Or.inl rfl) (Or.inl rfl))).2.2]; exact el) mv mz
/-- a place that is kept can be written -/
theorem bw_of {s : Int32} {o : Int32 × Hp} {Bk : Nat × Nat} (T : TH ρ c h) (r0 : ρ x0 = 16) (P : BdY zq Bk x0 h) (e : sX15_has h x0 s = some o) (n : ¬ o.1 = 0) : ∃ b, BK x0 s.toNatClampNeg b h ∧ PZ zq b h := by
  obtain ⟨b, B⟩ := bk_of T r0 (hb_of T r0 (bdy_p P) e n)
  refine ⟨b, B, ?_⟩
  unfold sX15_has sX15_has_23 sX15_has_24 at e
  replace e := br_s e; rcases e with ⟨_, e⟩ | ⟨c1, e⟩
  · exact absurd (by rw [← Option.some.inj (gd_s e).2]) n
  replace e := br_s e; rcases e with ⟨_, e⟩ | ⟨c2, e⟩
  · exact absurd (by rw [← Option.some.inj (gd_s e).2]) n
  replace e := cl_s e; obtain ⟨q, es, e⟩ := e
  replace e := (gd_s e).2
  replace e := br_s e; rcases e with ⟨_, e⟩ | ⟨c3, e⟩
  · exact absurd (by rw [← Option.some.inj (gd_s e).2]) n
  have l1 := nlt_i c1
  have l2 := nle_i c2
  have z0 : (0 : Int32).toInt = 0 := rfl
  have z60 : (60 : Int32).toInt = 60 := rfl
  obtain ⟨r, er, eb, _⟩ := B
  obtain ⟨b', eb', pb⟩ := P.1 r q er es s.toNatClampNeg (by have := nc_i (x := s) (by omega); omega) c3
  rw [r_eq eb eb'] at pb
  exact pb
theorem gaw_w {A : List (Nat × Nat)} (hA : ∀ k i, k ≠ 93 → k ≠ 94 → mS A k i = false) (T : TH ρ c h) (r0 : ρ x0 = 16) (f : Fr ρ (cat c (fS A []) h) h o) (G : GaY zq Bq x0 h) (T' : TH ρ c o := by assumption) : GaY zq Bq x0 o := by
  have z : ∀ k i, k ≠ 93 → k ≠ 94 → ∀ w, fS A [] k w i = false := fun k i a1 a2 w => fs_nf (hA k i a1 a2)
  refine ⟨fun j b B => ?_, pay_k0 T r0 (k2 := 92) rfl (by decide) (T'.1.1.trans T.1.1.symm) (fr_RI f r0 (by decide) (z _ _ (by decide) (by decide))).2.2 (fun r i qr => (fr_RI f qr (by decide) (z _ _ (by decide) (by decide))).2.2) G.2⟩
  obtain ⟨r', s1, s2⟩ := B
  rw [(fr_RI f r0 (by decide) (z _ _ (by decide) (by decide))).2.2] at s1
  obtain ⟨q1, f1, g1⟩ := thR T r0 (i := 37) (k2 := 92) rfl (by decide)
  have h1 : ρ r' = 92 := by rw [r_eq f1 s1]; exact g1
  rw [(fr_RI f h1 (by decide) (z _ _ (by decide) (by decide))).2.2] at s2
  obtain ⟨k1, k2⟩ := gb_r T r0 (i := j) (b := b) ⟨r', s1, s2⟩
  exact pz_fr T k1 f (fun _ _ => z _ _ (by decide) (by decide) _) (fun _ => z _ _ (by decide) (by decide) _) (fun _ => z _ _ (by decide) (by decide) _) (fun _ => z _ _ (by decide) (by decide) _) (G.1 j b ⟨r', s1, s2⟩)
theorem mz_sy {w' : Nat} (n : nice E) (T : TH ρ c h) (rb : ρ b = 13) (rl : ρ l = 14) (ew : cw c b = w) (hb : wb w = false) (el : cw c l = w') (hl : wl w' = false) (f : Fr ρ (cat c (SY E wb wl) h) h o) (Z : MvZ b l h) : MvZ b l o := by
  have z : ∀ k i, (k = 13 ∨ k = 14 ∨ (62 ≤ k ∧ k ≤ 72) ∨ k = 15) → mS saL k i = false → mS mpL k i = false → SY E wb wl k (cw c b) i = false := fun k i a0 a1 a2 => sy_f (n.1 k i a0) a1 (Or.inr (by rw [ew]; exact hb)) (Or.inl a2)
  have y : ∀ k i, (k = 13 ∨ k = 14 ∨ (62 ≤ k ∧ k ≤ 72) ∨ k = 15) → mS saL k i = false → mS bpL k i = false → SY E wb wl k (cw c l) i = false := fun k i a0 a1 a2 => sy_f (n.1 k i a0) a1 (Or.inl a2) (Or.inr (by rw [el]; exact hl))
  have fb : ∀ i, hI o b i = hI h b i ∧ hR o b i = hR h b i := fun i => by
    have := f.1 b i (by rw [rb]; decide) (by rw [rb]; exact z 13 i (by omega) rfl rfl)
    exact ⟨this.1, this.2.2⟩
  have fl : ∀ i, hI o l i = hI h l i ∧ hR o l i = hR h l i := fun i => by
    have := f.1 l i (by rw [rl]; decide) (by rw [rl]; exact y 14 i (by omega) rfl rfl)
    exact ⟨this.1, this.2.2⟩
  have fa : ∀ {a k : Nat}, cw c a = cw c l → ρ a = k → 66 ≤ k → k ≤ 72 → ∀ i, hI o a i = hI h a i := fun {a k} hw ra k1 k2 i => by
    refine (f.1 a i (by rw [ra]; omega) ?_).1
    rw [ra]
    show SY E wb wl k (cw c a) i = false
    rw [hw]
    have : k = 66 ∨ k = 67 ∨ k = 68 ∨ k = 69 ∨ k = 70 ∨ k = 71 ∨ k = 72 := by omega
    rcases this with q | q | q | q | q | q | q <;> rw [q] <;> exact y _ i (by omega) rfl rfl
  intro M lf lt lx lk lo p0 p1 p2 p5 p6 p7
  rw [(fb 0).2] at p0
  rw [(fl _).2] at p1 p2 p5 p6 p7
  have rM := rr T (thR T rb (i := 0) (k2 := 62) rfl (by decide)) p0
  have q1 := rr T (thR T rl (i := 1) (k2 := 66) rfl (by decide)) p1
  have q2 := rr T (thR T rl (i := 2) (k2 := 67) rfl (by decide)) p2
  have q5 := rr T (thR T rl (i := 5) (k2 := 70) rfl (by decide)) p5
  have q6 := rr T (thR T rl (i := 6) (k2 := 71) rfl (by decide)) p6
  have q7 := rr T (thR T rl (i := 7) (k2 := 72) rfl (by decide)) p7
  have fM : ∀ i, hI o M i = hI h M i := fun i => (f.1 M i (by rw [rM]; decide) (by rw [rM]; show SY E wb wl 62 (cw c M) i = false; rw [th_ih T rb (by decide) p0 rfl]; exact z 62 i (by omega) rfl rfl)).1
  have L := Z M lf lt lx lk lo p0 p1 p2 p5 p6 p7
  rw [(fb 1).1, (fb 3).1, show hI o M = hI h M from funext fM]
  intro i hi
  rw [(fl 0).1] at hi
  rw [fa (th_ih T rl (by decide) p1 rfl) q1 (by decide) (by decide) i, fa (th_ih T rl (by decide) p2 rfl) q2 (by decide) (by decide) i, fa (th_ih T rl (by decide) p5 rfl) q5 (by decide) (by decide) i, fa (th_ih T rl (by decide) p6 rfl) q6 (by decide) (by decide) i, fa (th_ih T rl (by decide) p7 rfl) q7 (by decide) (by decide) i]
  exact L i hi
theorem start_w (hF : 700000 ≤ F) (hp : ∀ k w i, SY gmE2 (fun w => decide (5000 ≤ w) && decide (w ≤ 7407)) no k w i = true → cPm c k w i = true) (T : TH ρ c h) (r0 : ρ x0 = 16) {Bk : Nat × Nat} (bd : BdY zq Bk x0 h) (G : GaY zq Bq x0 h) : Sat (sX15_start h x0 x1 x2) (MkI ρ c (-102) 0 (GaY zq Bq x0)) := by
  unfold sX15_start
  refine s_dP0 (zX15_isGame hF T (rg_top _)) (fun oo eb e ii pp => ?_)
  rw [e]
  unfold sX15_start_4
  refine s_br (fun _ => s_some ⟨ρ, c, ex_0, T, rg_b rfl, G⟩) (fun nz => ?_)
  have i1 := pp nz
  refine s_dP0 (zX15_has hF T r0 (rg_top _)) (fun o2 eb2 e2 ii2 pp2 => ?_)
  rw [e2]
  unfold sX15_start_15
  refine s_br (fun _ => s_some ⟨ρ, c, ex_0, T, rg_b rfl, G⟩) (fun nz2 => ?_)
  have i2 := pp2 nz2
  obtain ⟨b, B, PB0⟩ := bw_of T r0 bd eb2 nz2
  have i0 : Rg 0 300 (0 : Int32) := rg_b rfl
  refine s_gamew hp (fun _ => gm2_t) T r0 i1 i0 G (fun o3 ρ1 c1 X1 T1 f1 G1 B1 _ => ?_)
  have r1 := ex_r X1 r0 (by decide)
  have hp1 := ex_hp X1 hp
  have BK1 := bk_sy nice_92 (fun _ => rfl) T r0 f1 rfl B
  obtain ⟨kb, wb'⟩ := bk_r T1 r1 BK1
  obtain ⟨kg, wg⟩ := gb_r T1 r1 B1
  have PB : PZ zq b o3.2 := pz_sy nice_92 T (bk_r T r0 B).1 (bk_r T r0 B).2 rfl f1 PB0
  unfold sX15_start_27
  refine s_bk T1 r1 i2 BK1 ?_
  have lg : gi x1 0 ≤ 2407 := rg_clamp (gi_r i1 i0) (by decide)
  have hs : ∀ k w i, SY noE (is (5000 + gi x1 0)) no k w i = true → cPm c1 k w i = true := fun k w i m => hp1 k w i (sy_sub (fun _ _ z => noE_f z) (fun w z => by rw [is_e z, decide_eq_true (show 5000 ≤ 5000 + gi x1 0 by omega), decide_eq_true (show 5000 + gi x1 0 ≤ 7407 by omega)]; rfl) (fun _ z => no_f z) m)
  refine s_cVfq T1 hs (s_weq (zX12_copy hF (pmO_s (w := 5000 + gi x1 0) (syB (sx_c _) is_s) rfl) wg wb' (th_in _ T1) kg kb)) (fun o4 T4 f4 e4 => ?_)
  have P4 : PZ zq o3.1 o4 := ⟨pe_copy T1 kg kb PB.1 e4, wr_copy T1 kg kb PB.2 e4⟩
  have G4 : GaY zq Bq x0 o4 := gaw_sy nice_0 (fun _ => rfl) T1 r1 f4 (fun j => by
    by_cases q : j = gi x1 0
    · subst q
      refine Or.inr (fun b' B' => ?_)
      obtain ⟨r, s1, s2⟩ := B1
      obtain ⟨r', s1', s2'⟩ := B'
      rw [r_eq s1 s1'] at s2'
      rw [r_eq s2 s2']; exact P4
    · exact Or.inl (is_f (by omega))) G1
  unfold sX15_start_36
  refine s_played T4 r1 i1 (fun r er qr => ?_)
  refine s_hq (th_wI T4 qr (k := 94) (lo := -1) (hi := 300) rfl (rg_b rfl) (by decide) (by decide) (syE hp1 rfl _)) (fun g5 T5 e5 => ?_)
  have f5 := fr1I (c := c1) (A := [(94, 999)]) (k := 94) qr rfl e5
  exact s_some ⟨ρ1, c1, X1, T5, rg_b rfl, gaw_w a94 T4 r1 f5 G4⟩
theorem gaw_one {j0 : Nat} (P : ∀ b', Gb x0 j0 b' h → PZ zq b' o) : ∀ j, is (5000 + j0) (5000 + j) = false ∨ ∀ b, Gb x0 j b h → PZ zq b o := fun j => by
  by_cases q : j = j0
  · subst q; exact Or.inr P
  · exact Or.inl (is_f (by omega))
theorem add_w (hF : 700000 ≤ F) (hp : ∀ k w i, SY gmE2 gmB (is 2530) k w i = true → cPm c k w i = true) (T : TH ρ c h) (r0 : ρ x0 = 16) (sq : SqOk x0 h) (G : GaY zq Bq x0 h) : Sat (sX15_add F h x0 x1 x2) (MkI ρ c (-104) 300 (GaY zq Bq x0)) := by
  unfold sX15_add
  refine s_dP0 (zX15_isGame hF T (rg_top _)) (fun oo eb e ii pp => ?_)
  rw [e]
  unfold sX15_add_4
  refine s_br (fun _ => s_some ⟨ρ, c, ex_0, T, rg_b rfl, G⟩) (fun nz => ?_)
  have i1 := pp nz
  refine s_played T r0 i1 (fun r er qr => ?_)
  refine s_br (fun _ => s_some ⟨ρ, c, ex_0, T, rg_b rfl, G⟩) (fun n1 => ?_)
  refine s_played T r0 i1 (fun r' er' qr' => ?_)
  have : r' = r := r_eq er er'
  subst this
  have i2 : Rg 0 300 (hI h r' x1.toNatClampNeg) := rg_nlo n1 (thI T qr' (k := 94) (lo := -1) (hi := 300) rfl) (rg_b rfl : Rg (-1) (-1) (-1 : Int32))
  obtain ⟨p0, ep0⟩ : ∃ p0, p0 = hI h r' x1.toNatClampNeg := ⟨_, rfl⟩
  rw [← ep0] at i2 ⊢
  refine s_gamew hp (fun _ => gm2_t) T r0 i1 i2 G (fun o3 ρ1 c1 X1 T1 f1 G1 B1 _ => ?_)
  have r1 := ex_r X1 r0 (by decide)
  have qr1 := ex_r X1 qr' (by decide)
  have hp1 := ex_hp X1 hp
  have sq1 := sq_sy nice_92 T r0 f1 sq
  have er1 : hR o3.2 x0 39 = some r' := by rw [(fr_RI f1 r0 (by decide) (fun _ => sy_f rfl rfl (Or.inl rfl) (Or.inl rfl))).2.2]; exact er
  have ep1 : hI o3.2 r' x1.toNatClampNeg = p0 := by rw [ep0]; exact (fr_RI f1 qr' (by decide) (fun _ => sy_f rfl rfl (Or.inl rfl) (Or.inl rfl))).1
  unfold sX15_add_34
  obtain ⟨ls, els, qls⟩ := thR T1 r1 (i := 30) (k2 := 14) rfl (by decide)
  refine s_ref els ?_
  refine s_legalGw hF hp1 rfl rfl T1 r1 sq1 G1 B1 els (fun o4 T4 f4 sq4 G4 B4 el4 mv4 mz4 => ?_)
  have er4 : hR o4 x0 39 = some r' := by rw [(fr_RI f4 r1 (by decide) (fun _ => sy_f rfl rfl (Or.inl rfl) (Or.inl rfl))).2.2]; exact er1
  have ep4 : hI o4 r' x1.toNatClampNeg = p0 := by rw [(fr_RI f4 qr1 (by decide) (fun _ => sy_f rfl rfl (Or.inl rfl) (Or.inl rfl))).1]; exact ep1
  unfold sX15_add_44 sX15_add_59
  refine s_br (fun _ => s_some ⟨ρ1, c1, X1, T4, rg_b rfl, G4⟩) (fun n2 => ?_)
  refine s_ref el4 ?_
  refine s_br (fun n3 => ?_) (fun _ => s_some ⟨ρ1, c1, X1, T4, rg_b rfl, G4⟩)
  refine s_played T4 r1 i1 (fun r'' er'' qr'' => ?_)
  have : r'' = r' := r_eq er4 er''
  subst this
  rw [ep4]
  refine s_br (fun _ => s_some ⟨ρ1, c1, X1, T4, rg_b rfl, G4⟩) (fun n4 => ?_)
  have i3 : Rg 0 299 p0 := rg_nhi n4 i2 (rg_b rfl : Rg 300 300 (300 : Int32))
  have i4 : Rg 0 300 (p0 + (1 : Int32)) := rg_add i3 (rg_b rfl : Rg 1 1 (1 : Int32)) (by decide)
  refine s_ref el4 ?_
  refine s_played T4 r1 i1 (fun r3 er3 qr3 => ?_)
  have : r3 = r'' := r_eq er4 er3
  subst this
  rw [ep4]
  have ne := gi_ne i1 i2 i4 (by rw [(nc_s i3 (by decide)).2]; omega)
  refine s_gamew hp1 (fun _ => gm2_t) T4 r1 i1 i4 G4 (fun o5 ρ5 c5 X5 T5 f5 G5 B5 kp5 => ?_)
  have r5 := ex_r X5 r1 (by decide)
  have qr5 := ex_r X5 qr1 (by decide)
  have hp5 := ex_hp X5 hp1
  have sq5 := sq_sy nice_92 T4 r1 f5 sq4
  obtain ⟨k4, w4⟩ := gb_r T4 r1 B4
  have ql4 : ρ1 ls = 14 := qls
  have wl4 : cw c1 ls = 2530 := th_id T4 r1 (w := 2530) el4 rfl (by decide)
  have mv5 : MvB x0 o3.1 ls o5.2 := mv_sy nice_92 T4 r1 k4 ql4 w4 rfl wl4 rfl f5 mv4
  have mz5 : MvZ o3.1 ls o5.2 := mz_sy nice_92 T4 k4 ql4 w4 rfl wl4 rfl f5 mz4
  have B45 : Gb x0 (gi x1 p0) o3.1 o5.2 := kp5 _ _ B4
  have el5 : hI o5.2 ls 0 = hI o4 ls 0 := fr_I f5 ql4 (by decide) wl4 (sy_f rfl rfl (Or.inl rfl) (Or.inr rfl))
  obtain ⟨k5, w5⟩ := gb_r T5 r5 B5
  obtain ⟨k45, w45⟩ := gb_r T5 r5 B45
  have ql5 := ex_r X5 ql4 (by decide)
  have wl5 := ex_w X5 ql4 (by decide) wl4
  have er5 : hR o5.2 x0 39 = some r3 := by rw [(fr_RI f5 r1 (by decide) (fun _ => sy_f rfl rfl (Or.inl rfl) (Or.inl rfl))).2.2]; exact er4
  have ep5 : hI o5.2 r3 x1.toNatClampNeg = p0 := by rw [(fr_RI f5 qr1 (by decide) (fun _ => sy_f rfl rfl (Or.inl rfl) (Or.inl rfl))).1]; exact ep4
  have h3000 := thI T4 ql4 (k := 14) (i := 0) (lo := 0) (hi := 3000) rfl
  have lt := lt_i n3
  have ix : Rg 0 2999 x2 := ⟨nlt_i n2, by have := h3000.2; omega⟩
  unfold sX15_add_97
  have lg : gi x1 (p0 + 1) ≤ 2407 := rg_clamp (gi_r i1 i4) (by decide)
  have hs : ∀ k w i, SY noE (is (5000 + gi x1 (p0 + 1))) no k w i = true → cPm c5 k w i = true := fun k w i m => hp5 k w i (sy_sub (fun _ _ z => noE_f z) (fun w z => by rw [is_e z]; exact gmB_t lg) (fun _ z => no_f z) m)
  refine s_cVfq T5 hs (s_weq2 (zX15_make hF (pmA_s (syA (sx_c _)) rfl) (pmO_s (w := 5000 + gi x1 (p0 + 1)) (syB (sx_c _) is_s) rfl) w45 wl5 w5 (th_in _ T5) r5 k45 ql5 ix k5 sq5 mv5 (by rw [el5]; exact lt))) (fun o6 T6 f6 P6' => ?_)
  have P6 : PZ zq o5.1 o6 := ⟨P6'.1, make_z T5 r5 k45 ql5 k5 (fun P1 P p1 p2 z => by
    have v1 : cw c5 P1 = 5000 + gi x1 p0 := (th_ih T5 k45 (by decide) p1 rfl).trans w45
    have v2 : cw c5 P = 5000 + gi x1 (p0 + 1) := (th_ih T5 k5 (by decide) p2 rfl).trans w5
    rw [z, v2] at v1
    exact ne (by omega)) (G5.1 _ _ B45).2 mv5 mz5 ⟨ix.1, by rw [el5]; exact lt⟩ P6'.2⟩
  have G6 : GaY zq Bq x0 o6 := gaw_sy nice_0 (fun _ => rfl) T5 r5 f6 (gaw_one (fun b' B' => by rw [gb_u B5 B']; exact P6)) G5
  have er6 : hR o6 x0 39 = some r3 := by rw [(fr_RI f6 r5 (by decide) (fun _ => sy_f rfl rfl (Or.inl rfl) (Or.inl rfl))).2.2]; exact er5
  have ep6 : hI o6 r3 x1.toNatClampNeg = p0 := by rw [(fr_RI f6 qr5 (by decide) (fun _ => sy_f rfl rfl (Or.inl rfl) (Or.inl rfl))).1]; exact ep5
  unfold sX15_add_100
  obtain ⟨gm, egm, qgm⟩ := thR T6 r5 (i := 38) (k2 := 93) rfl (by decide)
  refine s_ref egm ?_
  refine s_played T6 r5 i1 (fun r7 er7 qr7 => ?_)
  have : r7 = r3 := r_eq er6 er7
  subst this
  rw [ep6]
  refine s_gd (by rw [thN T6 qgm (k := 93) (n := 2408) rfl (by decide)]; exact rg_inB (gi_r i1 i2) (by decide)) ?_
  refine s_hq (th_wI T6 qgm (k := 93) (lo := 0) (hi := 2999) rfl ix (by decide) (by decide) (syE hp5 rfl _)) (fun g7 T7 e7 => ?_)
  have f7 := fr1I (c := c5) (A := [(93, 999)]) (k := 93) qgm rfl e7
  have G7 := gaw_w a93 T6 r5 f7 G6
  have ep7 : hI g7 r7 x1.toNatClampNeg = p0 := by rw [e7, r_I, if_neg (ne_r qr5 qgm (by decide))]; exact ep6
  refine s_played T7 r5 i1 (fun r8 er8 qr8 => ?_)
  have : r8 = r7 := by rw [e7] at er8; exact r_eq er6 er8
  subst this
  refine s_gd (by rw [thN T7 qr8 (k := 94) (n := 8) rfl (by decide)]; exact rg_inB i1 (by decide)) ?_
  refine s_hq (th_wI T7 qr8 (k := 94) (lo := -1) (hi := 300) rfl (rg_m (show Rg 0 300 _ by rw [ep7]; exact i4) (by decide)) (by decide) (by decide) (syE hp5 rfl _)) (fun g8 T8 e8 => ?_)
  have f8 := fr1I (c := c5) (A := [(94, 999)]) (k := 94) qr8 rfl e8
  have G8 := gaw_w a94 T7 r5 f8 G7
  refine s_played T8 r5 i1 (fun r9 er9 qr9 => ?_)
  exact s_some ⟨ρ5, c5, ex_t X1 X5, T8, rg_m (thI T8 qr9 (k := 94) (lo := -1) (hi := 300) rfl) (by decide), G8⟩
end
end
