/-! legal moves fit their board -/
section
variable {ρ : Nat → Nat} {c : Cm} {gg : Nat → Int32} {sd : Int32} {np : Int} {x0 b l lf lt lx lk lo F wb wl : Nat} {h o : Hp} {x3 x4 x5 : Int32}
def LR (ρ : Nat → Nat) (l lf lt lx lk lo : Nat) (h : Hp) : Prop := (hR h l 1 = some lf ∧ hR h l 2 = some lt ∧ hR h l 5 = some lx ∧ hR h l 6 = some lk ∧ hR h l 7 = some lo)
theorem lr_r (T : TH ρ c h) (rl : ρ l = 14) (E : LR ρ l lf lt lx lk lo h) : ρ lf = 66 ∧ ρ lt = 67 ∧ ρ lx = 70 ∧ ρ lk = 71 ∧ ρ lo = 72 := by
  obtain ⟨e1, e2, e5, e6, e7⟩ := E
  exact ⟨rr T (thR T rl (i := 1) (k2 := 66) rfl (by decide)) e1, rr T (thR T rl (i := 2) (k2 := 67) rfl (by decide)) e2, rr T (thR T rl (i := 5) (k2 := 70) rfl (by decide)) e5, rr T (thR T rl (i := 6) (k2 := 71) rfl (by decide)) e6, rr T (thR T rl (i := 7) (k2 := 72) rfl (by decide)) e7⟩
theorem l2_fr {S : Nat → Nat → Nat → Bool} (T : TH ρ c h) (rl : ρ l = 14) (E : LR ρ l lf lt lx lk lo h) (f : Fr ρ (cat c S h) h o) (s1 : ∀ w i, i < 8 → S 14 w i = false) (s2 : ∀ k w i, 66 ≤ k → k ≤ 72 → S k w i = false) (P : L2 l lf lt lx lk lo gg sd np h) : L2 l lf lt lx lk lo gg sd np o ∧ LR ρ l lf lt lx lk lo o ∧ hI o l 0 = hI h l 0 := by
  obtain ⟨q1, q2, q5, q6, q7⟩ := lr_r T rl E
  have k0 : hI o l 0 = hI h l 0 := (fr_RI f rl (by decide) (fun w => s1 w 0 (by decide))).1
  have kR : ∀ {i : Nat}, i < 8 → hR o l i = hR h l i := fun {i} hi => (fr_RI f rl (by decide) (fun w => s1 w i hi)).2.2
  obtain ⟨e1, e2, e5, e6, e7⟩ := E
  refine ⟨fun i hi => ?_, ⟨by rw [kR (by decide)]; exact e1, by rw [kR (by decide)]; exact e2, by rw [kR (by decide)]; exact e5, by rw [kR (by decide)]; exact e6, by rw [kR (by decide)]; exact e7⟩, k0⟩
  rw [k0] at hi
  rw [(fr_RI f q1 (by decide) (fun w => s2 66 w i (by decide) (by decide))).1, (fr_RI f q2 (by decide) (fun w => s2 67 w i (by decide) (by decide))).1, (fr_RI f q5 (by decide) (fun w => s2 70 w i (by decide) (by decide))).1, (fr_RI f q6 (by decide) (fun w => s2 71 w i (by decide) (by decide))).1, (fr_RI f q7 (by decide) (fun w => s2 72 w i (by decide) (by decide))).1]
  exact P i hi
theorem set_lx {lm lb : Nat} {x y : Int32} (r_l : ρ l = 14) (r_lf : ρ lf = 66) (r_lt : ρ lt = 67) (r_lm : ρ lm = 68) (r_lb : ρ lb = 69) (r_lx : ρ lx = 70) (r_lk : ρ lk = 71) (r_lo : ρ lo = 72) (e_lf : hR h l 1 = some lf) (e_lt : hR h l 2 = some lt) (e_lm : hR h l 3 = some lm) (e_lb : hR h l 4 = some lb) (e_lx : hR h l 5 = some lx) (e_lk : hR h l 6 = some lk) (e_lo : hR h l 7 = some lo) (e : sX13_set h l x l y = some o) (i : Nat) : hI o lx i = if i = x.toNatClampNeg then hI h lx y.toNatClampNeg else hI h lx i := by
  have ne : ∀ {a d p q : Nat}, ρ a = p → ρ d = q → p ≠ q → ¬ a = d := fun ha hd hpq z => hpq (by rw [← ha, z]; exact hd)
  unfold sX13_set at e
  simp only [nm] at e
  replace e := cl_s e; obtain ⟨r1, w1, e⟩ := e
  have u1 : r1 = lf := r_eq e_lf w1
  subst u1
  replace e := cl_s e; obtain ⟨_, _, e⟩ := e
  iterate 2 replace e := (gd_s e).2
  replace e := cl_s e; obtain ⟨r2, w2, e⟩ := e
  have u2 : r2 = lt := r_eq e_lt w2
  subst u2
  replace e := cl_s e; obtain ⟨_, _, e⟩ := e
  iterate 2 replace e := (gd_s e).2
  replace e := cl_s e; obtain ⟨r3, w3, e⟩ := e
  have u3 : r3 = lm := r_eq e_lm w3
  subst u3
  replace e := cl_s e; obtain ⟨_, _, e⟩ := e
  iterate 2 replace e := (gd_s e).2
  replace e := cl_s e; obtain ⟨r4, w4, e⟩ := e
  have u4 : r4 = lb := r_eq e_lb w4
  subst u4
  replace e := cl_s e; obtain ⟨_, _, e⟩ := e
  iterate 2 replace e := (gd_s e).2
  replace e := cl_s e; obtain ⟨r5, w5, e⟩ := e
  have u5 : r5 = lx := r_eq e_lx w5
  subst u5
  replace e := cl_s e; obtain ⟨r5', w5', e⟩ := e
  have u5' : r5' = r5 := r_eq e_lx w5'
  subst u5'
  iterate 2 replace e := (gd_s e).2
  replace e := cl_s e; obtain ⟨r6, w6, e⟩ := e
  have u6 : r6 = lk := r_eq e_lk w6
  subst u6
  replace e := cl_s e; obtain ⟨_, _, e⟩ := e
  iterate 2 replace e := (gd_s e).2
  replace e := cl_s e; obtain ⟨r7, w7, e⟩ := e
  have u7 : r7 = lo := r_eq e_lo w7
  subst u7
  replace e := cl_s e; obtain ⟨_, _, e⟩ := e
  iterate 2 replace e := (gd_s e).2
  rw [← Option.some.inj e]
  rw [rI_a (ne r_lx r_lo (by decide)), rI_a (ne r_lx r_lk (by decide)), r_I]
  by_cases z : i = x.toNatClampNeg
  · rw [if_pos ⟨rfl, z⟩, if_pos z, rI_a (ne r_lx r_lb (by decide)), rI_a (ne r_lx r_lm (by decide)), rI_a (ne r_lx r_lt (by decide)), rI_a (ne r_lx r_lf (by decide))]
  · rw [if_neg (fun w => z w.2), if_neg z, rI_a (ne r_lx r_lb (by decide)), rI_a (ne r_lx r_lm (by decide)), rI_a (ne r_lx r_lt (by decide)), rI_a (ne r_lx r_lf (by decide))]
theorem l2_set {x y : Int32} (T : TH ρ c h) (rl : ρ l = 14) (E : LR ρ l lf lt lx lk lo h) (hy : 0 ≤ y.toInt ∧ y.toInt < (hI h l 0).toInt) (P : L2 l lf lt lx lk lo gg sd np h) (e : sX13_set h l x l y = some o) : L2 l lf lt lx lk lo gg sd np o ∧ hI o l 0 = hI h l 0 ∧ LR ρ l lf lt lx lk lo o := by
  obtain ⟨r1, r2, r5, r6, r7⟩ := lr_r T rl E
  obtain ⟨e1, e2, e5, e6, e7⟩ := E
  obtain ⟨lm, e3, r3⟩ := thR T rl (i := 3) (k2 := 68) rfl (by decide)
  obtain ⟨lb, e4, r4⟩ := thR T rl (i := 4) (k2 := 69) rfl (by decide)
  obtain ⟨fr, z0, z⟩ := set_post rl r1 r2 r3 r4 r5 r6 r7 e1 e2 e3 e4 e5 e6 e7 e
  have zx := set_lx rl r1 r2 r3 r4 r5 r6 r7 e1 e2 e3 e4 e5 e6 e7 e
  refine ⟨fun i hi => ?_, z0, ⟨by rw [fr.1]; exact e1, by rw [fr.1]; exact e2, by rw [fr.1]; exact e5, by rw [fr.1]; exact e6, by rw [fr.1]; exact e7⟩⟩
  rw [z0] at hi
  obtain ⟨w1, w2, _, w6, w7⟩ := z i
  rw [w1, w2, w6, w7, zx i]
  have cy := clamp_i hy.1
  by_cases w : i = x.toNatClampNeg
  · rw [if_pos w, if_pos w, if_pos w, if_pos w, if_pos w]
    exact P y.toNatClampNeg (by omega)
  · rw [if_neg w, if_neg w, if_neg w, if_neg w, if_neg w]
    exact P i hi
theorem l2_cut {v : Int32} (T : TH ρ c h) (rl : ρ l = 14) (E : LR ρ l lf lt lx lk lo h) (w : o = wI h l 0 v) (le : v.toInt ≤ (hI h l 0).toInt) (P : L2 l lf lt lx lk lo gg sd np h) : L2 l lf lt lx lk lo gg sd np o ∧ LR ρ l lf lt lx lk lo o := by
  obtain ⟨r1, r2, r5, r6, r7⟩ := lr_r T rl E
  refine ⟨fun i hi => ?_, by rw [w]; exact E⟩
  rw [w, r_I, if_pos ⟨rfl, rfl⟩] at hi
  rw [w, r_I, if_neg (ne_r r1 rl (by decide)), r_I, if_neg (ne_r r2 rl (by decide)), r_I, if_neg (ne_r r5 rl (by decide)), r_I, if_neg (ne_r r6 rl (by decide)), r_I, if_neg (ne_r r7 rl (by decide))]
  exact P i (by omega)
theorem lgz_110 (hF : 700000 ≤ F) (hO : pmO c wl [(66, 999), (67, 999), (68, 999), (69, 999), (70, 999), (71, 999), (72, 999), (14, 0)]) (ol : cw c l = wl) (rl : ρ l = 14) : ∀ (f : Nat) {h : Hp} {x3 x5 : Int32}, TH ρ c h → LR ρ l lf lt lx lk lo h → L2 l lf lt lx lk lo gg sd np h → 0 ≤ x3.toInt → x3.toInt ≤ x5.toInt → x5.toInt ≤ (hI h l 0).toInt → (3001 - x5.toInt).toNat < f → Sat (sX15_legal_110 F f h l x3 x5) (fun o => TH ρ c o ∧ L2 l lf lt lx lk lo gg sd np o) := by
  intro f
  induction f with
  | zero => intros; omega
  | succ f ih =>
    intro h x3 x5 T E P a3 a5 b5 hf
    rw [sX15_legal_110]
    unfold sX15_legal_152 sX15_legal_141
    have m := thI T rl (k := 14) (i := 0) (lo := 0) (hi := 3000) rfl
    have m3 := m.2
    refine s_br (fun _ => ?_) (fun n1 => ?_)
    · refine s_hq (th_wI T rl (k := 14) (lo := 0) (hi := 3000) rfl ⟨a3, by omega⟩ (by decide) (by decide) (pm_o hO ol rfl)) (fun h2 T2 w2 => ?_)
      exact s_some ⟨T2, (l2_cut T rl E w2 (by omega) P).1⟩
    · have l5 := nle_i n1
      have i5 : Rg 0 2999 x5 := ⟨by omega, by omega⟩
      have i3 : Rg 0 2999 x3 := ⟨a3, by omega⟩
      have n5 := nc_s i5 (by decide)
      have n3 := nc_s i3 (by decide)
      obtain ⟨_, ex, rx⟩ := thR T rl (i := 5) (k2 := 70) rfl (by decide)
      refine s_ref ex ?_
      refine s_gd (by rw [thN T rx (k := 70) (n := 3000) rfl (by decide)]; exact rg_inB i5 (by decide)) ?_
      refine s_br (fun _ => ?_) (fun _ => ?_)
      · refine s_q (fun y ey => ?_)
        have ey2 : y.toInt = x5.toInt + 1 := by rw [ey]; exact n5.2
        exact ih T E P a3 (by omega) (by omega) (by omega)
      · refine s_dd (zX13_set hF (pmO_s hO rfl) ol ol T rl i3 rl i5) (fun o6 e6 T6 => ?_)
        obtain ⟨P6, k6, E6⟩ := l2_set T rl E ⟨by omega, l5⟩ P e6
        refine s_q (fun v ev => s_q (fun y ey => ?_))
        have ey2 : y.toInt = x5.toInt + 1 := by rw [ey]; exact n5.2
        have ev2 : v.toInt = x3.toInt + 1 := by rw [ev]; exact n3.2
        exact ih T6 E6 P6 (by omega) (by omega) (by rw [k6]; omega) (by omega)
theorem lgz_28 (hF : 700000 ≤ F) (hA : pmA c [(16, 23), (16, 24)]) (hB : pmO c 2528 [(62, 999), (63, 999), (64, 999), (65, 999), (13, 1), (13, 2), (13, 3), (13, 7)]) (hO : pmO c wl [(66, 999), (67, 999), (68, 999), (69, 999), (70, 999), (71, 999), (72, 999), (14, 0)]) (ob : cw c b = wb) (nb : ¬ wb = 2528) (ol : cw c l = wl) (r0 : ρ x0 = 16) (rb : ρ b = 13) (rl : ρ l = 14) : ∀ (f : Nat) {h : Hp} {x3 x4 x5 : Int32}, TH ρ c h → SqOk x0 h → MvB x0 b l h → LR ρ l lf lt lx lk lo h → L2 l lf lt lx lk lo gg sd np h → 0 ≤ x3.toInt → x3.toInt ≤ x5.toInt → x5.toInt ≤ (hI h l 0).toInt → (3001 - x5.toInt).toNat < f → Sat (sX15_legal_28 F f h x0 b l x3 x4 x5) (fun o => TH ρ c o ∧ L2 l lf lt lx lk lo gg sd np o) := by
  intro f
  induction f with
  | zero => intros; omega
  | succ f ih =>
    intro h x3 x4 x5 T sq mv E P a3 a5 b5 hf
    rw [sX15_legal_28]
    unfold sX15_legal_152 sX15_legal_79 sX15_legal_73
    have m := thI T rl (k := 14) (i := 0) (lo := 0) (hi := 3000) rfl
    have m3 := m.2
    have z0 : (0 : Int32).toInt = 0 := rfl
    refine s_br (fun _ => ?_) (fun n1 => ?_)
    · refine s_hq (th_wI T rl (k := 14) (lo := 0) (hi := 3000) rfl ⟨a3, by omega⟩ (by decide) (by decide) (pm_o hO ol rfl)) (fun h2 T2 w2 => ?_)
      obtain ⟨P2, E2'⟩ := l2_cut T rl E w2 (by omega) P
      obtain ⟨R, eR, rR⟩ := thR T2 r0 (i := 4) (k2 := 15) rfl (by decide)
      refine s_ref eR ?_
      refine s_br (fun _ => s_some ⟨T2, P2⟩) (fun _ => ?_)
      refine s_br (fun _ => s_some ⟨T2, P2⟩) (fun _ => ?_)
      exact lgz_110 hF hO ol rl F T2 E2' P2 (by decide) (Int.le_refl _) (by rw [z0]; exact (thI T2 rl (k := 14) (i := 0) (lo := 0) (hi := 3000) rfl).1) (by rw [z0]; omega)
    · have l5 := nle_i n1
      have i5 : Rg 0 2999 x5 := ⟨by omega, by omega⟩
      have i3 : Rg 0 2999 x3 := ⟨a3, by omega⟩
      have n5 := nc_s i5 (by decide)
      have n3 := nc_s i3 (by decide)
      refine s_cIf (S := fS [(16, 23), (16, 24)] [(2528, [(62, 999), (63, 999), (64, 999), (65, 999), (13, 1), (13, 2), (13, 3), (13, 7)])]) T (fs_sub hA (fs_c hB fs_n)) (zX15_isSafe hF fs_a (fs_o (.head _)) ob ol (th_in _ T) r0 rb rl i5 sq mv l5) (fun o6 T6 i6 f6 => ?_)
      have sq6 : SqOk x0 o6.2 := sq_fr T r0 f6 (fun _ => rfl) (fun _ => rfl) (fun _ => rfl) sq
      have mv6 : MvB x0 b l o6.2 := mv_fr T r0 rb rl f6 (fun _ => rfl) (fun _ => rfl) rfl (by rw [ob]; exact fs_cf (Or.inr nb) (fs_nf rfl)) rfl (by rw [ob]; intro _; exact fs_cf (Or.inr nb) (fs_nf rfl)) (by rw [ob]; intro _; exact fs_cf (Or.inr nb) (fs_nf rfl)) rfl rfl rfl rfl rfl rfl (fun _ => rfl) (fun _ => rfl) (fun _ => rfl) (fun _ => rfl) (fun _ => rfl) mv
      obtain ⟨P6, E6, k6⟩ := l2_fr T rl E f6 (fun w i hi => by
        match i, hi with
        | 0, _ | 1, _ | 2, _ | 3, _ | 4, _ | 5, _ | 6, _ | 7, _ => rfl) (fun k w i a b => by
        have : k = 66 ∨ k = 67 ∨ k = 68 ∨ k = 69 ∨ k = 70 ∨ k = 71 ∨ k = 72 := by omega
        rcases this with z | z | z | z | z | z | z <;> subst z <;> rfl) P
      refine s_br (fun _ => ?_) (fun _ => ?_)
      · refine s_q (fun y ey => ?_)
        have ey2 : y.toInt = x5.toInt + 1 := by rw [ey]; exact n5.2
        exact ih T6 sq6 mv6 E6 P6 a3 (by omega) (by rw [k6]; omega) (by omega)
      · refine s_cVfq (S := fS [] [(wl, [(66, 999), (67, 999), (68, 999), (69, 999), (70, 999), (71, 999), (72, 999)])]) T6 (fs_sub pmA_n (fs_c (pmO_s hO rfl) fs_n)) (s_weq (zX13_set hF (fs_o (.head _)) ol ol (th_in _ T6) rl i3 rl i5)) (fun o8 T8 f8 e8 => ?_)
        obtain ⟨P8, k8, E8⟩ := l2_set T6 rl E6 ⟨by omega, by rw [k6]; exact l5⟩ P6 e8
        have mv8 := mv_set T6 r0 rb rl ⟨by omega, by rw [k6]; exact l5⟩ mv6 e8
        have sq8 : SqOk x0 o8 := sq_fr T6 r0 f8 (fun _ => rfl) (fun _ => rfl) (fun _ => rfl) sq6
        obtain ⟨_, ex, rx⟩ := thR T8 rl (i := 5) (k2 := 70) rfl (by decide)
        refine s_ref ex ?_
        refine s_gd (by rw [thN T8 rx (k := 70) (n := 3000) rfl (by decide)]; exact rg_inB i3 (by decide)) ?_
        have fin : ∀ (t0 : Int32), Sat (nm (x4 ||| t0) fun v_1 => nm (x3 + (1 : Int32)) fun v_2 => nm (x5 + (1 : Int32)) fun v_3 => sX15_legal_28 F f o8 x0 b l v_2 v_1 v_3) (fun o => TH ρ c o ∧ L2 l lf lt lx lk lo gg sd np o) := fun t0 => by
          refine s_q (fun u eu => s_q (fun v ev => s_q (fun y ey => ?_)))
          have ey2 : y.toInt = x5.toInt + 1 := by rw [ey]; exact n5.2
          have ev2 : v.toInt = x3.toInt + 1 := by rw [ev]; exact n3.2
          exact ih T8 sq8 mv8 E8 P8 (by omega) (by omega) (by rw [k8, k6]; omega) (by omega)
        exact s_br (fun _ => fin _) (fun _ => fin _)
theorem tz_of {M : Nat} (T : TH ρ c h) (r0 : ρ x0 = 16) (rb : ρ b = 13) (rl : ρ l = 14) (pe : PE b h) (E : LR ρ l lf lt lx lk lo h) (eM : hR h b 0 = some M) (P : L2 l lf lt lx lk lo (hI h M) (hI h b 1) (hI h b 3).toInt h) : ∃ S Fa Ct P' R A B Ri lm lb, TZ ρ x0 l b S Fa Ct M P' R A B Ri lf lt lm lb lx lk lo (hI h M) (hI h b 1) (hI h b 3).toInt h := by
  obtain ⟨r1, r2, r5, r6, r7⟩ := lr_r T rl E
  obtain ⟨e1, e2, e5, e6, e7⟩ := E
  obtain ⟨lm, e3, r3⟩ := thR T rl (i := 3) (k2 := 68) rfl (by decide)
  obtain ⟨lb, e4, r4⟩ := thR T rl (i := 4) (k2 := 69) rfl (by decide)
  obtain ⟨S, eS, rS⟩ := thR T r0 (i := 25) (k2 := 87) rfl (by decide)
  obtain ⟨Fa, eFa, rFa⟩ := thR T r0 (i := 26) (k2 := 88) rfl (by decide)
  obtain ⟨Ct, eCt, rCt⟩ := thR T r0 (i := 27) (k2 := 89) rfl (by decide)
  obtain ⟨R, eR, rR⟩ := thR T r0 (i := 4) (k2 := 15) rfl (by decide)
  obtain ⟨A, eA, rA⟩ := thR T rR (i := 6) (k2 := 76) rfl (by decide)
  obtain ⟨B, eB, rB⟩ := thR T rR (i := 7) (k2 := 77) rfl (by decide)
  obtain ⟨Ri, eRi, rRi⟩ := thR T rR (i := 8) (k2 := 78) rfl (by decide)
  obtain ⟨P', eP, rP⟩ := thR T rb (i := 4) (k2 := 63) rfl (by decide)
  have rM := rr T (thR T rb (i := 0) (k2 := 62) rfl (by decide)) eM
  exact ⟨S, Fa, Ct, P', R, A, B, Ri, lm, lb, ⟨⟨eS, eFa, eCt, eM, eP, eR, eA, eB, eRi⟩, ⟨r0, rb, rS, rFa, rCt, rM, rP, rR, rA, rB, rRi⟩, fun i => thI T rA rfl, fun i => thI T rB rfl, thI T rb rfl, rfl, pe, fun i => thI T rRi rfl⟩, ⟨⟨e1, e2, e3, e4, e5, e6, e7⟩, ⟨rl, r1, r2, r3, r4, r5, r6, r7⟩, thN T r1 rfl (by decide)⟩, P, fun _ => rfl, rfl, (thI T r0 (i := 13) (lo := 9) (hi := 64) rfl).2⟩
/-- legal: all its moves fit the board -/
theorem legal_z {M : Nat} (hF : 700000 ≤ F) (hA : pmA c [(87, 999), (88, 999), (89, 999), (16, 23), (16, 24), (16, 29)]) (hB : pmO c 2528 [(62, 999), (63, 999), (64, 999), (65, 999), (13, 1), (13, 2), (13, 3), (13, 7)]) (hO : pmO c wl [(66, 999), (67, 999), (68, 999), (69, 999), (70, 999), (71, 999), (72, 999), (14, 0)]) (ob : cw c b = wb) (nb : ¬ wb = 2528) (ol : cw c l = wl) (T : TH ρ c h) (r0 : ρ x0 = 16) (rb : ρ b = 13) (rl : ρ l = 14) (sq : SqOk x0 h) (pe : PE b h) (E : LR ρ l lf lt lx lk lo h) (eM : hR h b 0 = some M) : Sat (sX15_legal F h x0 b l) (fun o => TH ρ c o ∧ L2 l lf lt lx lk lo (hI h M) (hI h b 1) (hI h b 3).toInt o) := by
  have rM := rr T (thR T rb (i := 0) (k2 := 62) rfl (by decide)) eM
  unfold sX15_legal
  refine s_hq (th_wI T rl (k := 14) (lo := 0) (hi := 3000) rfl (rg_m (rg_b rfl : Rg 0 0 (0 : Int32)) (by decide)) (by decide) (by decide) (pm_o hO ol rfl)) (fun h1 T1 w1 => ?_)
  have f1 := fr1Io (c := c) (B := [(14, 0)]) rl ol rfl w1
  have E1 : LR ρ l lf lt lx lk lo h1 := by rw [w1]; exact E
  have z1 : hI h1 l 0 = 0 := by rw [w1, r_I, if_pos ⟨rfl, rfl⟩]
  have n1 : ∀ {gg : Nat → Int32} {sd : Int32} {np : Int} {g : Hp}, hI g l 0 = 0 → L2 l lf lt lx lk lo gg sd np g := fun {gg sd np g} z i hi => by
    rw [z] at hi
    exact absurd hi (by show ¬ (i : Int) < 0; omega)
  have kM1 : ∀ i, hI h1 M i = hI h M i := fun i => by rw [w1, r_I, if_neg (ne_r rM rl (by decide))]
  have kb1 : ∀ i, hI h1 b i = hI h b i := fun i => by rw [w1, r_I, if_neg (ne_r rb rl (by decide))]
  refine s_cIf (S := fS [(16, 29)] []) T1 (fs_sub (pmA_s hA rfl) fs_n) (zX15_early hF fs_a ob (th_in _ T1) r0 rb) (fun o2 T2 i2 f2 => ?_)
  have kM2 : ∀ i, hI o2.2 M i = hI h M i := fun i => by rw [(fr_RI f2 rM (by decide) (fun _ => rfl)).1]; exact kM1 i
  have kb2 : ∀ i, hI o2.2 b i = hI h b i := fun i => by rw [(fr_RI f2 rb (by decide) (fun _ => rfl)).1]; exact kb1 i
  have kl2 : hI o2.2 l 0 = 0 := by rw [(fr_RI f2 rl (by decide) (fun _ => rfl)).1]; exact z1
  have kR2 : ∀ i, hR o2.2 l i = hR h l i := fun i => by rw [(fr_RI f2 rl (by decide) (fun _ => rfl)).2.2, w1]; rfl
  have eM2 : hR o2.2 b 0 = some M := by rw [(fr_RI f2 rb (by decide) (fun _ => rfl)).2.2, w1]; exact eM
  have E2' : LR ρ l lf lt lx lk lo o2.2 := by
    obtain ⟨u1, u2, u5, u6, u7⟩ := E
    exact ⟨by rw [kR2]; exact u1, by rw [kR2]; exact u2, by rw [kR2]; exact u5, by rw [kR2]; exact u6, by rw [kR2]; exact u7⟩
  refine s_br (fun _ => ?_) (fun _ => ?_)
  · have pe2 : PE b o2.2 := pe_fr T1 rb f2 rfl rfl rfl (fun _ => rfl) (fun _ => rfl) (pe_fr T rb f1 rfl rfl rfl (fun _ => rfl) (fun _ => rfl) pe)
    refine s_cVfq (S := fS [(87, 999), (88, 999), (89, 999), (16, 23), (16, 24)] [(wl, [(66, 999), (67, 999), (68, 999), (69, 999), (70, 999), (71, 999), (72, 999), (14, 0)])]) T2 (fs_sub (pmA_s hA rfl) (fs_c hO fs_n)) (s_weq2 (zX15_tryAll hF fs_a (fs_o (.head _)) ob ol (th_in _ T2) r0 rb rl pe2)) (fun o4 T4 f4 w4 => ?_)
    obtain ⟨S, Fa, Ct, P', R, A, B, Ri, lm, lb, Z⟩ := tz_of T2 r0 rb rl pe2 E2' eM2 (n1 kl2)
    obtain ⟨k4, Z4⟩ := tall_z Z w4.2
    have P4 := Z4.2.2.1
    have em : hI o2.2 M = hI h M := funext kM2
    rw [em, kb2, kb2] at P4
    have E4 : LR ρ l lf lt lx lk lo o4 := by
      obtain ⟨u1, u2, u5, u6, u7⟩ := E2'
      exact ⟨by rw [k4.1]; exact u1, by rw [k4.1]; exact u2, by rw [k4.1]; exact u5, by rw [k4.1]; exact u6, by rw [k4.1]; exact u7⟩
    have sq4 : SqOk x0 o4 := sq_fr T2 r0 f4 (fun _ => rfl) (fun _ => rfl) (fun _ => rfl) (sq_fr T1 r0 f2 (fun _ => rfl) (fun _ => rfl) (fun _ => rfl) (sq_fr T r0 f1 (fun _ => rfl) (fun _ => rfl) (fun _ => rfl) sq))
    have z0 : (0 : Int32).toInt = 0 := rfl
    exact lgz_28 hF (pmA_s hA rfl) hB hO ob nb ol r0 rb rl F T4 sq4 w4.1 E4 P4 (by decide) (Int.le_refl _) (by rw [z0]; exact (thI T4 rl (k := 14) (i := 0) (lo := 0) (hi := 3000) rfl).1) (by rw [z0]; omega)
  · exact s_some ⟨T2, n1 kl2⟩
end
