section
section
variable {Bq : Nat × Nat} {ρ : Nat → Nat} {c : Cm} {h o : Hp} {F x0 b l d e : Nat} {x1 x2 x3 x4 x5 : Int32}
def PairOkY (Bq : Nat × Nat) (F x0 : Nat) (A M : Hp → Nat → Int32 → Int32 → Int32 → Int32 → Int32 → Option (Int32 × Hp)) (N : Nat) : Prop :=
  (∀ {ρ : Nat → Nat} {c : Cm} {h : Hp} {b l d : Nat} {x1 x2 x3 x4 x5 : Int32}, (∀ k w i, SD (d + 1) k w i = true → cPm c k w i = true) → TH ρ c h → ρ x0 = 16 → x1.toNatClampNeg = d → 0 ≤ x1.toInt → 1 ≤ x3.toInt → x1.toInt + 2 * x3.toInt ≤ 10 → 2 * x3.toNatClampNeg ≤ N → DWY Bq x0 h → DQ x0 d b l h → 0 ≤ x2.toInt → x2.toInt < (hI h l 0).toInt → Sat (A h x0 x1 x2 x3 x4 x5) (MkI ρ c 0 1 (DWY Bq x0))) ∧
  (∀ {ρ : Nat → Nat} {c : Cm} {h : Hp} {b l d : Nat} {x1 x2 x3 x4 x5 : Int32}, (∀ k w i, SD (d + 1) k w i = true → cPm c k w i = true) → TH ρ c h → ρ x0 = 16 → x1.toNatClampNeg = d → 0 ≤ x1.toInt → 1 ≤ x3.toInt → x1.toInt + 2 * x3.toInt ≤ 9 → 2 * x3.toNatClampNeg + 1 ≤ N → DWY Bq x0 h → DQ x0 d b l h → 0 ≤ x2.toInt → x2.toInt < (hI h l 0).toInt → Sat (M h x0 x1 x2 x3 x4 x5) (MkI ρ c 0 1 (DWY Bq x0)))
theorem move_loopY {N : Nat} {A M : Hp → Nat → Int32 → Int32 → Int32 → Int32 → Int32 → Option (Int32 × Hp)} (R : PairOkY Bq F x0 A M N) : ∀ (f : Nat) {ρ : Nat → Nat} {c : Cm} {h : Hp} {b l d : Nat} {x1 x3 x4 x5 x6 : Int32}, (∀ k w i, SD (d + 2) k w i = true → cPm c k w i = true) → TH ρ c h → ρ x0 = 16 → x1.toNatClampNeg = d → 0 ≤ x1.toInt → 1 ≤ x3.toInt → x1.toInt + 2 * x3.toInt ≤ 9 → 2 * x3.toNatClampNeg ≤ N → DWY Bq x0 h → DQ x0 (d + 1) b l h → 0 ≤ x6.toInt → (3000 - x6.toInt).toNat < f → Sat (sX15_isMove_50 F A M f h x0 x1 x3 x4 x5 x6) (MkI ρ c 0 1 (DWY Bq x0)) := by
  intro f
  induction f with
  | zero => intros; omega
  | succ f ih =>
    intro ρ c h b l d x1 x3 x4 x5 x6 hp T r0 ed i1 i3 i13 hN W D a6 hf
    rw [sX15_isMove_50]
    unfold sX15_isMove_80
    have nx := nc_i i1
    have ix1 : Rg 0 7 x1 := ⟨i1, by omega⟩
    obtain ⟨s1, s2⟩ := nc_s ix1 (by decide)
    rw [ed] at s1
    have ies : Rg 0 9 (x1 + (1 : Int32)) := ⟨by omega, by omega⟩
    refine s_list T r0 ies (b := b) (l := l) (by rw [s1]; exact D.1) ?_
    refine s_br (fun _ => s_some ⟨ρ, c, ex_0, T, rg_b rfl, W⟩) (fun n1 => ?_)
    have lt6 := nle_i n1
    obtain ⟨k1, k2, k3, k4⟩ := dp_r T r0 D.1
    have h3000 := thI T k2 (k := 14) (i := 0) (lo := 0) (hi := 3000) rfl
    have ix : Rg 0 2999 x6 := ⟨a6, by have := h3000.2; omega⟩
    refine s_mI (S := SD (d + 2)) T hp (R.1 (sx_c _) (th_in _ T) r0 s1 (by omega) i3 (by omega) hN W D a6 lt6) (fun o ρ1 c1 X T1 f1 i1' W1 => ?_)
    obtain ⟨D1, e1⟩ := dq_keep T r0 f1 (Nat.lt_succ_self (d + 1)) D
    refine s_br (fun _ => s_some ⟨ρ1, c1, X, T1, rg_b rfl, W1⟩) (fun _ => ?_)
    refine s_q (fun v ev => ?_)
    have ev2 : v.toInt = x6.toInt + 1 := by rw [ev]; exact (nc_s ix (by decide)).2
    exact mI_ext X (ih (ex_hp X hp) T1 (ex_r X r0 (by decide)) ed i1 i3 i13 hN W1 D1 (by omega) (by have := ix.2; omega))
theorem answer_loopY {N : Nat} {A M : Hp → Nat → Int32 → Int32 → Int32 → Int32 → Int32 → Option (Int32 × Hp)} (R : PairOkY Bq F x0 A M N) : ∀ (f : Nat) {ρ : Nat → Nat} {c : Cm} {h : Hp} {b l d : Nat} {x1 x3 x4 x5 x6 : Int32}, (∀ k w i, SD (d + 2) k w i = true → cPm c k w i = true) → TH ρ c h → ρ x0 = 16 → x1.toNatClampNeg = d → 0 ≤ x1.toInt → 2 ≤ x3.toInt → x1.toInt + 2 * x3.toInt ≤ 10 → 2 * x3.toNatClampNeg - 1 ≤ N → DWY Bq x0 h → DQ x0 (d + 1) b l h → 0 ≤ x6.toInt → (3000 - x6.toInt).toNat < f → Sat (sX15_isAnswered_46 F A M f h x0 x1 x3 x4 x5 x6) (MkI ρ c 0 1 (DWY Bq x0)) := by
  intro f
  induction f with
  | zero => intros; omega
  | succ f ih =>
    intro ρ c h b l d x1 x3 x4 x5 x6 hp T r0 ed i1 i3 i13 hN W D a6 hf
    rw [sX15_isAnswered_46]
    unfold sX15_isAnswered_78
    have nx := nc_i i1
    have nx3 := nc_i (x := x3) (by omega)
    have ix1 : Rg 0 7 x1 := ⟨i1, by omega⟩
    obtain ⟨s1, s2⟩ := nc_s ix1 (by decide)
    rw [ed] at s1
    have e3 : (x3 - (1 : Int32)).toInt = x3.toInt - 1 := by
      rw [ti_sub (a := 0) (b := 9) (c := 1) (d := 1) ⟨by omega, by omega⟩ (rg_b rfl) (by decide)]; rfl
    have n3' := nc_i (x := x3 - (1 : Int32)) (by omega)
    have ies : Rg 0 9 (x1 + (1 : Int32)) := ⟨by omega, by omega⟩
    refine s_list T r0 ies (b := b) (l := l) (by rw [s1]; exact D.1) ?_
    refine s_br (fun _ => s_some ⟨ρ, c, ex_0, T, rg_b rfl, W⟩) (fun n1 => ?_)
    have lt6 := nle_i n1
    obtain ⟨k1, k2, k3, k4⟩ := dp_r T r0 D.1
    have h3000 := thI T k2 (k := 14) (i := 0) (lo := 0) (hi := 3000) rfl
    have ix : Rg 0 2999 x6 := ⟨a6, by have := h3000.2; omega⟩
    refine s_mI (S := SD (d + 2)) T hp (R.2 (sx_c _) (th_in _ T) r0 s1 (by omega) (by omega) (by omega) (by omega) W D a6 lt6) (fun o ρ1 c1 X T1 f1 i1' W1 => ?_)
    obtain ⟨D1, e1⟩ := dq_keep T r0 f1 (Nat.lt_succ_self (d + 1)) D
    refine s_br (fun _ => ?_) (fun _ => s_some ⟨ρ1, c1, X, T1, rg_b rfl, W1⟩)
    refine s_q (fun v ev => ?_)
    have ev2 : v.toInt = x6.toInt + 1 := by rw [ev]; exact (nc_s ix (by decide)).2
    exact mI_ext X (ih (ex_hp X hp) T1 (ex_r X r0 (by decide)) ed i1 i3 i13 hN W1 D1 (by omega) (by have := ix.2; omega))
theorem pair_stepY {N : Nat} {A M : Hp → Nat → Int32 → Int32 → Int32 → Int32 → Int32 → Option (Int32 × Hp)} (hF : 700000 ≤ F) (R : PairOkY Bq F x0 A M N) : PairOkY Bq F x0 (fun h x0 x1 x2 x3 x4 x5 => oX15_isAnswered F A M h x0 x1 x2 x3 x4 x5) (fun h x0 x1 x2 x3 x4 x5 => oX15_isMove F A M h x0 x1 x2 x3 x4 x5) (N + 1) := by
  refine ⟨fun {ρ c h b l d x1 x2 x3 x4 x5} hp T r0 ed i1 i3 i13 hN W D i2 lt => ?_, fun {ρ c h b l d x1 x2 x3 x4 x5} hp T r0 ed i1 i3 i13 hN W D i2 lt => ?_⟩
  · show Sat (oX15_isAnswered F A M h x0 x1 x2 x3 x4 x5) _
    have nx := nc_i i1
    have ix1 : Rg 0 8 x1 := ⟨i1, by omega⟩
    obtain ⟨s1, s2⟩ := nc_s ix1 (by decide)
    rw [ed] at s1
    have ies : Rg 0 9 (x1 + (1 : Int32)) := ⟨by omega, by omega⟩
    unfold oX15_isAnswered
    refine s_stepY hF hp ed (by omega) T r0 i1 W D i2 lt (fun o ρ1 c1 b' l' X T1 W1 _ _ D1 => ?_)
    have r1 := ex_r X r0 (by decide)
    have hp1 := ex_hp X hp
    have rest : ∀ {g : Hp}, TH ρ1 c1 g → DWY Bq x0 g → DQ x0 (d + 1) b' l' g → Sat (sX15_isAnswered_26 F A M g x0 x1 x3 x4 x5) (MkI ρ c 0 1 (DWY Bq x0)) := fun {g} T2 W2 D2 => by
      unfold sX15_isAnswered_26 sX15_isAnswered_38 sX15_isAnswered_41
      refine s_br (fun _ => s_some ⟨ρ1, c1, X, T2, rg_b rfl, W2⟩) (fun n => ?_)
      have n' := ne_i n
      have one : (1 : Int32).toInt = 1 := rfl
      have hs : ∀ k w i, SX no no no k w i = true → cPm c1 k w i = true := fun k w i m => hp1 k w i (sx_sub (fun _ z => no_f z) (fun _ z => no_f z) (fun _ z => no_f z) m)
      refine s_cIf T2 hs (zX15_hasEnded hF (sxA (sx_c _)) (th_in _ T2) r1 ies (b := b') (l := l') (by rw [s1]; exact D2.1)) (fun o3 T3 i3' f3 => ?_)
      have W3 := dw_keep0Y T2 r1 f3 W2
      obtain ⟨a1, a2, a3, a4⟩ := dp_keep T2 r1 f3 rfl rfl rfl D2.1
      refine s_br (fun _ => ?_) (fun _ => s_some ⟨ρ1, c1, X, T3, rg_b rfl, W3⟩)
      exact mI_ext X (answer_loopY R F (fun k w i m => hp1 k w i (sd_sub (Nat.le_succ _) m)) T3 r1 ed i1 (by omega) i13 (by omega) W3 ⟨a1, a3 D2.2.1, a4 D2.2.2⟩ (by decide) (by show (3000 - (0 : Int)).toNat < F; omega))
    unfold sX15_isAnswered_6 sX15_isAnswered_21
    refine s_br (fun _ => ?_) (fun _ => rest T1 W1 D1)
    have hs : ∀ k w i, SX no no no k w i = true → cPm c1 k w i = true := fun k w i m => hp1 k w i (sx_sub (fun _ z => no_f z) (fun _ z => no_f z) (fun _ z => no_f z) m)
    refine s_cIf T1 hs (zX15_isGoal hF (sxA (sx_c _)) (th_in _ T1) r1 ies (b := b') (l := l') (by rw [s1]; exact D1.1)) (fun o3 T3 i3' f3 => ?_)
    have W3 := dw_keep0Y T1 r1 f3 W1
    obtain ⟨a1, a2, a3, a4⟩ := dp_keep T1 r1 f3 rfl rfl rfl D1.1
    exact s_br (fun _ => rest T3 W3 ⟨a1, a3 D1.2.1, a4 D1.2.2⟩) (fun _ => s_some ⟨ρ1, c1, X, T3, rg_b rfl, W3⟩)
  · show Sat (oX15_isMove F A M h x0 x1 x2 x3 x4 x5) _
    have nx := nc_i i1
    have ix1 : Rg 0 8 x1 := ⟨i1, by omega⟩
    obtain ⟨s1, s2⟩ := nc_s ix1 (by decide)
    rw [ed] at s1
    have ies : Rg 0 9 (x1 + (1 : Int32)) := ⟨by omega, by omega⟩
    unfold oX15_isMove
    refine s_stepY hF hp ed (by omega) T r0 i1 W D i2 lt (fun o ρ1 c1 b' l' X T1 W1 _ _ D1 => ?_)
    have r1 := ex_r X r0 (by decide)
    have hp1 := ex_hp X hp
    have hs : ∀ k w i, SX no no no k w i = true → cPm c1 k w i = true := fun k w i m => hp1 k w i (sx_sub (fun _ z => no_f z) (fun _ z => no_f z) (fun _ z => no_f z) m)
    have rest : ∀ {g : Hp}, TH ρ1 c1 g → DWY Bq x0 g → DQ x0 (d + 1) b' l' g → Sat (sX15_isMove_25 F A M g x0 x1 x3 x4 x5) (MkI ρ c 0 1 (DWY Bq x0)) := fun {g} T2 W2 D2 => by
      unfold sX15_isMove_25 sX15_isMove_32 sX15_isMove_45 sX15_isMove_47
      refine s_cIf T2 hs (zX15_hasEnded hF (sxA (sx_c _)) (th_in _ T2) r1 ies (b := b') (l := l') (by rw [s1]; exact D2.1)) (fun o3 T3 i3' f3 => ?_)
      have W3 := dw_keep0Y T2 r1 f3 W2
      obtain ⟨a1, a2, a3, a4⟩ := dp_keep T2 r1 f3 rfl rfl rfl D2.1
      have lp : Sat (sX15_isMove_50 F A M F o3.2 x0 x1 x3 x4 x5 0) (MkI ρ c 0 1 (DWY Bq x0)) := mI_ext X (move_loopY R F (fun k w i m => hp1 k w i (sd_sub (Nat.le_succ _) m)) T3 r1 ed i1 i3 i13 (by omega) W3 ⟨a1, a3 D2.2.1, a4 D2.2.2⟩ (by decide) (by show (3000 - (0 : Int)).toNat < F; omega))
      have st : Sat (some ((0 : Int32), o3.2)) (MkI ρ c 0 1 (DWY Bq x0)) := s_some ⟨ρ1, c1, X, T3, rg_b rfl, W3⟩
      exact s_br (fun _ => s_br (fun _ => s_br (fun _ => st) (fun _ => lp)) (fun _ => lp)) (fun _ => st)
    unfold sX15_isMove_6 sX15_isMove_20
    refine s_br (fun _ => ?_) (fun _ => rest T1 W1 D1)
    refine s_cIf T1 hs (zX15_isGoal hF (sxA (sx_c _)) (th_in _ T1) r1 ies (b := b') (l := l') (by rw [s1]; exact D1.1)) (fun o3 T3 i3' f3 => ?_)
    have W3 := dw_keep0Y T1 r1 f3 W1
    obtain ⟨a1, a2, a3, a4⟩ := dp_keep T1 r1 f3 rfl rfl rfl D1.1
    exact s_br (fun _ => rest T3 W3 ⟨a1, a3 D1.2.1, a4 D1.2.2⟩) (fun _ => s_some ⟨ρ1, c1, X, T3, rg_b rfl, W3⟩)
theorem pair_allY (hF : 700000 ≤ F) : ∀ N, PairOkY Bq F x0 (qX15_isAnswered F N).1 (qX15_isAnswered F N).2 N := by
  intro N
  induction N with
  | zero => exact ⟨fun {ρ c h b l d x1 x2 x3 x4 x5} _ _ _ _ _ i3 _ n => by have := nc_i (x := x3) (by omega); omega, fun {ρ c h b l d x1 x2 x3 x4 x5} _ _ _ _ _ _ _ n => by omega⟩
  | succ N ih => exact pair_stepY hF ih
theorem zX15_isMoveY (hF : 700000 ≤ F) (hp : ∀ k w i, SD (d + 1) k w i = true → cPm c k w i = true) (T : TH ρ c h) (r0 : ρ x0 = 16) (ed : x1.toNatClampNeg = d) (i1 : 0 ≤ x1.toInt) (i3 : 1 ≤ x3.toInt) (i13 : x1.toInt + 2 * x3.toInt ≤ 9) (W : DWY Bq x0 h) (D : DQ x0 d b l h) (i2 : 0 ≤ x2.toInt) (lt : x2.toInt < (hI h l 0).toInt) : Sat (sX15_isMove F h x0 x1 x2 x3 x4 x5) (MkI ρ c 0 1 (DWY Bq x0)) := (pair_allY hF 40).2 hp T r0 ed i1 i3 i13 (by have := nc_i (x := x3) (by omega); omega) W D i2 lt
theorem zX15_isAnsweredY (hF : 700000 ≤ F) (hp : ∀ k w i, SD (d + 1) k w i = true → cPm c k w i = true) (T : TH ρ c h) (r0 : ρ x0 = 16) (ed : x1.toNatClampNeg = d) (i1 : 0 ≤ x1.toInt) (i3 : 1 ≤ x3.toInt) (i13 : x1.toInt + 2 * x3.toInt ≤ 10) (W : DWY Bq x0 h) (D : DQ x0 d b l h) (i2 : 0 ≤ x2.toInt) (lt : x2.toInt < (hI h l 0).toInt) : Sat (sX15_isAnswered F h x0 x1 x2 x3 x4 x5) (MkI ρ c 0 1 (DWY Bq x0)) := (pair_allY hF 40).1 hp T r0 ed i1 i3 i13 (by have := nc_i (x := x3) (by omega); omega) W D i2 lt
def GoalOkY (Bq : Nat × Nat) (F x0 : Nat) (G : Hp → Nat → Int32 → Int32 → Int32 → Int32 → Option (Int32 × Hp)) (B : Hp → Nat → Int32 → Int32 → Int32 → Int32 → Int32 → Option (Int32 × Hp)) (N : Nat) : Prop :=
  (∀ {ρ : Nat → Nat} {c : Cm} {h : Hp} {b l d : Nat} {x1 x2 x3 x4 : Int32}, (∀ k w i, SD (d + 1) k w i = true → cPm c k w i = true) → TH ρ c h → ρ x0 = 16 → x1.toNatClampNeg = d → 0 ≤ x1.toInt → 1 ≤ x2.toInt → x1.toInt + x2.toInt ≤ 9 → 2 * x2.toNatClampNeg + 1 ≤ N → DWY Bq x0 h → DQ x0 d b l h → Sat (G h x0 x1 x2 x3 x4) (MkI ρ c (-2147483648) 2147483647 (DWY Bq x0))) ∧
  (∀ {ρ : Nat → Nat} {c : Cm} {h : Hp} {b l d : Nat} {x1 x2 x3 x4 x5 : Int32}, (∀ k w i, SD (d + 1) k w i = true → cPm c k w i = true) → TH ρ c h → ρ x0 = 16 → x1.toNatClampNeg = d → 0 ≤ x1.toInt → 1 ≤ x3.toInt → x1.toInt + x3.toInt ≤ 9 → 2 * x3.toNatClampNeg ≤ N → DWY Bq x0 h → DQ x0 d b l h → 0 ≤ x2.toInt → x2.toInt < (hI h l 0).toInt → Sat (B h x0 x1 x2 x3 x4 x5) (MkI ρ c (-2147483648) 2147483647 (DWY Bq x0)))
theorem goal_loopY {N : Nat} {G : Hp → Nat → Int32 → Int32 → Int32 → Int32 → Option (Int32 × Hp)} {B : Hp → Nat → Int32 → Int32 → Int32 → Int32 → Int32 → Option (Int32 × Hp)} (R : GoalOkY Bq F x0 G B N) : ∀ (f : Nat) {ρ : Nat → Nat} {c : Cm} {h : Hp} {b l d : Nat} {x1 x2 x3 x4 x5 x6 : Int32}, (∀ k w i, SD (d + 1) k w i = true → cPm c k w i = true) → TH ρ c h → ρ x0 = 16 → x1.toNatClampNeg = d → 0 ≤ x1.toInt → 1 ≤ x2.toInt → x1.toInt + x2.toInt ≤ 9 → 2 * x2.toNatClampNeg ≤ N → DWY Bq x0 h → DQ x0 d b l h → 0 ≤ x6.toInt → (3000 - x6.toInt).toNat < f → Sat (sX15_goalRows_6 F G B f h x0 x1 x2 x3 x4 x5 x6) (MkI ρ c (-2147483648) 2147483647 (DWY Bq x0)) := by
  intro f
  induction f with
  | zero => intros; omega
  | succ f ih =>
    intro ρ c h b l d x1 x2 x3 x4 x5 x6 hp T r0 ed i1 i2 i12 hN W D a6 hf
    rw [sX15_goalRows_6]
    unfold sX15_goalRows_33
    have nx := nc_i i1
    have ix1 : Rg 0 9 x1 := ⟨i1, by omega⟩
    refine s_list T r0 ix1 (b := b) (l := l) (by rw [ed]; exact D.1) ?_
    refine s_br (fun _ => s_some ⟨ρ, c, ex_0, T, rg_top _, W⟩) (fun n1 => ?_)
    have lt6 := nle_i n1
    obtain ⟨k1, k2, k3, k4⟩ := dp_r T r0 D.1
    have h3000 := thI T k2 (k := 14) (i := 0) (lo := 0) (hi := 3000) rfl
    have ix : Rg 0 2999 x6 := ⟨a6, by have := h3000.2; omega⟩
    refine s_mI (S := SD (d + 1)) T hp (R.2 (sx_c _) (th_in _ T) r0 ed i1 i2 i12 hN W D a6 lt6) (fun o ρ1 c1 X T1 f1 i1' W1 => ?_)
    obtain ⟨D1, e1⟩ := dq_keep T r0 f1 (Nat.lt_succ_self d) D
    refine s_q (fun u eu => ?_)
    refine s_q (fun v ev => ?_)
    have ev2 : v.toInt = x6.toInt + 1 := by rw [ev]; exact (nc_s ix (by decide)).2
    exact mI_ext X (ih (ex_hp X hp) T1 (ex_r X r0 (by decide)) ed i1 i2 i12 hN W1 D1 (by omega) (by have := ix.2; omega))
theorem goal_stepY {N : Nat} {G : Hp → Nat → Int32 → Int32 → Int32 → Int32 → Option (Int32 × Hp)} {B : Hp → Nat → Int32 → Int32 → Int32 → Int32 → Int32 → Option (Int32 × Hp)} (hF : 700000 ≤ F) (R : GoalOkY Bq F x0 G B N) : GoalOkY Bq F x0 (fun h x0 x1 x2 x3 x4 => oX15_goalRows F G B h x0 x1 x2 x3 x4) (fun h x0 x1 x2 x3 x4 x5 => oX15_goalRowsBy F G B h x0 x1 x2 x3 x4 x5) (N + 1) := by
  refine ⟨fun {ρ c h b l d x1 x2 x3 x4} hp T r0 ed i1 i2 i12 hN W D => ?_, fun {ρ c h b l d x1 x2 x3 x4 x5} hp T r0 ed i1 i3 i13 hN W D i2 lt => ?_⟩
  · show Sat (oX15_goalRows F G B h x0 x1 x2 x3 x4) _
    unfold oX15_goalRows
    exact goal_loopY R F hp T r0 ed i1 i2 i12 (by omega) W D (by decide) (by show (3000 - (0 : Int)).toNat < F; omega)
  · show Sat (oX15_goalRowsBy F G B h x0 x1 x2 x3 x4 x5) _
    have nx := nc_i i1
    have nx3 := nc_i (x := x3) (by omega)
    have ix1 : Rg 0 8 x1 := ⟨i1, by omega⟩
    obtain ⟨s1, s2⟩ := nc_s ix1 (by decide)
    rw [ed] at s1
    have e3 : (x3 - (1 : Int32)).toInt = x3.toInt - 1 := by
      rw [ti_sub (a := 0) (b := 9) (c := 1) (d := 1) ⟨by omega, by omega⟩ (rg_b rfl) (by decide)]; rfl
    have n3' := nc_i (x := x3 - (1 : Int32)) (by omega)
    have ies : Rg 0 9 (x1 + (1 : Int32)) := ⟨by omega, by omega⟩
    unfold oX15_goalRowsBy
    refine s_stepY hF hp ed (by omega) T r0 i1 W D i2 lt (fun o ρ1 c1 b' l' X T1 W1 _ _ D1 => ?_)
    have r1 := ex_r X r0 (by decide)
    have hp1 := ex_hp X hp
    unfold sX15_goalRowsBy_6 sX15_goalRowsBy_20 sX15_goalRowsBy_28 sX15_goalRowsBy_41 sX15_goalRowsBy_54 sX15_goalRowsBy_65 sX15_goalRowsBy_79
    refine s_br (fun _ => ?_) (fun n => ?_)
    · have hs : ∀ k w i, SX no no no k w i = true → cPm c1 k w i = true := fun k w i m => hp1 k w i (sx_sub (fun _ z => no_f z) (fun _ z => no_f z) (fun _ z => no_f z) m)
      refine s_cIf T1 hs (zX15_isGoal hF (sxA (sx_c _)) (th_in _ T1) r1 ies (b := b') (l := l') (by rw [s1]; exact D1.1)) (fun o3 T3 i3' f3 => ?_)
      have W3 := dw_keep0Y T1 r1 f3 W1
      exact s_br (fun _ => s_some ⟨ρ1, c1, X, T3, rg_top _, W3⟩) (fun _ => s_some ⟨ρ1, c1, X, T3, rg_top _, W3⟩)
    · have n' := ne_i n
      have one : (1 : Int32).toInt = 1 := rfl
      have down : ∀ {g : Hp}, TH ρ1 c1 g → DWY Bq x0 g → DQ x0 (d + 1) b' l' g → Sat (cl (G g x0 (x1 + (1 : Int32)) (x3 - (1 : Int32)) x4 x5) fun o_1 => some (o_1.1, o_1.2)) (MkI ρ c (-2147483648) 2147483647 (DWY Bq x0)) := fun {g} T2 W2 D2 => by
        refine s_cl (s_imp (R.1 (fun k w i m => hp1 k w i (sd_sub (Nat.le_succ _) m)) T2 r1 s1 (by omega) (by omega) (by omega) (by omega) W2 D2) (fun o4 ⟨ρ2, c2, Y, z⟩ => s_some ⟨ρ2, c2, ex_t X Y, z⟩))
      refine s_br (fun _ => down T1 W1 D1) (fun _ => ?_)
      obtain ⟨o6, e6, T6, i6, W6, D6', P6⟩ := zX15_turnsBackY (c := c1) (b := b') (l := l') hF hp1 sdb_0 (by rw [s1]; exact sdb_t (Nat.le_refl _) (by omega)) (by rw [s1]; exact sdl_t (Nat.le_refl _) (by omega)) T1 r1 ies W1 (by rw [s1]; exact D1.1) D1.2.1
      refine s_val e6 ?_
      refine s_br (fun _ => s_some ⟨ρ1, c1, X, T6, rg_top _, W6⟩) (fun nz => ?_)
      refine s_deep0 T6 r1 ies D6' ?_
      refine s_list T6 r1 ies D6' ?_
      rw [s1] at D6'
      exact s_legalY hF hp1 sdb_0 (sdl_t (Nat.le_refl _) (by omega)) T6 r1 W6 D6' (P6 nz) (fun o8 T8 _ W8 D8 P8 M8 => down T8 W8 ⟨D8, P8, M8⟩)
theorem goal_allY (hF : 700000 ≤ F) : ∀ N, GoalOkY Bq F x0 (qX15_goalRows F N).1 (qX15_goalRows F N).2 N := by
  intro N
  induction N with
  | zero => exact ⟨fun {ρ c h b l d x1 x2 x3 x4} _ _ _ _ _ _ _ n => by omega, fun {ρ c h b l d x1 x2 x3 x4 x5} _ _ _ _ _ i3 _ n => by have := nc_i (x := x3) (by omega); omega⟩
  | succ N ih => exact goal_stepY hF ih
theorem zX15_goalRowsByY (hF : 700000 ≤ F) (hp : ∀ k w i, SD (d + 1) k w i = true → cPm c k w i = true) (T : TH ρ c h) (r0 : ρ x0 = 16) (ed : x1.toNatClampNeg = d) (i1 : 0 ≤ x1.toInt) (i3 : 1 ≤ x3.toInt) (i13 : x1.toInt + x3.toInt ≤ 9) (W : DWY Bq x0 h) (D : DQ x0 d b l h) (i2 : 0 ≤ x2.toInt) (lt : x2.toInt < (hI h l 0).toInt) : Sat (sX15_goalRowsBy F h x0 x1 x2 x3 x4 x5) (MkI ρ c (-2147483648) 2147483647 (DWY Bq x0)) := (goal_allY hF 40).2 hp T r0 ed i1 i3 i13 (by have := nc_i (x := x3) (by omega); omega) W D i2 lt
theorem room_loopY (hF : 700000 ≤ F) : ∀ (f : Nat) {ρ : Nat → Nat} {c : Cm} {h : Hp} {b : Nat} {x2 x3 x4 : Int32}, (∀ k w i, SD 0 k w i = true → cPm c k w i = true) → TH ρ c h → ρ x0 = 16 → ρ b = 13 → cw c b = 3400 → x2.toInt ≤ 9 → DWY Bq x0 h → PE b h → 1 ≤ x4.toInt → (10 - x4.toInt).toNat < f → Sat (sX15_isRoom_3 F f h x0 b x2 x3 x4) (MkI ρ c 0 1 (DWY Bq x0)) := by
  intro f
  induction f with
  | zero => intros; omega
  | succ f ih =>
    intro ρ c h b x2 x3 x4 hp T r0 rb wb i2 W P a4 hf
    rw [sX15_isRoom_3]
    unfold sX15_isRoom_14 sX15_isRoom_18 sX15_isRoom_26
    refine s_br (fun _ => s_some ⟨ρ, c, ex_0, T, rg_b rfl, W⟩) (fun n => ?_)
    have le4 := nlt_i n
    have i0 : Rg 0 9 (0 : Int32) := rg_b rfl
    have z0 : (0 : Int32).toNatClampNeg = 0 := rfl
    have zz : (0 : Int32).toInt = 0 := rfl
    refine s_deepY hp (sdp_t (Nat.zero_le _)) T r0 i0 W (fun o4 ρ1 c1 l' X1 T1 f1 W1 D1 => ?_)
    rw [z0] at D1
    have r1 := ex_r X1 r0 (by decide)
    have hp1 := ex_hp X1 hp
    have rb1 := ex_r X1 rb (by decide)
    have wb1 := ex_w X1 rb (by decide) wb
    have P1 : PE b o4.2 := pe_fr T rb f1 (sx_f (Or.inl rfl) rfl (Or.inr rfl) (Or.inl rfl)) (sx_f (Or.inl rfl) rfl (Or.inr rfl) (Or.inl rfl)) (sx_f (Or.inl rfl) rfl (Or.inr rfl) (Or.inl rfl)) (fun i => sx_f (Or.inl rfl) rfl (Or.inr rfl) (Or.inl rfl)) (fun i => sx_f (Or.inl rfl) rfl (Or.inr rfl) (Or.inl rfl)) P
    obtain ⟨j1, j2, j3, j4⟩ := dp_r T1 r1 D1
    have hs : ∀ k w i, SX no (is 3500) no k w i = true → cPm c1 k w i = true := fun k w i m => hp1 k w i (sx_sub (fun _ z => no_f z) (fun w z => by rw [is_e z]; rfl) (fun _ z => no_f z) m)
    refine s_cVfq T1 hs (s_weq (zX12_copy hF (pmO_s (w := 3500) (sxB (sx_c _) rfl) rfl) j3 wb1 (th_in _ T1) j1 rb1)) (fun o5 T5 f5 e5 => ?_)
    have P5 := pe_copy T1 j1 rb1 P1 e5
    have W5 := dw_keep0Y T1 r1 f5 W1
    have D5 := dp_keep0 T1 r1 f5 D1
    have Pb5 : PE b o5 := pe_fr T1 rb1 f5 (sx_f (Or.inl rfl) rfl (Or.inr (by rw [wb1]; rfl)) (Or.inl rfl)) (sx_f (Or.inl rfl) rfl (Or.inr (by rw [wb1]; rfl)) (Or.inl rfl)) (sx_f (Or.inl rfl) rfl (Or.inr (by rw [wb1]; rfl)) (Or.inl rfl)) (fun i => sx_f (Or.inl rfl) rfl (Or.inr (by rw [wb1]; rfl)) (Or.inl rfl)) (fun i => sx_f (Or.inl rfl) rfl (Or.inr (by rw [wb1]; rfl)) (Or.inl rfl)) P1
    refine s_mI (S := SD 0) T5 hp1 (zX15_countRowsY (d := 0) hF (sx_c _) (th_in _ T5) r1 rfl (by decide) (by omega) (by rw [zz]; omega) W5 D5 P5) (fun o ρ2 c2 Y T6 f6 i6 W6 => ?_)
    have Pb6 : PE b o.2 := pe_fr T5 rb1 f6 (sx_f (Or.inl rfl) rfl (Or.inr (by rw [wb1]; rfl)) (Or.inl rfl)) (sx_f (Or.inl rfl) rfl (Or.inr (by rw [wb1]; rfl)) (Or.inl rfl)) (sx_f (Or.inl rfl) rfl (Or.inr (by rw [wb1]; rfl)) (Or.inl rfl)) (fun i => sx_f (Or.inl rfl) rfl (Or.inr (by rw [wb1]; rfl)) (Or.inl rfl)) (fun i => sx_f (Or.inl rfl) rfl (Or.inr (by rw [wb1]; rfl)) (Or.inl rfl)) Pb5
    refine s_br (fun _ => ?_) (fun _ => s_some ⟨ρ2, c2, ex_t X1 Y, T6, rg_b rfl, W6⟩)
    refine s_q (fun v ev => ?_)
    have ix : Rg 0 9 x4 := ⟨by omega, by omega⟩
    have ev2 : v.toInt = x4.toInt + 1 := by rw [ev]; exact (nc_s ix (by decide)).2
    exact mI_ext (ex_t X1 Y) (ih (ex_hp Y hp1) T6 (ex_r Y r1 (by decide)) (ex_r Y rb1 (by decide)) (ex_w Y rb1 (by decide) wb1) i2 W6 Pb6 (by omega) (by omega))
theorem zX15_isRoomY (hF : 700000 ≤ F) (hp : ∀ k w i, SD 0 k w i = true → cPm c k w i = true) (T : TH ρ c h) (r0 : ρ x0 = 16) (rb : ρ b = 13) (wb : cw c b = 3400) (i2 : x2.toInt ≤ 9) (W : DWY Bq x0 h) (P : PE b h) : Sat (sX15_isRoom F h x0 b x2 x3) (MkI ρ c 0 1 (DWY Bq x0)) := by
  unfold sX15_isRoom
  exact room_loopY hF F hp T r0 rb wb i2 W P (by decide) (by show (10 - (1 : Int)).toNat < F; omega)
end
end
section
section
variable {Bq : Nat × Nat} {ρ : Nat → Nat} {c : Cm} {h o : Hp} {F x0 b l d i : Nat} {x1 x2 x3 x4 : Int32} {p wb wl : Nat → Bool}
theorem s_firstY {β : Type} {Q : β → Prop} {k : Hp → Option β} (hF : 700000 ≤ F) (hp : ∀ k w i, SX p wb wl k w i = true → cPm c k w i = true) (h2 : wb 3500 = true) (T : TH ρ c h) (r0 : ρ x0 = 16) (W : DWY Bq x0 h) (D : Dp x0 0 d l h) (B : BK x0 i b h) (H : ∀ o, TH ρ c o → Fr ρ (cat c (SX no (is 3500) no) h) h o → DWY Bq x0 o → Dp x0 0 d l o → PE d o → BK x0 i b o → Sat (k o) Q) : Sat (cl (sX12_copy h d b) k) Q := by
  obtain ⟨rb, wb'⟩ := bk_r T r0 B
  obtain ⟨j1, j2, j3, j4⟩ := dp_r T r0 D
  have hs : ∀ k w i, SX no (is 3500) no k w i = true → cPm c k w i = true := fun k w i m => hp k w i (sx_sub (fun _ z => no_f z) (fun w z => by rw [is_e z]; exact h2) (fun _ z => no_f z) m)
  refine s_cVfq T hs (s_weq (zX12_copy hF (pmO_s (w := 3500) (sxB (sx_c _) rfl) rfl) j3 wb' (th_in _ T) j1 rb)) (fun o5 T5 f5 e5 => ?_)
  have B1 := B
  obtain ⟨_, _, _, PB⟩ := B1
  exact H o5 T5 f5 (dw_keep0Y T r0 f5 W) (dp_keep0 T r0 f5 D) (pe_copy T j1 rb PB e5) (bk_keep T r0 f5 rfl B)
theorem zX15_rowsY (hF : 700000 ≤ F) (hp : ∀ k w i, SD 0 k w i = true → cPm c k w i = true) (T : TH ρ c h) (r0 : ρ x0 = 16) (bd : BdP x0 h) (W : DWY Bq x0 h) : Sat (sX15_rows F h x0 x1 x2) (MkI ρ c (-104) 600001 (DWY Bq x0)) := by
  unfold sX15_rows sX15_rows_10
  have ex : Sat (some ((-101 : Int32), h)) (MkI ρ c (-104) 600001 (DWY Bq x0)) := s_some ⟨ρ, c, ex_0, T, rg_b rfl, W⟩
  refine s_br (fun _ => ex) (fun n1 => ?_)
  refine s_br (fun n2 => ?_) (fun _ => ex)
  have a2 : 0 ≤ x2.toInt := nlt_i n1
  have b2 : x2.toInt ≤ 6 := le_i n2
  refine s_dP0 (zX15_has hF T r0 (rg_top _)) (fun oo eb e ii pp => ?_)
  rw [e]
  unfold sX15_rows_18
  refine s_br (fun _ => s_some ⟨ρ, c, ex_0, T, rg_b rfl, W⟩) (fun nz => ?_)
  have i1 := pp nz
  obtain ⟨b, B⟩ := bk_of T r0 (hb_of T r0 bd eb nz)
  obtain ⟨rb, wb'⟩ := bk_r T r0 B
  have PB : PE b h := by obtain ⟨_, _, _, q⟩ := B; exact q
  refine s_bk T r0 i1 B ?_
  refine s_mI (S := SD 0) T hp (zX15_isRoomY hF (sx_c _) (th_in _ T) r0 rb wb' (by omega) W PB) (fun o1 ρ1 c1 X1 T1 f1 j1 W1 => ?_)
  have B1 := bk_keep T r0 f1 rfl B
  have r1 := ex_r X1 r0 (by decide)
  have hp1 := ex_hp X1 hp
  unfold sX15_rows_36
  refine s_br (fun _ => s_some ⟨ρ1, c1, X1, T1, rg_b rfl, W1⟩) (fun _ => ?_)
  refine s_deepY hp1 (sdp_t (Nat.zero_le _)) T1 r1 (rg_b rfl) W1 (fun o2 ρ2 c2 l' X2 T2 f2 W2 D2 => ?_)
  have B2 := bk_keep T1 r1 f2 rfl B1
  have r2 := ex_r X2 r1 (by decide)
  have hp2 := ex_hp X2 hp1
  unfold sX15_rows_47
  refine s_bk T2 r2 i1 B2 ?_
  refine s_firstY hF hp2 rfl T2 r2 W2 D2 B2 (fun o3 T3 f3 W3 D3 P3 B3 => ?_)
  unfold sX15_rows_56 sX15_rows_63
  have zz : (0 : Int32).toInt = 0 := rfl
  refine s_mI (S := SD 0) T3 hp2 (zX15_countRowsY (d := 0) hF (sx_c _) (th_in _ T3) r2 rfl (by decide) a2 (by rw [zz]; omega) W3 D3 P3) (fun o4 ρ4 c4 X4 T4 f4 j4 W4 => ?_)
  exact s_some ⟨ρ4, c4, ex_t X1 (ex_t X2 X4), T4, ⟨show (-104 : Int) ≤ o4.1.toInt by have := j4.1; omega, show o4.1.toInt ≤ 600001 by have := j4.2; omega⟩, W4⟩
theorem dw_wY {A : List (Nat × Nat)} (hA : ∀ k i, k ≠ 111 → (k = 16 → i < 64) → mS A k i = false) (T : TH ρ c h) (r0 : ρ x0 = 16) (f : Fr ρ (cat c (fS A []) h) h o) (W : DWY Bq x0 h) (q1 : o.1 = h.1 := by first | assumption | (apply th1e <;> assumption)) : DWY Bq x0 o := by
  have z : ∀ k i, k ≠ 111 → (k = 16 → i < 64) → ∀ w, fS A [] k w i = false := fun k i a1 a2 w => fs_nf (hA k i a1 a2)
  have y := dw_w hA T r0 f (dwy_p W)
  exact ⟨y.1, y.2, pay_k0 T r0 (k2 := 90) rfl (by decide) q1 (fr_RI f r0 (by decide) (z _ _ (by decide) (by intro q; omega))).2.2 (fun r i qr => (fr_RI f qr (by decide) (z _ _ (by decide) (by intro q; omega))).2.2) W.2.2⟩
end
end
section
section
variable {Bq : Nat × Nat} {ρ : Nat → Nat} {c : Cm} {h o : Hp} {F x0 b l d i : Nat} {x1 x2 x3 x4 : Int32} {p wb wl : Nat → Bool}
theorem s_f16Y {β : Type} {Q : β → Prop} {j : Nat} {v : Int32} {lo hi : Int} {k : Hp → Option β} (hq : cPm c 16 (cw c x0) j = true) (hj : 64 ≤ j) (h9 : j ≠ 999) (hr : rgI 16 j = (lo, hi)) (iv : Rg lo hi v) (hrp : rP (c.2.1 50) (cw c x0) 16 j v) (T : TH ρ c h) (r0 : ρ x0 = 16) (W : DWY Bq x0 h) (B : BK x0 i b h) (H : ∀ g, TH ρ c g → g = wI h x0 j v → DWY Bq x0 g → BK x0 i b g → Sat (k g) Q) : Sat (nm (wI h x0 j v) k) Q := by
  refine s_hq (th_wI T r0 hr iv (by decide) (by decide) hq hrp) (fun g Tg eg => ?_)
  have fg := fr1I (c := c) (A := [(16, j)]) (k := 16) (i := j) r0 (by show ((16 == 16 && (j == 999 || j == j)) || false) = true; simp) eg
  exact H g Tg eg (dw_wY (a16 hj h9) T r0 fg W) (bk_w (a16 hj h9) T r0 fg B)
theorem prob_loopY (hF : 700000 ≤ F) : ∀ (f : Nat) {ρ : Nat → Nat} {c : Cm} {h : Hp} {b l : Nat} {x2 x3 x4 x6 x7 : Int32}, (∀ k w i, SD 1 k w i = true → cPm c k w i = true) → pmA c [(16, 70), (111, 999)] → TH ρ c h → ρ x0 = 16 → Rg 1 4 x4 → DWY Bq x0 h → DQ x0 0 b l h → 1 ≤ (hI h x0 68).toInt → 0 ≤ x7.toInt → (hI h x0 70).toInt ≤ x7.toInt → (3000 - x7.toInt).toNat < f → Sat (sX15_problem_197 F f h x0 x2 x3 x4 x6 x7) (MkI ρ c (-2147483648) 2147483647 (fun o => DWY Bq x0 o ∧ PbP x0 o)) := by
  intro f
  induction f with
  | zero => intros; omega
  | succ f ih =>
    intro ρ c h b l x2 x3 x4 x6 x7 hp hq T r0 i4 W D n68 a7 k7 hf
    rw [sX15_problem_197]
    have i0 : Rg 0 9 (0 : Int32) := rg_b rfl
    have zz : (0 : Int32).toInt = 0 := rfl
    refine s_list T r0 i0 (b := b) (l := l) D.1 ?_
    refine s_br (fun _ => s_some ⟨ρ, c, ex_0, T, rg_top _, W, pb_of n68⟩) (fun n1 => ?_)
    have lt7 := nle_i n1
    obtain ⟨k1, k2, k3, k4⟩ := dp_r T r0 D.1
    have h3000 := thI T k2 (k := 14) (i := 0) (lo := 0) (hi := 3000) rfl
    have ix : Rg 0 2999 x7 := ⟨a7, by have := h3000.2; omega⟩
    have b4 := i4.2
    have a4 := i4.1
    have goon : ∀ {ρ2 : Nat → Nat} {c2 : Cm} {g : Hp} {y : Int32}, Ext ρ c ρ2 c2 → TH ρ2 c2 g → DWY Bq x0 g → DQ x0 0 b l g → hI g x0 68 = hI h x0 68 → hI g x0 70 = hI h x0 70 → Sat (sX15_problem_270 F (sX15_problem_197 F f) g x0 x2 x3 x4 x6 x7 y) (MkI ρ c (-2147483648) 2147483647 (fun o => DWY Bq x0 o ∧ PbP x0 o)) := fun {ρ2 c2 g y} Y T2 W2 D2 e68 e70 => by
      have r2 := ex_r Y r0 (by decide)
      have hq2 := ex_A Y hq
      have hp2 := ex_hp Y hp
      unfold sX15_problem_270 sX15_problem_305
      refine s_q (fun u eu => ?_)
      have nxt : ∀ v : Int32, v = x7 + (1 : Int32) → v.toInt = x7.toInt + 1 := fun v ev => by rw [ev]; exact (nc_s ix (by decide)).2
      refine s_br (fun _ => ?_) (fun _ => ?_)
      · refine s_q (fun v ev => ?_)
        have ev2 := nxt v ev
        exact mI_ext Y (ih hp2 hq2 T2 r2 i4 W2 D2 (by rw [e68]; exact n68) (by omega) (by rw [e70]; omega) (by have := ix.2; omega))
      · obtain ⟨r, er, qr⟩ := thR T2 r2 (i := 69) (k2 := 111) rfl (by decide)
        refine s_ref er ?_
        have g70 := thI T2 r2 (k := 16) (i := 70) (lo := 0) (hi := 3000) rfl
        have j70 : Rg 0 2999 (hI g x0 70) := ⟨g70.1, by rw [e70]; have := ix.2; omega⟩
        refine s_gd (by rw [thN T2 qr (k := 111) (n := 3000) rfl (by decide)]; exact rg_inB j70 (by decide)) ?_
        refine s_hq (th_wI T2 qr (k := 111) (lo := 0) (hi := 2999) rfl ix (by decide) (by decide) (pm_a hq2 rfl)) (fun g5 T5 e5 => ?_)
        have f5 := fr1I (c := c2) (A := [(111, 999)]) (k := 111) qr rfl e5
        have m70 : hI g5 x0 70 = hI g x0 70 := by rw [e5, r_I, if_neg (ne_r r2 qr (by decide))]
        have m68 : hI g5 x0 68 = hI g x0 68 := by rw [e5, r_I, if_neg (ne_r r2 qr (by decide))]
        have W5 := dw_wY a111 T2 r2 f5 W2
        have D5 := dq_w a111 T2 r2 f5 D2
        refine s_hq (th_wI T5 r2 (k := 16) (i := 70) (lo := 0) (hi := 3000) rfl (rg_add (by rw [m70]; exact j70) (rg_b rfl : Rg 1 1 (1 : Int32)) (by decide)) (by decide) (by decide) (pm_a hq2 rfl)) (fun g6 T6 e6 => ?_)
        have f6 := fr1I (c := c2) (A := [(16, 70)]) (k := 16) (i := 70) r2 rfl e6
        have W6 := dw_wY (a16 (by decide) (by decide)) T5 r2 f6 W5
        have D6 := dq_w (a16 (by decide) (by decide)) T5 r2 f6 D5
        have l68 : hI g6 x0 68 = hI h x0 68 := by rw [e6, r_I, if_neg (fun z => absurd z.2 (by decide)), m68, e68]
        have l70 : (hI g6 x0 70).toInt = (hI h x0 70).toInt + 1 := by
          rw [he_s e6, m70, (nc_s j70 (by decide)).2, e70]
        refine s_q (fun v ev => ?_)
        have ev2 := nxt v ev
        exact mI_ext Y (ih hp2 hq2 T6 r2 i4 W6 D6 (by rw [l68]; exact n68) (by omega) (by omega) (by have := ix.2; omega))
    refine s_br (fun _ => ?_) (fun _ => ?_)
    · refine s_mI (S := SD 1) T hp (zX15_isMoveY (d := 0) hF (sx_c _) (th_in _ T) r0 rfl (by decide) (by omega) (by rw [zz]; omega) W D a7 lt7) (fun o1 ρ1 c1 X T1 f1 j1 W1 => ?_)
      obtain ⟨D1, e1⟩ := dq_keep T r0 f1 (by decide) D
      unfold sX15_problem_262
      exact s_br (fun _ => goon X T1 W1 D1 (f68 r0 f1) (f70 r0 f1)) (fun _ => goon X T1 W1 D1 (f68 r0 f1) (f70 r0 f1))
    · have by' : ∀ {k s : Int32}, 1 ≤ k.toInt → k.toInt ≤ 8 → Sat (sX15_problem_244 F (sX15_problem_197 F f) h x0 x2 x3 x4 x6 x7 s k x7 (0 : Int32) x0) (MkI ρ c (-2147483648) 2147483647 (fun o => DWY Bq x0 o ∧ PbP x0 o)) := fun {k s} ka kb => by
        unfold sX15_problem_244 sX15_problem_248
        refine s_mI (S := SD 1) T hp (zX15_goalRowsByY (d := 0) hF (sx_c _) (th_in _ T) r0 rfl (by decide) ka (by rw [zz]; omega) W D a7 lt7) (fun o1 ρ1 c1 X T1 f1 j1 W1 => ?_)
        obtain ⟨D1, e1⟩ := dq_keep T r0 f1 (by decide) D
        exact goon X T1 W1 D1 (f68 r0 f1) (f70 r0 f1)
      have e2 : ((2 : Int32) * x4).toInt = 2 * x4.toInt := ti_mulc' i4 (rg_b rfl : Rg 2 2 (2 : Int32)) (by decide)
      unfold sX15_problem_234
      exact s_br (fun _ => s_br (fun _ => by' (by omega) (by omega)) (fun _ => by' (by omega) (by omega))) (fun _ => s_br (fun _ => by' (by omega) (by omega)) (fun _ => by' (by omega) (by omega)))
theorem zX15_problemY (hF : 700000 ≤ F) (hp : ∀ k w i, SP k w i = true → cPm c k w i = true) (hq : pmA c [(16, 64), (16, 65), (16, 66), (16, 67), (16, 68), (16, 70), (111, 999)]) (T : TH ρ c h) (r0 : ρ x0 = 16) (bd : BdP x0 h) (W : DWY Bq x0 h) (pb : PbP x0 h) : Sat (sX15_problem F h x0 x1 x2 x3 x4) (MkI ρ c (-2147483648) 2147483647 (fun o => DWY Bq x0 o ∧ PbP x0 o)) := by
  unfold sX15_problem sX15_problem_30
  have ex : Sat (some ((-101 : Int32), h)) (MkI ρ c (-2147483648) 2147483647 (fun o => DWY Bq x0 o ∧ PbP x0 o)) := s_some ⟨ρ, c, ex_0, T, rg_top _, W, pb⟩
  refine s_br (fun _ => ex) (fun n1 => ?_)
  refine s_br (fun _ => ex) (fun n2 => ?_)
  refine s_br (fun _ => ex) (fun n3 => ?_)
  refine s_br (fun _ => ex) (fun n4 => ?_)
  refine s_br (fun _ => ex) (fun n5 => ?_)
  refine s_br (fun n6 => ?_) (fun _ => ex)
  have j2 : Rg 0 3 x2 := ⟨nlt_i n1, nlt_i n2⟩
  have j3 : Rg 0 2 x3 := ⟨nlt_i n3, nlt_i n4⟩
  have j4 : Rg 1 4 x4 := ⟨nlt_i n5, le_i n6⟩
  have hp0 : ∀ k w i, SD 0 k w i = true → cPm c k w i = true := fun k w i m => hp k w i (sx_sub (fun _ z => z) (fun _ z => z) (fun _ z => by rw [z]; rfl) m)
  have hs : ∀ k w i, SX no (is 2528) (is 2530) k w i = true → cPm c k w i = true := fun k w i m => hp k w i (sx_sub (fun _ z => no_f z) (fun w z => by rw [is_e z]; rfl) (fun w z => by rw [is_e z]; rfl) m)
  refine s_cIfq T hs (zX15_moves hF (pmA_s (sxA (sx_c _)) rfl) (pmO_s (sxB (sx_c _) rfl) rfl) (pmO_s (sxM (sx_c _) rfl) rfl) (th_in _ T) r0 (rg_top _) bd W.1) (fun o1 T1 i1 f1 p1 => ?_)
  have W1 := dw_keep0Y T r0 f1 W
  have pb1 := pb_keep r0 f1 pb
  unfold sX15_problem_38
  refine s_br (fun _ => s_some ⟨ρ, c, ex_0, T1, rg_top _, W1, pb1⟩) (fun nz => ?_)
  have nz' : ¬ o1.1.toInt = -102 := ne_i nz
  have ip : Rg 0 59 x1 := p1.1.resolve_left nz'
  obtain ⟨b, B1⟩ := bk_of T1 r0 (mp_hb (p1.2 nz'))
  obtain ⟨kb, wb'⟩ := bk_r T1 r0 B1
  refine s_bk T1 r0 ip B1 ?_
  obtain ⟨ls, els, qls⟩ := thR T1 r0 (i := 30) (k2 := 14) rfl (by decide)
  refine s_ref els ?_
  have hn : ∀ k w i, SX no no no k w i = true → cPm c k w i = true := fun k w i m => hp k w i (sx_sub (fun _ z => no_f z) (fun _ z => no_f z) (fun _ z => no_f z) m)
  refine s_cIf T1 hn (zX15_endedBy hF (pmA_s (sxA (sx_c _)) rfl) rfl (th_in _ T1) r0 kb (thI T1 qls (k := 14) (i := 0) (lo := 0) (hi := 3000) rfl)) (fun o2 T2 i2 f2 => ?_)
  have W2 := dw_keep0Y T1 r0 f2 W1
  have pb2 := pb_keep r0 f2 pb1
  have B2 := bk_keep T1 r0 f2 rfl B1
  have main : ∀ {t s : Int32}, t.toInt ≤ 9 → Sat (sX15_problem_117 F o2.2 x0 x1 x2 x3 x4 s t b x0) (MkI ρ c (-2147483648) 2147483647 (fun o => DWY Bq x0 o ∧ PbP x0 o)) := fun {t s} ht => by
    unfold sX15_problem_117
    have PB : PE b o2.2 := by obtain ⟨_, _, _, q⟩ := B2; exact q
    refine s_mI (S := SD 0) T2 hp0 (zX15_isRoomY hF (sx_c _) (th_in _ T2) r0 kb wb' ht W2 PB) (fun o3 ρ3 c3 X3 T3 f3 i3 W3 => ?_)
    have B3 := bk_keep T2 r0 f3 rfl B2
    have r3 := ex_r X3 r0 (by decide)
    have hp3 := ex_hp X3 hp0
    have hq3 := ex_A X3 hq
    unfold sX15_problem_120
    refine s_br (fun _ => s_some ⟨ρ3, c3, X3, T3, rg_top _, W3, pb_keep r0 f3 pb2⟩) (fun _ => ?_)
    refine s_f16Y (lo := 0) (hi := 59) (pm_a hq3 rfl) (by decide) (by decide) rfl ip (rp0 rfl) T3 r3 W3 B3 (fun g4 T4 e4 W4 B4 => ?_)
    obtain ⟨se, ese, qse⟩ := thR T4 r3 (i := 15) (k2 := 85) rfl (by decide)
    refine s_ref ese ?_
    refine s_gd (by rw [thN T4 qse (k := 85) (n := 60) rfl (by decide)]; exact rg_inB ip (by decide)) ?_
    refine s_f16Y (lo := -2147483648) (hi := 2147483647) (pm_a hq3 rfl) (by decide) (by decide) rfl (rg_top _) (rp0 rfl) T4 r3 W4 B4 (fun g5 T5 e5 W5 B5 => ?_)
    refine s_f16Y (lo := 0) (hi := 3) (pm_a hq3 rfl) (by decide) (by decide) rfl j2 (rp0 rfl) T5 r3 W5 B5 (fun g6 T6 e6 W6 B6 => ?_)
    refine s_f16Y (lo := 0) (hi := 2) (pm_a hq3 rfl) (by decide) (by decide) rfl j3 (rp0 rfl) T6 r3 W6 B6 (fun g7 T7 e7 W7 B7 => ?_)
    refine s_f16Y (lo := 0) (hi := 4) (pm_a hq3 rfl) (by decide) (by decide) rfl (rg_m j4 (by decide)) (rp0 rfl) T7 r3 W7 B7 (fun g8 T8 e8 W8 B8 => ?_)
    refine s_f16Y (lo := 0) (hi := 3000) (pm_a hq3 rfl) (by decide) (by decide) rfl (rg_b rfl) (rp0 rfl) T8 r3 W8 B8 (fun g9 T9 e9 W9 B9 => ?_)
    have m68 : hI g9 x0 68 = x4 := by rw [e9, r_I, if_neg (fun z => absurd z.2 (by decide)), he_s e8]
    have m70 : hI g9 x0 70 = 0 := he_s e9
    refine s_deepY hp3 (sdp_t (Nat.zero_le _)) T9 r3 (rg_b rfl) W9 (fun oa ρa ca la Xa Ta fa Wa Da => ?_)
    have Ba := bk_keep T9 r3 fa rfl B9
    have ra := ex_r Xa r3 (by decide)
    have hpa := ex_hp Xa hp3
    have hqa := ex_A Xa hq3
    unfold sX15_problem_167
    refine s_bk Ta ra ip Ba ?_
    refine s_firstY hF hpa rfl Ta ra Wa Da Ba (fun ob Tb fb Wb Db Pb Bb => ?_)
    unfold sX15_problem_176
    refine s_deep0 Tb ra (rg_b rfl) (b := oa.1) (l := la) Db ?_
    unfold sX15_problem_182
    refine s_list Tb ra (rg_b rfl) (b := oa.1) (l := la) Db ?_
    refine s_legalY hF hpa rfl rfl Tb ra Wb Db Pb (fun oc Tc fc Wc Dc Pc Mc => ?_)
    unfold sX15_problem_191
    have n68 : hI oc x0 68 = x4 := by rw [f68 ra fc, f68 ra fb, f68 r3 fa, m68]
    have n70 : hI oc x0 70 = 0 := by rw [f70 ra fc, f70 ra fb, f70 r3 fa, m70]
    exact mI_ext (ex_t X3 Xa) (prob_loopY hF F (fun k w i m => hpa k w i (sd_sub (Nat.zero_le _) m)) (pmA_s hqa rfl) Tc ra j4 Wc ⟨Dc, Pc, Mc⟩ (by rw [n68]; exact j4.1) (by decide) (by rw [n70]; decide) (by show (3000 - (0 : Int)).toNat < F; omega))
  have b4 := j4.2
  have a4 := j4.1
  have e2 : ((2 : Int32) * x4).toInt = 2 * x4.toInt := ti_mulc' j4 (rg_b rfl : Rg 2 2 (2 : Int32)) (by decide)
  have e1 : (((2 : Int32) * x4) - (1 : Int32)).toInt = 2 * x4.toInt - 1 := by
    rw [ti_sub (a := 0) (b := 8) (c := 1) (d := 1) ⟨by omega, by omega⟩ (rg_b rfl) (by decide), e2]; rfl
  have main2 : ∀ {t : Int32}, t.toInt ≤ 9 → Sat (sX15_problem_96 F o2.2 x0 x1 x2 x3 x4 t) (MkI ρ c (-2147483648) 2147483647 (fun o => DWY Bq x0 o ∧ PbP x0 o)) := fun {t} ht => by
    unfold sX15_problem_96
    refine s_bk T2 r0 ip B2 ?_
    exact s_br (fun _ => main ht) (fun _ => main ht)
  unfold sX15_problem_63
  exact s_br (fun _ => s_br (fun _ => main2 (by omega)) (fun _ => s_br (fun _ => main2 (by omega)) (fun _ => main2 (by omega)))) (fun _ => s_some ⟨ρ, c, ex_0, T2, rg_top _, W2, pb2⟩)
theorem ref_loopY (hF : 700000 ≤ F) : ∀ (f : Nat) {ρ : Nat → Nat} {c : Cm} {h : Hp} {b l : Nat} {x2 x3 : Int32}, (∀ k w i, SD 2 k w i = true → cPm c k w i = true) → TH ρ c h → ρ x0 = 16 → DWY Bq x0 h → DQ x0 1 b l h → 1 ≤ (hI h x0 68).toInt → 0 ≤ x3.toInt → (3000 - x3.toInt).toNat < f → Sat (sX15_refutes_107 F f h x0 x2 x3) (MkI ρ c (-2147483648) 2147483647 (DWY Bq x0)) := by
  intro f
  induction f with
  | zero => intros; omega
  | succ f ih =>
    intro ρ c h b l x2 x3 hp T r0 W D n68 a3 hf
    rw [sX15_refutes_107]
    unfold sX15_refutes_139 sX15_refutes_147
    have i1 : Rg 0 9 (1 : Int32) := rg_b rfl
    have one : (1 : Int32).toInt = 1 := rfl
    refine s_list T r0 i1 (b := b) (l := l) D.1 ?_
    refine s_br (fun _ => s_some ⟨ρ, c, ex_0, T, rg_top _, W⟩) (fun n1 => ?_)
    have lt3 := nle_i n1
    obtain ⟨k1, k2, k3, k4⟩ := dp_r T r0 D.1
    have h3000 := thI T k2 (k := 14) (i := 0) (lo := 0) (hi := 3000) rfl
    have ix : Rg 0 2999 x3 := ⟨a3, by have := h3000.2; omega⟩
    have i68 := thI T r0 (k := 16) (i := 68) (lo := 0) (hi := 4) rfl
    refine s_mI (S := SD 2) T hp (zX15_isAnsweredY (d := 1) hF (sx_c _) (th_in _ T) r0 rfl (by decide) n68 (by rw [one]; have := i68.2; omega) W D a3 lt3) (fun o1 ρ1 c1 X T1 f1 j1 W1 => ?_)
    obtain ⟨D1, e1⟩ := dq_keep T r0 f1 (by decide) D
    have go : ∀ t : Int32, Sat (nm (x2 + t) fun v_1 => nm (x3 + (1 : Int32)) fun v_2 => sX15_refutes_107 F f o1.2 x0 v_1 v_2) (MkI ρ c (-2147483648) 2147483647 (DWY Bq x0)) := fun t => by
      refine s_q (fun u eu => ?_)
      refine s_q (fun v ev => ?_)
      have ev2 : v.toInt = x3.toInt + 1 := by rw [ev]; exact (nc_s ix (by decide)).2
      exact mI_ext X (ih (ex_hp X hp) T1 (ex_r X r0 (by decide)) W1 D1 (by rw [f68 r0 f1]; exact n68) (by omega) (by have := ix.2; omega))
    exact s_br (fun _ => go 1) (fun _ => go 0)
theorem zX15_refutesY (hF : 700000 ≤ F) (hp : ∀ k w i, SD 0 k w i = true → cPm c k w i = true) (T : TH ρ c h) (r0 : ρ x0 = 16) (bd : BdP x0 h) (W : DWY Bq x0 h) (pb : PbP x0 h) : Sat (sX15_refutes F h x0 x1) (MkI ρ c (-2147483648) 2147483647 (DWY Bq x0)) := by
  unfold sX15_refutes
  refine s_dI0 (zX15_isProblem hF T r0) (fun o1 e1 q1 i1 => ?_)
  rw [q1]
  unfold sX15_refutes_4 sX15_refutes_15
  have ex : ∀ {y : Int32}, Sat (some (y, h)) (MkI ρ c (-2147483648) 2147483647 (DWY Bq x0)) := s_some ⟨ρ, c, ex_0, T, rg_top _, W⟩
  refine s_br (fun _ => ex) (fun nz => ?_)
  refine s_br (fun _ => ?_) (fun _ => ex)
  -- the problem's place
  have i64 := thI T r0 (k := 16) (i := 64) (lo := 0) (hi := 59) rfl
  have key : 1 ≤ (hI h x0 68).toInt ∧ ∃ b, BK x0 (hI h x0 64).toNatClampNeg b h := by
    unfold sX15_isProblem sX15_isProblem_27 sX15_isProblem_28 at e1
    rcases br_s e1 with ⟨_, e⟩ | ⟨c1, e⟩
    · exact absurd (by rw [← Option.some.inj (gd_s e).2]) nz
    obtain ⟨s, es, e⟩ := cl_s e
    replace e := (gd_s e).2
    rcases br_s e with ⟨c2, e⟩ | ⟨c2, e⟩
    · refine ⟨pb c1, ?_⟩
      obtain ⟨q1, f1, g1⟩ := thR T r0 (i := 14) (k2 := 84) rfl (by decide)
      obtain ⟨b, eb, P⟩ := bd.1 q1 s f1 es (hI h x0 64).toNatClampNeg (by have := nc_i i64.1; have := i64.2; omega) (by rw [c2]; exact c1)
      exact ⟨b, q1, f1, eb, P⟩
    · exact absurd (by rw [← Option.some.inj (gd_s e).2]) nz
  obtain ⟨n68, b, B⟩ := key
  refine s_deepY hp (sdp_t (Nat.zero_le _)) T r0 (rg_b rfl) W (fun o2 ρ2 c2 l2 X2 T2 f2 W2 D2 => ?_)
  have B2 := bk_keep T r0 f2 rfl B
  have r2 := ex_r X2 r0 (by decide)
  have hp2 := ex_hp X2 hp
  rw [← f64 r0 f2] at B2
  unfold sX15_refutes_22
  refine s_bk T2 r2 (by rw [f64 r0 f2]; exact i64) B2 ?_
  refine s_firstY hF hp2 rfl T2 r2 W2 D2 B2 (fun o3 T3 f3 W3 D3 P3 B3 => ?_)
  unfold sX15_refutes_34
  refine s_deep0 T3 r2 (rg_b rfl) (b := o2.1) (l := l2) D3 ?_
  unfold sX15_refutes_40
  refine s_list T3 r2 (rg_b rfl) (b := o2.1) (l := l2) D3 ?_
  refine s_legalY hF hp2 rfl rfl T3 r2 W3 D3 P3 (fun o4 T4 f4 W4 D4 P4 M4 => ?_)
  have k4 : hI o4 x0 68 = hI h x0 68 := by rw [f68 r2 f4, f68 r2 f3, f68 r0 f2]
  unfold sX15_refutes_49 sX15_refutes_66
  refine s_br (fun _ => s_some ⟨ρ2, c2, X2, T4, rg_top _, W4⟩) (fun n1 => ?_)
  refine s_list T4 r2 (rg_b rfl) (b := o2.1) (l := l2) D4 ?_
  refine s_br (fun n2 => ?_) (fun _ => s_some ⟨ρ2, c2, X2, T4, rg_top _, W4⟩)
  have a1 : 0 ≤ x1.toInt := nlt_i n1
  refine s_mV (S := SD 1) T4 (fun k w i m => hp2 k w i (sd_sub (Nat.zero_le _) m)) (zX15_stepY (d := 0) hF (sx_c _) rfl rfl rfl rfl rfl (th_in _ T4) r2 (rg_b rfl) W4 D4 P4 M4 a1 (lt_i n2)) (fun o5 ρ5 c5 X5 T5 f5 ⟨W5, b5, l5, D5⟩ => ?_)
  have r5 := ex_r X5 r2 (by decide)
  have hp5 := ex_hp X5 hp2
  have k5 : hI o5 x0 68 = hI h x0 68 := by rw [f68 r2 f5, k4]
  have X := ex_t X2 X5
  have hn : ∀ k w i, SX no no no k w i = true → cPm c5 k w i = true := fun k w i m => hp5 k w i (sx_sub (fun _ z => no_f z) (fun _ z => no_f z) (fun _ z => no_f z) m)
  have rest : ∀ {g : Hp}, TH ρ5 c5 g → DWY Bq x0 g → DQ x0 1 b5 l5 g → hI g x0 68 = hI h x0 68 → Sat (sX15_refutes_93 F g x0) (MkI ρ c (-2147483648) 2147483647 (DWY Bq x0)) := fun {g} Tg Wg Dg eg => by
    unfold sX15_refutes_93 sX15_refutes_98 sX15_refutes_101
    refine s_cIf Tg hn (zX15_hasEnded hF (sxA (sx_c _)) (th_in _ Tg) r5 (rg_b rfl) (b := b5) (l := l5) Dg.1) (fun o6 T6 i6 f6 => ?_)
    have W6 := dw_keep0Y Tg r5 f6 Wg
    obtain ⟨a1, a2, a3, a4⟩ := dp_keep Tg r5 f6 rfl rfl rfl Dg.1
    refine s_br (fun _ => ?_) (fun _ => s_some ⟨ρ5, c5, X, T6, rg_top _, W6⟩)
    exact mI_ext X (ref_loopY hF F (fun k w i m => hp5 k w i (sd_sub (Nat.zero_le _) m)) T6 r5 W6 ⟨a1, a3 Dg.2.1, a4 Dg.2.2⟩ (by rw [f68 r5 f6, eg]; exact n68) (by decide) (by show (3000 - (0 : Int)).toNat < F; omega))
  unfold sX15_refutes_74 sX15_refutes_90 sX15_refutes_101
  refine s_br (fun _ => ?_) (fun _ => rest T5 W5 D5 k5)
  refine s_cIf T5 hn (zX15_isGoal hF (sxA (sx_c _)) (th_in _ T5) r5 (rg_b rfl) (b := b5) (l := l5) D5.1) (fun o6 T6 i6 f6 => ?_)
  have W6 := dw_keep0Y T5 r5 f6 W5
  obtain ⟨a1, a2, a3, a4⟩ := dp_keep T5 r5 f6 rfl rfl rfl D5.1
  exact s_br (fun _ => rest T6 W6 ⟨a1, a3 D5.2.1, a4 D5.2.2⟩ (by rw [f68 r5 f6, k5])) (fun _ => s_some ⟨ρ5, c5, X, T6, rg_top _, W6⟩)
end
end
section
/-! the reference's invariant -/
def sqN (_ : Nat) (_ : Hp) : Nat := 64
/-- no game's board behind the row's end -/
def NoG (x0 : Nat) (h : Hp) : Prop := ∀ r, hR h x0 37 = some r → ∀ i, 2408 ≤ i → hR h r i = none
def RfI (x0 : Nat) (h : Hp) : Prop := SqOk x0 h ∧ (∃ B, BdY (sqN x0 h) B x0 h) ∧ (∃ B, GaY (sqN x0 h) B x0 h) ∧ DpP x0 h ∧ PbP x0 h ∧ (∃ B, FdPY (sqN x0 h) B x0 h) ∧ EnR x0 h ∧ NoG x0 h
/-- a board's places -/
def bdO (S : Nat → Nat → Nat → Bool) (w : Nat) : Prop := (∀ i, i < 7 → S 13 w i = false) ∧ (∀ i, S 62 w i = false) ∧ (∀ i, S 63 w i = false) ∧ ∀ i, S 64 w i = false
def cB (S : Nat → Nat → Nat → Bool) : Prop := (∀ w, S 16 w 14 = false) ∧ (∀ w, S 16 w 15 = false) ∧ (∀ w i, S 84 w i = false) ∧ (∀ w i, S 85 w i = false) ∧ bdO S 3400
def cG (S : Nat → Nat → Nat → Bool) : Prop := (∀ w, S 16 w 37 = false) ∧ (∀ w i, S 92 w i = false) ∧ ∀ j, j ≤ 2407 → bdO S (5000 + j)
def cD (S : Nat → Nat → Nat → Bool) : Prop := (∀ w, S 16 w 33 = false) ∧ (∀ w, S 16 w 34 = false) ∧ (∀ w i, S 90 w i = false) ∧ ∀ w i, S 91 w i = false
def cP (S : Nat → Nat → Nat → Bool) : Prop := (∀ w, S 16 w 65 = false) ∧ ∀ w, S 16 w 68 = false
def cF (S : Nat → Nat → Nat → Bool) : Prop := fdBY S ∧ fdO S ∧ fdT S ∧ ∀ w, S 16 w 44 = false
def cEn (S : Nat → Nat → Nat → Bool) : Prop := (∀ w, S 16 w 13 = false) ∧ (∀ w, S 16 w 46 = false) ∧ (∀ w, S 16 w 47 = false) ∧ (∀ w, S 16 w 48 = false) ∧ (∀ w, S 16 w 49 = false) ∧ (∀ w, S 16 w 50 = false) ∧ (∀ w, S 16 w 55 = false) ∧ (∀ w, S 16 w 56 = false) ∧ (∀ w, S 16 w 59 = false) ∧ (∀ w i, S 99 w i = false) ∧ (∀ w i, S 100 w i = false) ∧ (∀ w i, S 101 w i = false) ∧ (∀ w i, S 106 w i = false) ∧ ∀ w i, S 107 w i = false
section
variable {zq : Nat} {Bq : Nat × Nat} {ρ : Nat → Nat} {c : Cm} {h o : Hp} {S : Nat → Nat → Nat → Bool} {x0 b k w i F : Nat}
theorem bdy_ex (T : TH ρ c h) (r0 : ρ x0 = 16) (f : Fr ρ (cat c S h) h o) (s : cB S) (P : BdY zq Bq x0 h) : ∃ B, BdY zq B x0 o := by
  obtain ⟨s1, s2, s3, s4, s5, s6, s7, s8⟩ := s
  obtain ⟨r, er, qr⟩ := thR T r0 (i := 14) (k2 := 84) rfl (by decide)
  have er' : hR o x0 14 = some r := by rw [(fr_RI f r0 (by decide) s1).2.2]; exact er
  exact ⟨(o.1.1 + 5 * nuC o r 60, o.1.2 + 162 * nuC o r 60), bdy_x T r0 f s1 s2 s3 s4 s5 s6 s7 s8 P (fun r' e' => by
    have : r' = r := r_eq er' e'
    subst this
    exact ⟨Nat.le_refl _, Nat.le_refl _⟩)⟩
theorem gay_ex (T : TH ρ c h) (r0 : ρ x0 = 16) (f : Fr ρ (cat c S h) h o) (s : cG S) (N : NoG x0 h) (P : GaY zq Bq x0 h) : ∃ B, GaY zq B x0 o := by
  obtain ⟨s1, s2, s3⟩ := s
  obtain ⟨r, er, qr⟩ := thR T r0 (i := 37) (k2 := 92) rfl (by decide)
  have er' : hR o x0 37 = some r := by rw [(fr_RI f r0 (by decide) s1).2.2]; exact er
  refine ⟨(o.1.1 + 5 * nuC o r 2408, o.1.2 + 162 * nuC o r 2408), fun i b B => ?_, fun r' e' => ?_⟩
  · obtain ⟨r', t1, t2⟩ := B
    have : r' = r := r_eq er' t1
    subst this
    rw [(fr_RI f qr (by decide) (fun w => s2 w i)).2.2] at t2
    have B0 : Gb x0 i b h := ⟨r', er, t2⟩
    obtain ⟨k1, k2⟩ := gb_r T r0 B0
    have li : i ≤ 2407 := by
      by_cases z : i ≤ 2407
      · exact z
      · have := N r' er i (by omega)
        rw [this] at t2
        exact absurd t2 (by simp)
    obtain ⟨a1, a2, a3, a4⟩ := s3 i li
    exact pz_fr T k1 f (fun i hi => by rw [k2]; exact a1 i (by omega)) (fun i => by rw [k2]; exact a2 i) (fun i => by rw [k2]; exact a3 i) (fun i => by rw [k2]; exact a4 i) (P.1 i b B0)
  · have : r' = r := r_eq er' e'
    subst this
    exact ⟨Nat.le_refl _, Nat.le_refl _⟩
theorem nog_f (T : TH ρ c h) (r0 : ρ x0 = 16) (f : Fr ρ (cat c S h) h o) (s1 : ∀ w, S 16 w 37 = false) (s2 : ∀ w i, 2408 ≤ i → S 92 w i = false) (N : NoG x0 h) : NoG x0 o := fun r er i hi => by
  rw [(fr_RI f r0 (by decide) s1).2.2] at er
  rw [(fr_RI f (rr T (thR T r0 (i := 37) (k2 := 92) rfl (by decide)) er) (by decide) (fun w => s2 w i hi)).2.2]
  exact N r er i hi
theorem dpp_f (T : TH ρ c h) (r0 : ρ x0 = 16) (f : Fr ρ (cat c S h) h o) (s : cD S) (P : DpP x0 h) : DpP x0 o := fun rb rl e1 e2 d b e3 => by
  rw [(fr_RI f r0 (by decide) s.1).2.2] at e1
  rw [(fr_RI f r0 (by decide) s.2.1).2.2] at e2
  have q1 := rr T (thR T r0 (i := 33) (k2 := 90) rfl (by decide)) e1
  have q2 := rr T (thR T r0 (i := 34) (k2 := 91) rfl (by decide)) e2
  rw [(fr_RI f q1 (by decide) (fun w => s.2.2.1 w d)).2.2] at e3
  obtain ⟨l, el⟩ := P rb rl e1 e2 d b e3
  exact ⟨l, by rw [(fr_RI f q2 (by decide) (fun w => s.2.2.2 w d)).2.2]; exact el⟩
theorem pbp_f (T : TH ρ c h) (r0 : ρ x0 = 16) (f : Fr ρ (cat c S h) h o) (s : cP S) (P : PbP x0 h) : PbP x0 o := fun n => by
  rw [(fr_RI f r0 (by decide) s.1).1] at n
  rw [(fr_RI f r0 (by decide) s.2).1]
  exact P n
theorem enr_f (T : TH ρ c h) (r0 : ρ x0 = 16) (f : Fr ρ (cat c S h) h o) (s : cEn S) (P : EnR x0 h) : EnR x0 o := fun n => by
  obtain ⟨s13, s46, s47, s48, s49, s50, s55, s56, s59, t99, t100, t101, t106, t107⟩ := s
  rw [(fr_RI f r0 (by decide) s50).1] at n
  obtain ⟨⟨p1, p2, p3, p4, p5, p6⟩, q⟩ := P n
  have e13 := (fr_RI f r0 (by decide) s13).1
  have e49 := (fr_RI f r0 (by decide) s49).1
  have e46 := (fr_RI f r0 (by decide) s46).2.2
  have e47 := (fr_RI f r0 (by decide) s47).2.2
  have e48 := (fr_RI f r0 (by decide) s48).2.2
  have e55 := (fr_RI f r0 (by decide) s55).2.2
  have e56 := (fr_RI f r0 (by decide) s56).2.2
  have e59 := (fr_RI f r0 (by decide) s59).2.1
  have am : ∀ {r : Nat}, hR h x0 46 = some r → ∀ k, hI o r k = hI h r k := fun e k => (fr_RI f (rr T (thR T r0 (i := 46) (k2 := 99) rfl (by decide)) e) (by decide) (fun w => t99 w k)).1
  have ae : ∀ {r : Nat}, hR h x0 47 = some r → ∀ k, hI o r k = hI h r k := fun e k => (fr_RI f (rr T (thR T r0 (i := 47) (k2 := 100) rfl (by decide)) e) (by decide) (fun w => t100 w k)).1
  have ab : ∀ {r : Nat}, hR h x0 48 = some r → ∀ k, hI o r k = hI h r k := fun e k => (fr_RI f (rr T (thR T r0 (i := 48) (k2 := 101) rfl (by decide)) e) (by decide) (fun w => t101 w k)).1
  have ak : ∀ {r : Nat}, hR h x0 55 = some r → ∀ k, hI o r k = hI h r k := fun e k => (fr_RI f (rr T (thR T r0 (i := 55) (k2 := 106) rfl (by decide)) e) (by decide) (fun w => t106 w k)).1
  have as : ∀ {r : Nat}, hR h x0 56 = some r → ∀ k, hI o r k = hI h r k := fun e k => (fr_RI f (rr T (thR T r0 (i := 56) (k2 := 107) rfl (by decide)) e) (by decide) (fun w => t107 w k)).1
  refine ⟨⟨fun r er => ?_, ?_, fun rm rb em eb k hk => ?_, fun rs rk rm re es ek em ee j hj hp => ?_, fun rm re em ee k hk i hi => ?_, fun rm rb em eb k hk => ?_⟩, by rw [e49]; exact q⟩
  · rw [e56] at er
    rw [e49, uC_eq 16384 (fun j _ => as er j)]
    exact p1 r er
  · unfold S2; rw [e59]; exact p2
  · rw [e46] at em
    rw [e48] at eb
    rw [e49] at hk
    rw [e13, e59, am em k, ab eb k]
    exact p3 rm rb em eb k hk
  · rw [e56] at es
    rw [e55] at ek
    rw [e46] at em
    rw [e47] at ee
    rw [as es j] at hp ⊢
    rw [ak ek j, e49]
    obtain ⟨q1, q2⟩ := p4 rs rk rm re es ek em ee j hj hp
    refine ⟨q1, ?_⟩
    rw [q2, am em _]
    exact (pkN_eq _ (fun i hi => ae ee _)).symm
  · rw [e46] at em
    rw [e47] at ee
    rw [e49] at hk
    rw [am em k] at hi
    rw [ae ee (5 * k + i)]
    exact p5 rm re em ee k hk i hi
  · rw [e46] at em
    rw [e48] at eb
    rw [e49] at hk
    rw [e13, am em k, ab eb k, ab eb (k + 1)]
    exact p6 rm rb em eb k hk
/-- places that the invariant reads -/
def badR (k w i : Nat) : Bool := (k == 16 && [11, 12, 13, 14, 15, 33, 34, 37, 40, 41, 42, 44, 46, 47, 48, 49, 50, 55, 56, 59, 65, 68].contains i) || ([84, 85, 90, 91, 92, 95, 96, 97, 99, 100, 101, 106, 107].contains k) || (((k == 13 && decide (i < 7)) || [62, 63, 64].contains k) && (w == 3400 || decide (5000 ≤ w)))
theorem bad_b {w : Nat} (hw : (w == 3400 || decide (5000 ≤ w)) = true) (hb : ∀ k w i, badR k w i = true → S k w i = false) : bdO S w := ⟨fun i hi => hb 13 w i (by unfold badR; rw [hw, decide_eq_true hi]; simp), fun i => hb 62 w i (by unfold badR; rw [hw]; simp), fun i => hb 63 w i (by unfold badR; rw [hw]; simp), fun i => hb 64 w i (by unfold badR; rw [hw]; simp)⟩
theorem bad_w {j : Nat} (hj : 5000 ≤ j) : (j == 3400 || decide (5000 ≤ j)) = true := by rw [decide_eq_true hj, Bool.or_true]
theorem bad_k {k : Nat} (hk : [84, 85, 90, 91, 92, 95, 96, 97, 99, 100, 101, 106, 107].contains k = true) (hb : ∀ k w i, badR k w i = true → S k w i = false) : ∀ w i, S k w i = false := fun w i => hb k w i (by unfold badR; rw [hk]; simp)
theorem bad_i {i : Nat} (hi : [11, 12, 13, 14, 15, 33, 34, 37, 40, 41, 42, 44, 46, 47, 48, 49, 50, 55, 56, 59, 65, 68].contains i = true) (hb : ∀ k w i, badR k w i = true → S k w i = false) : ∀ w, S 16 w i = false := fun w => hb 16 w i (by unfold badR; rw [hi]; simp)
theorem cB_of (hb : ∀ k w i, badR k w i = true → S k w i = false) : cB S := ⟨bad_i rfl hb, bad_i rfl hb, bad_k rfl hb, bad_k rfl hb, bad_b rfl hb⟩
theorem cG_of (hb : ∀ k w i, badR k w i = true → S k w i = false) : cG S := ⟨bad_i rfl hb, bad_k rfl hb, fun j _ => bad_b (bad_w (by omega)) hb⟩
theorem cD_of (hb : ∀ k w i, badR k w i = true → S k w i = false) : cD S := ⟨bad_i rfl hb, bad_i rfl hb, bad_k rfl hb, bad_k rfl hb⟩
theorem cP_of (hb : ∀ k w i, badR k w i = true → S k w i = false) : cP S := ⟨bad_i rfl hb, bad_i rfl hb⟩
theorem cF_of (hb : ∀ k w i, badR k w i = true → S k w i = false) : cF S := ⟨⟨bad_i rfl hb, bad_k rfl hb, fun j => by
  obtain ⟨a1, a2, a3, a4⟩ := bad_b (w := 11000 + j) (bad_w (by omega)) hb
  exact ⟨fun i hi => a1 i (by omega), a2, a3, a4⟩⟩, ⟨bad_i rfl hb, bad_k rfl hb⟩, ⟨bad_i rfl hb, bad_k rfl hb⟩, bad_i rfl hb⟩
theorem cEn_of (hb : ∀ k w i, badR k w i = true → S k w i = false) : cEn S := ⟨bad_i rfl hb, bad_i rfl hb, bad_i rfl hb, bad_i rfl hb, bad_i rfl hb, bad_i rfl hb, bad_i rfl hb, bad_i rfl hb, bad_i rfl hb, bad_k rfl hb, bad_k rfl hb, bad_k rfl hb, bad_k rfl hb, bad_k rfl hb⟩
/-- over a frame that leaves all of it -/
theorem rfi_f (T : TH ρ c h) (r0 : ρ x0 = 16) (f : Fr ρ (cat c S h) h o) (hb : ∀ k w i, badR k w i = true → S k w i = false) (P : RfI x0 h) : RfI x0 o := by
  obtain ⟨p1, ⟨B1, p2⟩, ⟨B2, p3⟩, p4, p5, ⟨B3, p6⟩, p7, p8⟩ := P
  have e : sqN x0 o = sqN x0 h := rfl
  obtain ⟨a1, a2, a3, a4⟩ := cF_of hb
  refine ⟨sq_fr T r0 f (bad_i rfl hb) (bad_i rfl hb) (bad_i rfl hb) p1, ?_, ?_, dpp_f T r0 f (cD_of hb) p4, pbp_f T r0 f (cP_of hb) p5, ?_, enr_f T r0 f (cEn_of hb) p7, nog_f T r0 f (bad_i rfl hb) (fun w i _ => bad_k rfl hb w i) p8⟩
  · rw [e]; exact bdy_ex T r0 f (cB_of hb) p2
  · rw [e]; exact gay_ex T r0 f (cG_of hb) p8 p3
  · rw [e]; exact fdy_ex T r0 f a1 a2 a3 a4 p6
end
end
