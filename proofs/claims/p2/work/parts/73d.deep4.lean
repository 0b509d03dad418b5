section
variable {ρ : Nat → Nat} {c : Cm} {h o : Hp} {F x0 b l d e : Nat} {x1 x2 x3 x4 x5 : Int32}
/-- moves and answers: what holds of both at a depth of the recursion -/
def PairOk (F x0 : Nat) (A M : Hp → Nat → Int32 → Int32 → Int32 → Int32 → Int32 → Option (Int32 × Hp)) (N : Nat) : Prop :=
  (∀ {ρ : Nat → Nat} {c : Cm} {h : Hp} {b l d : Nat} {x1 x2 x3 x4 x5 : Int32}, (∀ k w i, SD (d + 1) k w i = true → cPm c k w i = true) → TH ρ c h → ρ x0 = 16 → x1.toNatClampNeg = d → 0 ≤ x1.toInt → 1 ≤ x3.toInt → x1.toInt + 2 * x3.toInt ≤ 10 → 2 * x3.toNatClampNeg ≤ N → DW x0 h → DQ x0 d b l h → 0 ≤ x2.toInt → x2.toInt < (hI h l 0).toInt → Sat (A h x0 x1 x2 x3 x4 x5) (MkI ρ c 0 1 (DW x0))) ∧
  (∀ {ρ : Nat → Nat} {c : Cm} {h : Hp} {b l d : Nat} {x1 x2 x3 x4 x5 : Int32}, (∀ k w i, SD (d + 1) k w i = true → cPm c k w i = true) → TH ρ c h → ρ x0 = 16 → x1.toNatClampNeg = d → 0 ≤ x1.toInt → 1 ≤ x3.toInt → x1.toInt + 2 * x3.toInt ≤ 9 → 2 * x3.toNatClampNeg + 1 ≤ N → DW x0 h → DQ x0 d b l h → 0 ≤ x2.toInt → x2.toInt < (hI h l 0).toInt → Sat (M h x0 x1 x2 x3 x4 x5) (MkI ρ c 0 1 (DW x0)))
theorem move_loop {N : Nat} {A M : Hp → Nat → Int32 → Int32 → Int32 → Int32 → Int32 → Option (Int32 × Hp)} (R : PairOk F x0 A M N) : ∀ (f : Nat) {ρ : Nat → Nat} {c : Cm} {h : Hp} {b l d : Nat} {x1 x3 x4 x5 x6 : Int32}, (∀ k w i, SD (d + 2) k w i = true → cPm c k w i = true) → TH ρ c h → ρ x0 = 16 → x1.toNatClampNeg = d → 0 ≤ x1.toInt → 1 ≤ x3.toInt → x1.toInt + 2 * x3.toInt ≤ 9 → 2 * x3.toNatClampNeg ≤ N → DW x0 h → DQ x0 (d + 1) b l h → 0 ≤ x6.toInt → (3000 - x6.toInt).toNat < f → Sat (sX15_isMove_50 F A M f h x0 x1 x3 x4 x5 x6) (MkI ρ c 0 1 (DW x0)) := by
  intro f
  induction f with
  | zero => intros; omega
  | succ f ih =>
    intro ρ c h b l d x1 x3 x4 x5 x6 hp T r0 ed i1 i3 i13 hN W D a6 hf
    rw [sX15_isMove_50]
    unfold sX15_isMove_80
    have nx := nc_i i1
    have ix1 : Rg 0 7 x1 := ⟨i1, by omega⟩
    obtain ⟨s1, s2⟩ := nc_s ix1 (by decide)
    rw [ed] at s1
    have ies : Rg 0 9 (x1 + (1 : Int32)) := ⟨by omega, by omega⟩
    refine s_list T r0 ies (b := b) (l := l) (by rw [s1]; exact D.1) ?_
    refine s_br (fun _ => s_some ⟨ρ, c, ex_0, T, rg_b rfl, W⟩) (fun n1 => ?_)
    have lt6 := nle_i n1
    obtain ⟨k1, k2, k3, k4⟩ := dp_r T r0 D.1
    have h3000 := thI T k2 (k := 14) (i := 0) (lo := 0) (hi := 3000) rfl
    have ix : Rg 0 2999 x6 := ⟨a6, by have := h3000.2; omega⟩
    refine s_mI (S := SD (d + 2)) T hp (R.1 (sx_c _) (th_in _ T) r0 s1 (by omega) i3 (by omega) hN W D a6 lt6) (fun o ρ1 c1 X T1 f1 i1' W1 => ?_)
    obtain ⟨D1, e1⟩ := dq_keep T r0 f1 (Nat.lt_succ_self (d + 1)) D
    refine s_br (fun _ => s_some ⟨ρ1, c1, X, T1, rg_b rfl, W1⟩) (fun _ => ?_)
    refine s_q (fun v ev => ?_)
    have ev2 : v.toInt = x6.toInt + 1 := by rw [ev]; exact (nc_s ix (by decide)).2
    exact mI_ext X (ih (ex_hp X hp) T1 (ex_r X r0 (by decide)) ed i1 i3 i13 hN W1 D1 (by omega) (by have := ix.2; omega))
theorem answer_loop {N : Nat} {A M : Hp → Nat → Int32 → Int32 → Int32 → Int32 → Int32 → Option (Int32 × Hp)} (R : PairOk F x0 A M N) : ∀ (f : Nat) {ρ : Nat → Nat} {c : Cm} {h : Hp} {b l d : Nat} {x1 x3 x4 x5 x6 : Int32}, (∀ k w i, SD (d + 2) k w i = true → cPm c k w i = true) → TH ρ c h → ρ x0 = 16 → x1.toNatClampNeg = d → 0 ≤ x1.toInt → 2 ≤ x3.toInt → x1.toInt + 2 * x3.toInt ≤ 10 → 2 * x3.toNatClampNeg - 1 ≤ N → DW x0 h → DQ x0 (d + 1) b l h → 0 ≤ x6.toInt → (3000 - x6.toInt).toNat < f → Sat (sX15_isAnswered_46 F A M f h x0 x1 x3 x4 x5 x6) (MkI ρ c 0 1 (DW x0)) := by
  intro f
  induction f with
  | zero => intros; omega
  | succ f ih =>
    intro ρ c h b l d x1 x3 x4 x5 x6 hp T r0 ed i1 i3 i13 hN W D a6 hf
    rw [sX15_isAnswered_46]
    unfold sX15_isAnswered_78
    have nx := nc_i i1
    have nx3 := nc_i (x := x3) (by omega)
    have ix1 : Rg 0 7 x1 := ⟨i1, by omega⟩
    obtain ⟨s1, s2⟩ := nc_s ix1 (by decide)
    rw [ed] at s1
    have e3 : (x3 - (1 : Int32)).toInt = x3.toInt - 1 := by
      rw [ti_sub (a := 0) (b := 9) (c := 1) (d := 1) ⟨by omega, by omega⟩ (rg_b rfl) (by decide)]; rfl
    have n3' := nc_i (x := x3 - (1 : Int32)) (by omega)
    have ies : Rg 0 9 (x1 + (1 : Int32)) := ⟨by omega, by omega⟩
    refine s_list T r0 ies (b := b) (l := l) (by rw [s1]; exact D.1) ?_
    refine s_br (fun _ => s_some ⟨ρ, c, ex_0, T, rg_b rfl, W⟩) (fun n1 => ?_)
    have lt6 := nle_i n1
    obtain ⟨k1, k2, k3, k4⟩ := dp_r T r0 D.1
    have h3000 := thI T k2 (k := 14) (i := 0) (lo := 0) (hi := 3000) rfl
    have ix : Rg 0 2999 x6 := ⟨a6, by have := h3000.2; omega⟩
    refine s_mI (S := SD (d + 2)) T hp (R.2 (sx_c _) (th_in _ T) r0 s1 (by omega) (by omega) (by omega) (by omega) W D a6 lt6) (fun o ρ1 c1 X T1 f1 i1' W1 => ?_)
    obtain ⟨D1, e1⟩ := dq_keep T r0 f1 (Nat.lt_succ_self (d + 1)) D
    refine s_br (fun _ => ?_) (fun _ => s_some ⟨ρ1, c1, X, T1, rg_b rfl, W1⟩)
    refine s_q (fun v ev => ?_)
    have ev2 : v.toInt = x6.toInt + 1 := by rw [ev]; exact (nc_s ix (by decide)).2
    exact mI_ext X (ih (ex_hp X hp) T1 (ex_r X r0 (by decide)) ed i1 i3 i13 hN W1 D1 (by omega) (by have := ix.2; omega))
theorem pair_step {N : Nat} {A M : Hp → Nat → Int32 → Int32 → Int32 → Int32 → Int32 → Option (Int32 × Hp)} (hF : 700000 ≤ F) (R : PairOk F x0 A M N) : PairOk F x0 (fun h x0 x1 x2 x3 x4 x5 => oX15_isAnswered F A M h x0 x1 x2 x3 x4 x5) (fun h x0 x1 x2 x3 x4 x5 => oX15_isMove F A M h x0 x1 x2 x3 x4 x5) (N + 1) := by
  refine ⟨fun {ρ c h b l d x1 x2 x3 x4 x5} hp T r0 ed i1 i3 i13 hN W D i2 lt => ?_, fun {ρ c h b l d x1 x2 x3 x4 x5} hp T r0 ed i1 i3 i13 hN W D i2 lt => ?_⟩
  · show Sat (oX15_isAnswered F A M h x0 x1 x2 x3 x4 x5) _
    have nx := nc_i i1
    have ix1 : Rg 0 8 x1 := ⟨i1, by omega⟩
    obtain ⟨s1, s2⟩ := nc_s ix1 (by decide)
    rw [ed] at s1
    have ies : Rg 0 9 (x1 + (1 : Int32)) := ⟨by omega, by omega⟩
    unfold oX15_isAnswered
    refine s_step hF hp ed (by omega) T r0 i1 W D i2 lt (fun o ρ1 c1 b' l' X T1 W1 _ _ D1 => ?_)
    have r1 := ex_r X r0 (by decide)
    have hp1 := ex_hp X hp
    have rest : ∀ {g : Hp}, TH ρ1 c1 g → DW x0 g → DQ x0 (d + 1) b' l' g → Sat (sX15_isAnswered_26 F A M g x0 x1 x3 x4 x5) (MkI ρ c 0 1 (DW x0)) := fun {g} T2 W2 D2 => by
      unfold sX15_isAnswered_26 sX15_isAnswered_38 sX15_isAnswered_41
      refine s_br (fun _ => s_some ⟨ρ1, c1, X, T2, rg_b rfl, W2⟩) (fun n => ?_)
      have n' := ne_i n
      have one : (1 : Int32).toInt = 1 := rfl
      have hs : ∀ k w i, SX no no no k w i = true → cPm c1 k w i = true := fun k w i m => hp1 k w i (sx_sub (fun _ z => no_f z) (fun _ z => no_f z) (fun _ z => no_f z) m)
      refine s_cIf T2 hs (zX15_hasEnded hF (sxA (sx_c _)) (th_in _ T2) r1 ies (b := b') (l := l') (by rw [s1]; exact D2.1)) (fun o3 T3 i3' f3 => ?_)
      have W3 := dw_keep0 T2 r1 f3 W2
      obtain ⟨a1, a2, a3, a4⟩ := dp_keep T2 r1 f3 rfl rfl rfl D2.1
      refine s_br (fun _ => ?_) (fun _ => s_some ⟨ρ1, c1, X, T3, rg_b rfl, W3⟩)
      exact mI_ext X (answer_loop R F (fun k w i m => hp1 k w i (sd_sub (Nat.le_succ _) m)) T3 r1 ed i1 (by omega) i13 (by omega) W3 ⟨a1, a3 D2.2.1, a4 D2.2.2⟩ (by decide) (by show (3000 - (0 : Int)).toNat < F; omega))
    unfold sX15_isAnswered_6 sX15_isAnswered_21
    refine s_br (fun _ => ?_) (fun _ => rest T1 W1 D1)
    have hs : ∀ k w i, SX no no no k w i = true → cPm c1 k w i = true := fun k w i m => hp1 k w i (sx_sub (fun _ z => no_f z) (fun _ z => no_f z) (fun _ z => no_f z) m)
    refine s_cIf T1 hs (zX15_isGoal hF (sxA (sx_c _)) (th_in _ T1) r1 ies (b := b') (l := l') (by rw [s1]; exact D1.1)) (fun o3 T3 i3' f3 => ?_)
    have W3 := dw_keep0 T1 r1 f3 W1
    obtain ⟨a1, a2, a3, a4⟩ := dp_keep T1 r1 f3 rfl rfl rfl D1.1
    exact s_br (fun _ => rest T3 W3 ⟨a1, a3 D1.2.1, a4 D1.2.2⟩) (fun _ => s_some ⟨ρ1, c1, X, T3, rg_b rfl, W3⟩)
  · show Sat (oX15_isMove F A M h x0 x1 x2 x3 x4 x5) _
    have nx := nc_i i1
    have ix1 : Rg 0 8 x1 := ⟨i1, by omega⟩
    obtain ⟨s1, s2⟩ := nc_s ix1 (by decide)
    rw [ed] at s1
    have ies : Rg 0 9 (x1 + (1 : Int32)) := ⟨by omega, by omega⟩
    unfold oX15_isMove
    refine s_step hF hp ed (by omega) T r0 i1 W D i2 lt (fun o ρ1 c1 b' l' X T1 W1 _ _ D1 => ?_)
    have r1 := ex_r X r0 (by decide)
    have hp1 := ex_hp X hp
    have hs : ∀ k w i, SX no no no k w i = true → cPm c1 k w i = true := fun k w i m => hp1 k w i (sx_sub (fun _ z => no_f z) (fun _ z => no_f z) (fun _ z => no_f z) m)
    have rest : ∀ {g : Hp}, TH ρ1 c1 g → DW x0 g → DQ x0 (d + 1) b' l' g → Sat (sX15_isMove_25 F A M g x0 x1 x3 x4 x5) (MkI ρ c 0 1 (DW x0)) := fun {g} T2 W2 D2 => by
      unfold sX15_isMove_25 sX15_isMove_32 sX15_isMove_45 sX15_isMove_47
      refine s_cIf T2 hs (zX15_hasEnded hF (sxA (sx_c _)) (th_in _ T2) r1 ies (b := b') (l := l') (by rw [s1]; exact D2.1)) (fun o3 T3 i3' f3 => ?_)
      have W3 := dw_keep0 T2 r1 f3 W2
      obtain ⟨a1, a2, a3, a4⟩ := dp_keep T2 r1 f3 rfl rfl rfl D2.1
      have lp : Sat (sX15_isMove_50 F A M F o3.2 x0 x1 x3 x4 x5 0) (MkI ρ c 0 1 (DW x0)) := mI_ext X (move_loop R F (fun k w i m => hp1 k w i (sd_sub (Nat.le_succ _) m)) T3 r1 ed i1 i3 i13 (by omega) W3 ⟨a1, a3 D2.2.1, a4 D2.2.2⟩ (by decide) (by show (3000 - (0 : Int)).toNat < F; omega))
      have st : Sat (some ((0 : Int32), o3.2)) (MkI ρ c 0 1 (DW x0)) := s_some ⟨ρ1, c1, X, T3, rg_b rfl, W3⟩
      exact s_br (fun _ => s_br (fun _ => s_br (fun _ => st) (fun _ => lp)) (fun _ => lp)) (fun _ => st)
    unfold sX15_isMove_6 sX15_isMove_20
    refine s_br (fun _ => ?_) (fun _ => rest T1 W1 D1)
    refine s_cIf T1 hs (zX15_isGoal hF (sxA (sx_c _)) (th_in _ T1) r1 ies (b := b') (l := l') (by rw [s1]; exact D1.1)) (fun o3 T3 i3' f3 => ?_)
    have W3 := dw_keep0 T1 r1 f3 W1
    obtain ⟨a1, a2, a3, a4⟩ := dp_keep T1 r1 f3 rfl rfl rfl D1.1
    exact s_br (fun _ => rest T3 W3 ⟨a1, a3 D1.2.1, a4 D1.2.2⟩) (fun _ => s_some ⟨ρ1, c1, X, T3, rg_b rfl, W3⟩)
theorem pair_all (hF : 700000 ≤ F) : ∀ N, PairOk F x0 (qX15_isAnswered F N).1 (qX15_isAnswered F N).2 N := by
  intro N
  induction N with
  | zero => exact ⟨fun {ρ c h b l d x1 x2 x3 x4 x5} _ _ _ _ _ i3 _ n => by have := nc_i (x := x3) (by omega); omega, fun {ρ c h b l d x1 x2 x3 x4 x5} _ _ _ _ _ _ _ n => by omega⟩
  | succ N ih => exact pair_step hF ih
theorem zX15_isMove (hF : 700000 ≤ F) (hp : ∀ k w i, SD (d + 1) k w i = true → cPm c k w i = true) (T : TH ρ c h) (r0 : ρ x0 = 16) (ed : x1.toNatClampNeg = d) (i1 : 0 ≤ x1.toInt) (i3 : 1 ≤ x3.toInt) (i13 : x1.toInt + 2 * x3.toInt ≤ 9) (W : DW x0 h) (D : DQ x0 d b l h) (i2 : 0 ≤ x2.toInt) (lt : x2.toInt < (hI h l 0).toInt) : Sat (sX15_isMove F h x0 x1 x2 x3 x4 x5) (MkI ρ c 0 1 (DW x0)) := (pair_all hF 40).2 hp T r0 ed i1 i3 i13 (by have := nc_i (x := x3) (by omega); omega) W D i2 lt
theorem zX15_isAnswered (hF : 700000 ≤ F) (hp : ∀ k w i, SD (d + 1) k w i = true → cPm c k w i = true) (T : TH ρ c h) (r0 : ρ x0 = 16) (ed : x1.toNatClampNeg = d) (i1 : 0 ≤ x1.toInt) (i3 : 1 ≤ x3.toInt) (i13 : x1.toInt + 2 * x3.toInt ≤ 10) (W : DW x0 h) (D : DQ x0 d b l h) (i2 : 0 ≤ x2.toInt) (lt : x2.toInt < (hI h l 0).toInt) : Sat (sX15_isAnswered F h x0 x1 x2 x3 x4 x5) (MkI ρ c 0 1 (DW x0)) := (pair_all hF 40).1 hp T r0 ed i1 i3 i13 (by have := nc_i (x := x3) (by omega); omega) W D i2 lt
/-- rows that come to a goal -/
def GoalOk (F x0 : Nat) (G : Hp → Nat → Int32 → Int32 → Int32 → Int32 → Option (Int32 × Hp)) (B : Hp → Nat → Int32 → Int32 → Int32 → Int32 → Int32 → Option (Int32 × Hp)) (N : Nat) : Prop :=
  (∀ {ρ : Nat → Nat} {c : Cm} {h : Hp} {b l d : Nat} {x1 x2 x3 x4 : Int32}, (∀ k w i, SD (d + 1) k w i = true → cPm c k w i = true) → TH ρ c h → ρ x0 = 16 → x1.toNatClampNeg = d → 0 ≤ x1.toInt → 1 ≤ x2.toInt → x1.toInt + x2.toInt ≤ 9 → 2 * x2.toNatClampNeg + 1 ≤ N → DW x0 h → DQ x0 d b l h → Sat (G h x0 x1 x2 x3 x4) (MkI ρ c (-2147483648) 2147483647 (DW x0))) ∧
  (∀ {ρ : Nat → Nat} {c : Cm} {h : Hp} {b l d : Nat} {x1 x2 x3 x4 x5 : Int32}, (∀ k w i, SD (d + 1) k w i = true → cPm c k w i = true) → TH ρ c h → ρ x0 = 16 → x1.toNatClampNeg = d → 0 ≤ x1.toInt → 1 ≤ x3.toInt → x1.toInt + x3.toInt ≤ 9 → 2 * x3.toNatClampNeg ≤ N → DW x0 h → DQ x0 d b l h → 0 ≤ x2.toInt → x2.toInt < (hI h l 0).toInt → Sat (B h x0 x1 x2 x3 x4 x5) (MkI ρ c (-2147483648) 2147483647 (DW x0)))
theorem goal_loop {N : Nat} {G : Hp → Nat → Int32 → Int32 → Int32 → Int32 → Option (Int32 × Hp)} {B : Hp → Nat → Int32 → Int32 → Int32 → Int32 → Int32 → Option (Int32 × Hp)} (R : GoalOk F x0 G B N) : ∀ (f : Nat) {ρ : Nat → Nat} {c : Cm} {h : Hp} {b l d : Nat} {x1 x2 x3 x4 x5 x6 : Int32}, (∀ k w i, SD (d + 1) k w i = true → cPm c k w i = true) → TH ρ c h → ρ x0 = 16 → x1.toNatClampNeg = d → 0 ≤ x1.toInt → 1 ≤ x2.toInt → x1.toInt + x2.toInt ≤ 9 → 2 * x2.toNatClampNeg ≤ N → DW x0 h → DQ x0 d b l h → 0 ≤ x6.toInt → (3000 - x6.toInt).toNat < f → Sat (sX15_goalRows_6 F G B f h x0 x1 x2 x3 x4 x5 x6) (MkI ρ c (-2147483648) 2147483647 (DW x0)) := by
  intro f
  induction f with
  | zero => intros; omega
  | succ f ih =>
    intro ρ c h b l d x1 x2 x3 x4 x5 x6 hp T r0 ed i1 i2 i12 hN W D a6 hf
    rw [sX15_goalRows_6]
    unfold sX15_goalRows_33
    have nx := nc_i i1
    have ix1 : Rg 0 9 x1 := ⟨i1, by omega⟩
    refine s_list T r0 ix1 (b := b) (l := l) (by rw [ed]; exact D.1) ?_
    refine s_br (fun _ => s_some ⟨ρ, c, ex_0, T, rg_top _, W⟩) (fun n1 => ?_)
    have lt6 := nle_i n1
    obtain ⟨k1, k2, k3, k4⟩ := dp_r T r0 D.1
    have h3000 := thI T k2 (k := 14) (i := 0) (lo := 0) (hi := 3000) rfl
    have ix : Rg 0 2999 x6 := ⟨a6, by have := h3000.2; omega⟩
    refine s_mI (S := SD (d + 1)) T hp (R.2 (sx_c _) (th_in _ T) r0 ed i1 i2 i12 hN W D a6 lt6) (fun o ρ1 c1 X T1 f1 i1' W1 => ?_)
    obtain ⟨D1, e1⟩ := dq_keep T r0 f1 (Nat.lt_succ_self d) D
    refine s_q (fun u eu => ?_)
    refine s_q (fun v ev => ?_)
    have ev2 : v.toInt = x6.toInt + 1 := by rw [ev]; exact (nc_s ix (by decide)).2
    exact mI_ext X (ih (ex_hp X hp) T1 (ex_r X r0 (by decide)) ed i1 i2 i12 hN W1 D1 (by omega) (by have := ix.2; omega))
theorem goal_step {N : Nat} {G : Hp → Nat → Int32 → Int32 → Int32 → Int32 → Option (Int32 × Hp)} {B : Hp → Nat → Int32 → Int32 → Int32 → Int32 → Int32 → Option (Int32 × Hp)} (hF : 700000 ≤ F) (R : GoalOk F x0 G B N) : GoalOk F x0 (fun h x0 x1 x2 x3 x4 => oX15_goalRows F G B h x0 x1 x2 x3 x4) (fun h x0 x1 x2 x3 x4 x5 => oX15_goalRowsBy F G B h x0 x1 x2 x3 x4 x5) (N + 1) := by
  refine ⟨fun {ρ c h b l d x1 x2 x3 x4} hp T r0 ed i1 i2 i12 hN W D => ?_, fun {ρ c h b l d x1 x2 x3 x4 x5} hp T r0 ed i1 i3 i13 hN W D i2 lt => ?_⟩
  · show Sat (oX15_goalRows F G B h x0 x1 x2 x3 x4) _
    unfold oX15_goalRows
    exact goal_loop R F hp T r0 ed i1 i2 i12 (by omega) W D (by decide) (by show (3000 - (0 : Int)).toNat < F; omega)
  · show Sat (oX15_goalRowsBy F G B h x0 x1 x2 x3 x4 x5) _
    have nx := nc_i i1
    have nx3 := nc_i (x := x3) (by omega)
    have ix1 : Rg 0 8 x1 := ⟨i1, by omega⟩
    obtain ⟨s1, s2⟩ := nc_s ix1 (by decide)
    rw [ed] at s1
    have e3 : (x3 - (1 : Int32)).toInt = x3.toInt - 1 := by
      rw [ti_sub (a := 0) (b := 9) (c := 1) (d := 1) ⟨by omega, by omega⟩ (rg_b rfl) (by decide)]; rfl
    have n3' := nc_i (x := x3 - (1 : Int32)) (by omega)
    have ies : Rg 0 9 (x1 + (1 : Int32)) := ⟨by omega, by omega⟩
    unfold oX15_goalRowsBy
    refine s_step hF hp ed (by omega) T r0 i1 W D i2 lt (fun o ρ1 c1 b' l' X T1 W1 _ _ D1 => ?_)
    have r1 := ex_r X r0 (by decide)
    have hp1 := ex_hp X hp
    unfold sX15_goalRowsBy_6 sX15_goalRowsBy_20 sX15_goalRowsBy_28 sX15_goalRowsBy_41 sX15_goalRowsBy_54 sX15_goalRowsBy_65 sX15_goalRowsBy_79
    refine s_br (fun _ => ?_) (fun n => ?_)
    · have hs : ∀ k w i, SX no no no k w i = true → cPm c1 k w i = true := fun k w i m => hp1 k w i (sx_sub (fun _ z => no_f z) (fun _ z => no_f z) (fun _ z => no_f z) m)
      refine s_cIf T1 hs (zX15_isGoal hF (sxA (sx_c _)) (th_in _ T1) r1 ies (b := b') (l := l') (by rw [s1]; exact D1.1)) (fun o3 T3 i3' f3 => ?_)
      have W3 := dw_keep0 T1 r1 f3 W1
      exact s_br (fun _ => s_some ⟨ρ1, c1, X, T3, rg_top _, W3⟩) (fun _ => s_some ⟨ρ1, c1, X, T3, rg_top _, W3⟩)
    · have n' := ne_i n
      have one : (1 : Int32).toInt = 1 := rfl
      have down : ∀ {g : Hp}, TH ρ1 c1 g → DW x0 g → DQ x0 (d + 1) b' l' g → Sat (cl (G g x0 (x1 + (1 : Int32)) (x3 - (1 : Int32)) x4 x5) fun o_1 => some (o_1.1, o_1.2)) (MkI ρ c (-2147483648) 2147483647 (DW x0)) := fun {g} T2 W2 D2 => by
        refine s_cl (s_imp (R.1 (fun k w i m => hp1 k w i (sd_sub (Nat.le_succ _) m)) T2 r1 s1 (by omega) (by omega) (by omega) (by omega) W2 D2) (fun o4 ⟨ρ2, c2, Y, z⟩ => s_some ⟨ρ2, c2, ex_t X Y, z⟩))
      refine s_br (fun _ => down T1 W1 D1) (fun _ => ?_)
      obtain ⟨o6, e6, T6, i6, W6, D6', P6⟩ := zX15_turnsBack (c := c1) (b := b') (l := l') hF hp1 sdb_0 (by rw [s1]; exact sdb_t (Nat.le_refl _) (by omega)) (by rw [s1]; exact sdl_t (Nat.le_refl _) (by omega)) T1 r1 ies W1 (by rw [s1]; exact D1.1) D1.2.1
      refine s_val e6 ?_
      refine s_br (fun _ => s_some ⟨ρ1, c1, X, T6, rg_top _, W6⟩) (fun nz => ?_)
      refine s_deep0 T6 r1 ies D6' ?_
      refine s_list T6 r1 ies D6' ?_
      rw [s1] at D6'
      exact s_legal hF hp1 sdb_0 (sdl_t (Nat.le_refl _) (by omega)) T6 r1 W6 D6' (P6 nz) (fun o8 T8 _ W8 D8 P8 M8 => down T8 W8 ⟨D8, P8, M8⟩)
theorem goal_all (hF : 700000 ≤ F) : ∀ N, GoalOk F x0 (qX15_goalRows F N).1 (qX15_goalRows F N).2 N := by
  intro N
  induction N with
  | zero => exact ⟨fun {ρ c h b l d x1 x2 x3 x4} _ _ _ _ _ _ _ n => by omega, fun {ρ c h b l d x1 x2 x3 x4 x5} _ _ _ _ _ i3 _ n => by have := nc_i (x := x3) (by omega); omega⟩
  | succ N ih => exact goal_step hF ih
theorem zX15_goalRowsBy (hF : 700000 ≤ F) (hp : ∀ k w i, SD (d + 1) k w i = true → cPm c k w i = true) (T : TH ρ c h) (r0 : ρ x0 = 16) (ed : x1.toNatClampNeg = d) (i1 : 0 ≤ x1.toInt) (i3 : 1 ≤ x3.toInt) (i13 : x1.toInt + x3.toInt ≤ 9) (W : DW x0 h) (D : DQ x0 d b l h) (i2 : 0 ≤ x2.toInt) (lt : x2.toInt < (hI h l 0).toInt) : Sat (sX15_goalRowsBy F h x0 x1 x2 x3 x4 x5) (MkI ρ c (-2147483648) 2147483647 (DW x0)) := (goal_all hF 40).2 hp T r0 ed i1 i3 i13 (by have := nc_i (x := x3) (by omega); omega) W D i2 lt
/-- rows of all lengths are few enough -/
theorem room_loop (hF : 700000 ≤ F) : ∀ (f : Nat) {ρ : Nat → Nat} {c : Cm} {h : Hp} {b : Nat} {x2 x3 x4 : Int32}, (∀ k w i, SD 0 k w i = true → cPm c k w i = true) → TH ρ c h → ρ x0 = 16 → ρ b = 13 → cw c b = 3400 → x2.toInt ≤ 9 → DW x0 h → PE b h → 1 ≤ x4.toInt → (10 - x4.toInt).toNat < f → Sat (sX15_isRoom_3 F f h x0 b x2 x3 x4) (MkI ρ c 0 1 (DW x0)) := by
  intro f
  induction f with
  | zero => intros; omega
  | succ f ih =>
    intro ρ c h b x2 x3 x4 hp T r0 rb wb i2 W P a4 hf
    rw [sX15_isRoom_3]
    unfold sX15_isRoom_14 sX15_isRoom_18 sX15_isRoom_26
    refine s_br (fun _ => s_some ⟨ρ, c, ex_0, T, rg_b rfl, W⟩) (fun n => ?_)
    have le4 := nlt_i n
    have i0 : Rg 0 9 (0 : Int32) := rg_b rfl
    have z0 : (0 : Int32).toNatClampNeg = 0 := rfl
    have zz : (0 : Int32).toInt = 0 := rfl
    refine s_deep hp (sdp_t (Nat.zero_le _)) T r0 i0 W (fun o4 ρ1 c1 l' X1 T1 f1 W1 D1 => ?_)
    rw [z0] at D1
    have r1 := ex_r X1 r0 (by decide)
    have hp1 := ex_hp X1 hp
    have rb1 := ex_r X1 rb (by decide)
    have wb1 := ex_w X1 rb (by decide) wb
    have P1 : PE b o4.2 := pe_fr T rb f1 (sx_f (Or.inl rfl) rfl (Or.inr rfl) (Or.inl rfl)) (sx_f (Or.inl rfl) rfl (Or.inr rfl) (Or.inl rfl)) (sx_f (Or.inl rfl) rfl (Or.inr rfl) (Or.inl rfl)) (fun i => sx_f (Or.inl rfl) rfl (Or.inr rfl) (Or.inl rfl)) (fun i => sx_f (Or.inl rfl) rfl (Or.inr rfl) (Or.inl rfl)) P
    obtain ⟨j1, j2, j3, j4⟩ := dp_r T1 r1 D1
    have hs : ∀ k w i, SX no (is 3500) no k w i = true → cPm c1 k w i = true := fun k w i m => hp1 k w i (sx_sub (fun _ z => no_f z) (fun w z => by rw [is_e z]; rfl) (fun _ z => no_f z) m)
    refine s_cVfq T1 hs (s_weq (zX12_copy hF (pmO_s (w := 3500) (sxB (sx_c _) rfl) rfl) j3 wb1 (th_in _ T1) j1 rb1)) (fun o5 T5 f5 e5 => ?_)
    have P5 := pe_copy T1 j1 rb1 P1 e5
    have W5 := dw_keep0 T1 r1 f5 W1
    have D5 := dp_keep0 T1 r1 f5 D1
    have Pb5 : PE b o5 := pe_fr T1 rb1 f5 (sx_f (Or.inl rfl) rfl (Or.inr (by rw [wb1]; rfl)) (Or.inl rfl)) (sx_f (Or.inl rfl) rfl (Or.inr (by rw [wb1]; rfl)) (Or.inl rfl)) (sx_f (Or.inl rfl) rfl (Or.inr (by rw [wb1]; rfl)) (Or.inl rfl)) (fun i => sx_f (Or.inl rfl) rfl (Or.inr (by rw [wb1]; rfl)) (Or.inl rfl)) (fun i => sx_f (Or.inl rfl) rfl (Or.inr (by rw [wb1]; rfl)) (Or.inl rfl)) P1
    refine s_mI (S := SD 0) T5 hp1 (zX15_countRows (d := 0) hF (sx_c _) (th_in _ T5) r1 rfl (by decide) (by omega) (by rw [zz]; omega) W5 D5 P5) (fun o ρ2 c2 Y T6 f6 i6 W6 => ?_)
    have Pb6 : PE b o.2 := pe_fr T5 rb1 f6 (sx_f (Or.inl rfl) rfl (Or.inr (by rw [wb1]; rfl)) (Or.inl rfl)) (sx_f (Or.inl rfl) rfl (Or.inr (by rw [wb1]; rfl)) (Or.inl rfl)) (sx_f (Or.inl rfl) rfl (Or.inr (by rw [wb1]; rfl)) (Or.inl rfl)) (fun i => sx_f (Or.inl rfl) rfl (Or.inr (by rw [wb1]; rfl)) (Or.inl rfl)) (fun i => sx_f (Or.inl rfl) rfl (Or.inr (by rw [wb1]; rfl)) (Or.inl rfl)) Pb5
    refine s_br (fun _ => ?_) (fun _ => s_some ⟨ρ2, c2, ex_t X1 Y, T6, rg_b rfl, W6⟩)
    refine s_q (fun v ev => ?_)
    have ix : Rg 0 9 x4 := ⟨by omega, by omega⟩
    have ev2 : v.toInt = x4.toInt + 1 := by rw [ev]; exact (nc_s ix (by decide)).2
    exact mI_ext (ex_t X1 Y) (ih (ex_hp Y hp1) T6 (ex_r Y r1 (by decide)) (ex_r Y rb1 (by decide)) (ex_w Y rb1 (by decide) wb1) i2 W6 Pb6 (by omega) (by omega))
theorem zX15_isRoom (hF : 700000 ≤ F) (hp : ∀ k w i, SD 0 k w i = true → cPm c k w i = true) (T : TH ρ c h) (r0 : ρ x0 = 16) (rb : ρ b = 13) (wb : cw c b = 3400) (i2 : x2.toInt ≤ 9) (W : DW x0 h) (P : PE b h) : Sat (sX15_isRoom F h x0 b x2 x3) (MkI ρ c 0 1 (DW x0)) := by
  unfold sX15_isRoom
  exact room_loop hF F hp T r0 rb wb i2 W P (by decide) (by show (10 - (1 : Int)).toNat < F; omega)
end
