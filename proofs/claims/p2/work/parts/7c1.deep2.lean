section
variable {Bq : Nat × Nat} {ρ : Nat → Nat} {c : Cm} {h : Hp} {F x0 b l d : Nat} {x1 x2 : Int32} {p wb wl : Nat → Bool}
theorem dw_wIY {i : Nat} {v : Int32} (r0 : ρ x0 = 16) (rb : ρ b = 13) (W : DWY Bq x0 h) : DWY Bq x0 (wI h b i v) := by
  refine ⟨?_, W.2⟩
  have n : ∀ j, hI (wI h b i v) x0 j = hI h x0 j := fun j => by rw [r_I, if_neg (ne_r r0 rb (by decide))]
  show (hI (wI h b i v) x0 13).toInt = (hI (wI h b i v) x0 11).toInt * (hI (wI h b i v) x0 12).toInt
  rw [n, n, n]; exact W.1
theorem s_legalY {β : Type} {Q : β → Prop} {k : Hp → Option β} (hF : 700000 ≤ F) (hp : ∀ k w i, SX p wb wl k w i = true → cPm c k w i = true) (h1 : wb 2528 = true) (h3 : wl (3600 + d) = true) (T : TH ρ c h) (r0 : ρ x0 = 16) (W : DWY Bq x0 h) (D : Dp x0 d b l h) (P : PE b h) (H : ∀ o, TH ρ c o → Fr ρ (cat c (SX no (is 2528) (is (3600 + d))) h) h o → DWY Bq x0 o → Dp x0 d b l o → PE b o → MvB x0 b l o → Sat (k o) Q) : Sat (cl (sX15_legal F h x0 b l) k) Q := by
  obtain ⟨k1, k2, k3, k4⟩ := dp_r T r0 D
  have hs : ∀ k w i, SX no (is 2528) (is (3600 + d)) k w i = true → cPm c k w i = true := fun k w i m => hp k w i (sx_sub (fun _ z => no_f z) (fun w z => by rw [is_e z]; exact h1) (fun w z => by rw [is_e z]; exact h3) m)
  refine s_cVfq T hs (zX15_legal hF (pmA_s (sxA (sx_c _)) rfl) (pmO_s (sxB (sx_c _) is_s) rfl) (pmO_s (w := 3600 + d) (sxM (sx_c _) is_s) rfl) k3 k4 (by omega) (th_in _ T) r0 k1 k2 W.1 P) (fun o T1 f mv => ?_)
  have kp := dp_keep0 T r0 f D
  have P1 : PE b o := by
    have z : ∀ k i, mS saL k i = false → mS mpL k i = false → (k == 90 || k == 91) = false → SX no (is 2528) (is (3600 + d)) k (cw c b) i = false := fun k i a1 a2 a3 => sx_f (Or.inl a3) a1 (Or.inr (by rw [k3]; exact is_f (by omega))) (Or.inl a2)
    exact pe_fr T k1 f (z _ _ rfl rfl rfl) (z _ _ rfl rfl rfl) (z _ _ rfl rfl rfl) (fun i => z _ _ rfl rfl rfl) (fun i => z _ _ rfl rfl rfl) P
  exact H o T1 f (dw_keep0Y T r0 f W) kp P1 mv
theorem zX15_turnsBackY (hF : 700000 ≤ F) (hp : ∀ k w i, SX p wb wl k w i = true → cPm c k w i = true) (h1 : wb 2528 = true) (h2 : wb (3500 + x1.toNatClampNeg) = true) (h3 : wl (3600 + x1.toNatClampNeg) = true) (T : TH ρ c h) (r0 : ρ x0 = 16) (i1 : Rg 0 9 x1) (W : DWY Bq x0 h) (D : Dp x0 x1.toNatClampNeg b l h) (P : PE b h) : Sat (sX15_turnsBack F h x0 x1) (fun o => TH ρ c o.2 ∧ Rg 0 1 o.1 ∧ DWY Bq x0 o.2 ∧ Dp x0 x1.toNatClampNeg b l o.2 ∧ (¬ o.1 = 0 → PE b o.2)) := by
  unfold sX15_turnsBack
  refine s_deep0 T r0 i1 D ?_
  unfold sX15_turnsBack_5
  refine s_list T r0 i1 D ?_
  refine s_legalY hF hp h1 h3 T r0 W D P (fun o T1 _ W1 D1 P1 _ => ?_)
  obtain ⟨k1, k2, k3, k4⟩ := dp_r T1 r0 D1
  unfold sX15_turnsBack_17
  refine s_cI0 (zX15_royalOf hF T1 r0 k1 (thI T1 k1 (k := 13) (i := 1) (lo := 0) (hi := 1) rfl)) (fun o2 e2 i2 => ?_)
  obtain ⟨v2, g2⟩ := o2
  have : g2 = o := e2
  subst this
  unfold sX15_turnsBack_26
  refine s_list T1 r0 i1 D1 ?_
  have hs : ∀ k w i, SX no no no k w i = true → cPm c k w i = true := fun k w i m => hp k w i (sx_sub (fun _ z => no_f z) (fun _ z => no_f z) (fun _ z => no_f z) m)
  refine s_cIf T1 hs (zX15_endedBy hF (pmA_s (sxA (sx_c _)) rfl) rfl (th_in _ T1) r0 k1 (thI T1 k2 (k := 14) (i := 0) (lo := 0) (hi := 3000) rfl)) (fun o3 T3 i3 f3 => ?_)
  have W3 := dw_keep0Y T1 r0 f3 W1
  have D3 := dp_keep0 T1 r0 f3 D1
  have e0 : Sat (some ((0 : Int32), o3.2)) (fun o => TH ρ c o.2 ∧ Rg 0 1 o.1 ∧ DWY Bq x0 o.2 ∧ Dp x0 x1.toNatClampNeg b l o.2 ∧ (¬ o.1 = 0 → PE b o.2)) := s_some ⟨T3, rg_b rfl, W3, D3, fun z => absurd rfl z⟩
  have e1 : ∀ o3 : Hp, TH ρ c o3 → DWY Bq x0 o3 → Dp x0 x1.toNatClampNeg b l o3 → Sat (sX15_turnsBack_66 F o3 b) (fun o => TH ρ c o.2 ∧ Rg 0 1 o.1 ∧ DWY Bq x0 o.2 ∧ Dp x0 x1.toNatClampNeg b l o.2 ∧ (¬ o.1 = 0 → PE b o.2)) := fun o3 T3 W3 D3 => by
    unfold sX15_turnsBack_66
    refine s_hq (th_wI T3 k1 (k := 13) (i := 1) (lo := 0) (hi := 1) rfl (rg_sub (rg_b rfl : Rg 1 1 (1 : Int32)) (thI T3 k1 (k := 13) (i := 1) (lo := 0) (hi := 1) rfl) (by decide)) (by decide) (by decide) (by rw [k3]; exact sxB hp h2 13 1 rfl)) (fun g4 T4 e4 => ?_)
    refine s_hq (th_wI T4 k1 (k := 13) (i := 3) (lo := 0) (hi := 64) rfl (rg_b rfl : Rg 0 64 (0 : Int32)) (by decide) (by decide) (by rw [k3]; exact sxB hp h2 13 3 rfl)) (fun g5 T5 e5 => ?_)
    refine s_some ⟨T5, rg_b rfl, ?_, ?_, fun _ => pe_0 (by rw [he_s e5]; rfl)⟩
    · rw [e5, e4]; exact dw_wIY r0 k1 (dw_wIY r0 k1 W3)
    · rw [e5, e4]; exact D3
  unfold sX15_turnsBack_41 sX15_turnsBack_61 sX15_turnsBack_64
  refine s_br (fun _ => e0) (fun _ => ?_)
  refine s_br (fun _ => e1 _ T3 W3 D3) (fun n => ?_)
  refine s_cIf T3 hs (zX15_isAttacked hF (pmA_s (sxA (sx_c _)) rfl) rfl (th_in _ T3) r0 k1 (rg_nlo n i2 (rg_b rfl : Rg (-1) (-1) (-1 : Int32))) (rg_sub (rg_b rfl : Rg 1 1 (1 : Int32)) (thI T3 k1 (k := 13) (i := 1) (lo := 0) (hi := 1) rfl) (by decide))) (fun o4 T4 i4 f4 => ?_)
  have W4 := dw_keep0Y T3 r0 f4 W3
  have D4 := dp_keep0 T3 r0 f4 D3
  exact s_br (fun _ => e1 _ T4 W4 D4) (fun _ => s_some ⟨T4, rg_b rfl, W4, D4, fun z => absurd rfl z⟩)
theorem zX15_stepY (hF : 700000 ≤ F) (hp : ∀ k w i, SX p wb wl k w i = true → cPm c k w i = true) (ed : x1.toNatClampNeg = d) (h0 : p (d + 1) = true) (h1 : wb 2528 = true) (h2 : wb (3500 + (d + 1)) = true) (h3 : wl (3600 + (d + 1)) = true) (T : TH ρ c h) (r0 : ρ x0 = 16) (i1 : Rg 0 8 x1) (W : DWY Bq x0 h) (D : Dp x0 d b l h) (P : PE b h) (M : MvB x0 b l h) (i2 : 0 ≤ x2.toInt) (lt : x2.toInt < (hI h l 0).toInt) : Sat (sX15_step F h x0 x1 x2) (MkV ρ c (fun o => DWY Bq x0 o ∧ ∃ b' l', Dp x0 (d + 1) b' l' o ∧ PE b' o ∧ MvB x0 b' l' o)) := by
  have i1' : Rg 0 9 x1 := rg_m i1 (by decide)
  have ies : Rg 0 9 (x1 + (1 : Int32)) := rg_add i1 (rg_b rfl : Rg 1 1 (1 : Int32)) (by decide)
  have es : (x1 + (1 : Int32)).toNatClampNeg = d + 1 := by rw [(nc_s i1 (by decide)).1, ed]
  have D' : Dp x0 x1.toNatClampNeg b l h := by rw [ed]; exact D
  unfold sX15_step
  refine s_deep0 T r0 i1' D' ?_
  unfold sX15_step_6
  refine s_list T r0 i1' D' ?_
  refine s_deepY hp (by rw [es]; exact h0) T r0 ies W (fun o4 ρ1 c1 l' X1 T1 f1 W1 D1 => ?_)
  rw [es] at f1 D1
  obtain ⟨Db, el, Pb, Mb⟩ := dp_keep T r0 f1 (is_f (by omega)) rfl rfl D
  have P1 := Pb P
  have M1 := Mb M
  have r1 := ex_r X1 r0 (by decide)
  have hp1 := ex_hp X1 hp
  obtain ⟨k1, k2, k3, k4⟩ := dp_r T1 r1 Db
  obtain ⟨j1, j2, j3, j4⟩ := dp_r T1 r1 D1
  have h3000 := thI T1 k2 (k := 14) (i := 0) (lo := 0) (hi := 3000) rfl
  rw [← el] at lt
  have ix : Rg 0 2999 x2 := ⟨i2, by have := h3000.2; omega⟩
  unfold sX15_step_20
  have hs : ∀ k w i, SX no (is (3500 + (d + 1))) no k w i = true → cPm c1 k w i = true := fun k w i m => hp1 k w i (sx_sub (fun _ z => no_f z) (fun w z => by rw [is_e z]; exact h2) (fun _ z => no_f z) m)
  refine s_cVfq T1 hs (zX15_make hF (pmA_s (sxA (sx_c _)) rfl) (pmO_s (w := 3500 + (d + 1)) (sxB (sx_c _) is_s) rfl) k3 k4 j3 (th_in _ T1) r1 k1 k2 ix j1 W1.1 M1 lt) (fun o5 T5 f5 P5 => ?_)
  have W5 := dw_keep0Y T1 r1 f5 W1
  have D5 := dp_keep0 T1 r1 f5 D1
  unfold sX15_step_23
  have D5' : Dp x0 (x1 + (1 : Int32)).toNatClampNeg o4.1 l' o5 := by rw [es]; exact D5
  refine s_deep0 T5 r1 ies D5' ?_
  unfold sX15_step_31
  refine s_list T5 r1 ies D5' ?_
  refine s_legalY hF hp1 h1 h3 T5 r1 W5 D5 P5 (fun o6 T6 _ W6 D6 P6 M6 => ?_)
  unfold sX15_step_42
  exact s_some ⟨ρ1, c1, X1, T6, W6, _, _, D6, P6, M6⟩
end
