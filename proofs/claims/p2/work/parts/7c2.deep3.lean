section
variable {d e j : Nat}
end
section
variable {Bq : Nat × Nat} {ρ : Nat → Nat} {c : Cm} {h o : Hp} {F x0 b l d e : Nat} {x1 x2 x3 x4 x5 : Int32} {p wb wl : Nat → Bool}
theorem s_stepY {β : Type} {Q : β → Prop} {k : Hp → Option β} (hF : 700000 ≤ F) (hp : ∀ k w i, SD (d + 1) k w i = true → cPm c k w i = true) (ed : x1.toNatClampNeg = d) (hd : d ≤ 8) (T : TH ρ c h) (r0 : ρ x0 = 16) (i1 : 0 ≤ x1.toInt) (W : DWY Bq x0 h) (D : DQ x0 d b l h) (i2 : 0 ≤ x2.toInt) (lt : x2.toInt < (hI h l 0).toInt) (H : ∀ o ρ1 c1 b' l', Ext ρ c ρ1 c1 → TH ρ1 c1 o → DWY Bq x0 o → DQ x0 d b l o → hI o l 0 = hI h l 0 → DQ x0 (d + 1) b' l' o → Sat (k o) Q) : Sat (cl (sX15_step F h x0 x1 x2) k) Q := by
  have nx := nc_i i1
  refine s_mV (S := SD (d + 1)) T hp (zX15_stepY hF (sx_c _) ed (sdp_t (Nat.le_refl _)) sdb_0 (sdb_t (Nat.le_refl _) (by omega)) (sdl_t (Nat.le_refl _) (by omega)) (th_in _ T) r0 ⟨i1, by omega⟩ W D.1 D.2.1 D.2.2 i2 lt) (fun o ρ1 c1 X T1 f ⟨W1, b', l', D1⟩ => ?_)
  obtain ⟨D2, e2⟩ := dq_keep T r0 f (Nat.lt_succ_self d) D
  exact H o ρ1 c1 b' l' X T1 W1 D2 e2 D1
def CountOkY (Bq : Nat × Nat) (F x0 D : Nat) : Prop := ∀ {ρ : Nat → Nat} {c : Cm} {h : Hp} {b l d : Nat} {x1 x2 x3 : Int32}, (∀ k w i, SD d k w i = true → cPm c k w i = true) → TH ρ c h → ρ x0 = 16 → x1.toNatClampNeg = d → 0 ≤ x1.toInt → 0 ≤ x2.toInt → x1.toInt + x2.toInt ≤ 9 → x2.toNatClampNeg < D → DWY Bq x0 h → Dp x0 d b l h → PE b h → Sat (qX15_countRows F D h x0 x1 x2 x3) (MkI ρ c 0 (100000 * x2.toInt + 1) (DWY Bq x0))
theorem count_loopY {D : Nat} (hF : 700000 ≤ F) (R : CountOkY Bq F x0 D) : ∀ (f : Nat) {ρ : Nat → Nat} {c : Cm} {h : Hp} {b l d : Nat} {x1 x2 x3 x6 x7 : Int32}, (∀ k w i, SD (d + 1) k w i = true → cPm c k w i = true) → TH ρ c h → ρ x0 = 16 → x1.toNatClampNeg = d → 0 ≤ x1.toInt → 2 ≤ x2.toInt → x1.toInt + x2.toInt ≤ 9 → x2.toNatClampNeg < D + 1 → DWY Bq x0 h → DQ x0 d b l h → 0 ≤ x6.toInt → x6.toInt ≤ 100000 * x2.toInt + 1 → 0 ≤ x7.toInt → (3000 - x7.toInt).toNat < f → Sat (sX15_countRows_46 F (qX15_countRows F D) f h x0 x1 x2 x3 b l x6 x7) (MkI ρ c 0 (100000 * x2.toInt + 1) (DWY Bq x0)) := by
  intro f
  induction f with
  | zero => intros; omega
  | succ f ih =>
    intro ρ c h b l d x1 x2 x3 x6 x7 hp T r0 ed i1 i2 i12 hD W D6 a6 b6 a7 hf
    rw [sX15_countRows_46]
    unfold sX15_countRows_117 sX15_countRows_78 sX15_countRows_81 sX15_countRows_92 sX15_countRows_95 sX15_countRows_108 sX15_countRows_111
    refine s_br (fun _ => s_some ⟨ρ, c, ex_0, T, ⟨a6, b6⟩, W⟩) (fun n1 => ?_)
    refine s_br (fun _ => s_some ⟨ρ, c, ex_0, T, ⟨a6, b6⟩, W⟩) (fun n2 => ?_)
    have lt7 := nle_i n1
    have le6 : x6.toInt ≤ 100000 := nlt_i n2
    have nx := nc_i i1
    have nx2 := nc_i (x := x2) (by omega)
    have ix1 : Rg 0 7 x1 := ⟨i1, by omega⟩
    obtain ⟨s1, s2⟩ := nc_s ix1 (by decide)
    rw [ed] at s1
    have ies : Rg 0 9 (x1 + (1 : Int32)) := ⟨by omega, by omega⟩
    have one : (1 : Int32).toInt = 1 := rfl
    have e2 : (x2 - (1 : Int32)).toInt = x2.toInt - 1 := by
      rw [ti_sub (a := 0) (b := 9) (c := 1) (d := 1) ⟨by omega, by omega⟩ (rg_b rfl) (by decide)]; rfl
    have n2' := nc_i (x := x2 - (1 : Int32)) (by omega)
    refine s_deepY hp (by rw [s1]; exact sdp_t (Nat.le_refl _)) T r0 ies W (fun o4 ρ1 c1 l' X1 T1 f1 W1 D1 => ?_)
    rw [s1] at f1 D1
    obtain ⟨Db, el, Pb, Mb⟩ := dp_keep T r0 f1 (is_f (by omega)) rfl rfl D6.1
    have P1 := Pb D6.2.1
    have M1 := Mb D6.2.2
    have r1 := ex_r X1 r0 (by decide)
    have hp1 := ex_hp X1 hp
    obtain ⟨k1, k2, k3, k4⟩ := dp_r T1 r1 Db
    obtain ⟨j1, j2, j3, j4⟩ := dp_r T1 r1 D1
    have h3000 := thI T1 k2 (k := 14) (i := 0) (lo := 0) (hi := 3000) rfl
    rw [← el] at lt7
    have ix : Rg 0 2999 x7 := ⟨a7, by have := h3000.2; omega⟩
    have hs : ∀ k w i, SX no (is (3500 + (d + 1))) no k w i = true → cPm c1 k w i = true := fun k w i m => hp1 k w i (sx_sub (fun _ z => no_f z) (fun w z => by rw [is_e z]; exact sdb_t (Nat.le_refl _) (by omega)) (fun _ z => no_f z) m)
    refine s_cVfq T1 hs (zX15_make hF (pmA_s (sxA (sx_c _)) rfl) (pmO_s (w := 3500 + (d + 1)) (sxB (sx_c _) is_s) rfl) k3 k4 j3 (th_in _ T1) r1 k1 k2 ix j1 W1.1 M1 lt7) (fun o5 T5 f5 P5 => ?_)
    have W5 := dw_keep0Y T1 r1 f5 W1
    have D5 := dp_keep0 T1 r1 f5 D1
    obtain ⟨D55, el5, Pb5, Mb5⟩ := dp_keep T1 r1 f5 rfl (is_f (by omega)) rfl Db
    have Q5 : DQ x0 d b l o5 := ⟨D55, Pb5 P1, Mb5 M1⟩
    have hc5 := ex_hp X1 (S := SD (d + 1)) hp
    -- going on, with the sum that stands, or with the rows of the next depth added
    have goon : ∀ {ρ2 : Nat → Nat} {c2 : Cm} {g : Hp} {y : Int32}, Ext ρ1 c1 ρ2 c2 → TH ρ2 c2 g → DWY Bq x0 g → DQ x0 d b l g → 0 ≤ y.toInt → y.toInt ≤ 100000 * x2.toInt + 1 → Sat (nm (x7 + (1 : Int32)) fun v_1 => sX15_countRows_46 F (qX15_countRows F D) f g x0 x1 x2 x3 b l y v_1) (MkI ρ c 0 (100000 * x2.toInt + 1) (DWY Bq x0)) := fun {ρ2 c2 g y} Y T2 W2 D2 y0 y1 => by
      refine s_q (fun v ev => ?_)
      have ev2 : v.toInt = x7.toInt + 1 := by rw [ev]; exact (nc_s ix (by decide)).2
      exact mI_ext (ex_t X1 Y) (ih (ex_hp Y hc5) T2 (ex_r Y r1 (by decide)) ed i1 i2 i12 hD W2 D2 y0 y1 (by omega) (by have := ix.2; omega))
    have down : ∀ {g : Hp}, TH ρ1 c1 g → DWY Bq x0 g → DQ x0 d b l g → Dp x0 (d + 1) o4.1 l' g → PE o4.1 g → Sat (cl (qX15_countRows F D g x0 (x1 + (1 : Int32)) (x2 - (1 : Int32)) x3) fun o_1 => nm (x6 + o_1.1) fun v_1 => nm (x7 + (1 : Int32)) fun v_2 => sX15_countRows_46 F (qX15_countRows F D) f o_1.2 x0 x1 x2 x3 b l v_1 v_2) (MkI ρ c 0 (100000 * x2.toInt + 1) (DWY Bq x0)) := fun {g} T2 W2 D2 D3 P3 => by
      refine s_mI (S := SD (d + 1)) T2 hc5 (R (sx_c _) (th_in _ T2) r1 s1 (by omega) (by omega) (by omega) (by omega) W2 D3 P3) (fun o ρ2 c2 Y T4 f4 i4 W4 => ?_)
      obtain ⟨D4, e4⟩ := dq_keep T2 r1 f4 (Nat.lt_succ_self d) D2
      refine s_q (fun v ev => ?_)
      have l4 : o.1.toInt ≤ 900001 := by have := i4.2; omega
      have ev2 : v.toInt = x6.toInt + o.1.toInt := by rw [ev]; exact ti_add (a := 0) (b := 100000) (c := 0) (d := 900001) ⟨a6, le6⟩ ⟨i4.1, l4⟩ (by decide)
      exact goon Y T4 W4 D4 (by have := i4.1; omega) (by have := i4.2; omega)
    refine s_br (fun _ => down T5 W5 Q5 D5 P5) (fun _ => ?_)
    have D5' : Dp x0 (x1 + (1 : Int32)).toNatClampNeg o4.1 l' o5 := by rw [s1]; exact D5
    have hs6 : ∀ k w i, SD (d + 1) k w i = true → cPm c1 k w i = true := hc5
    obtain ⟨o6, e6, T6, i6, W6, D6', P6⟩ := zX15_turnsBackY (c := cat c1 (SD (d + 1)) o5) hF (sx_c _) sdb_0 (by rw [s1]; exact sdb_t (Nat.le_refl _) (by omega)) (by rw [s1]; exact sdl_t (Nat.le_refl _) (by omega)) (th_in _ T5) r1 ies W5 D5' P5
    have T7 := th_out T5 hs6 T6
    have f7 := fr_u T5 T6.2.2
    obtain ⟨D7, e7⟩ := dq_keep T5 r1 f7 (Nat.lt_succ_self d) Q5
    rw [s1] at D6'
    refine s_val e6 ?_
    exact s_br (fun _ => goon ex_0 T7 W6 D7 a6 b6) (fun n => down T7 W6 D7 D6' (P6 n))
theorem count_allY (hF : 700000 ≤ F) : ∀ D, CountOkY Bq F x0 D := by
  intro D
  induction D with
  | zero => intro ρ c h b l d x1 x2 x3 _ _ _ _ _ _ _ n; omega
  | succ D ih =>
    intro ρ c h b l d x1 x2 x3 hp T r0 ed i1 i2 i12 hD W Dd P
    show Sat (oX15_countRows F (qX15_countRows F D) h x0 x1 x2 x3) _
    unfold oX15_countRows
    refine s_br (fun _ => s_some ⟨ρ, c, ex_0, T, ⟨show (0 : Int) ≤ 1 by decide, show (1 : Int) ≤ _ by omega⟩, W⟩) (fun n0 => ?_)
    have n0' := ne_i n0
    have zz : (0 : Int32).toInt = 0 := rfl
    have nx := nc_i i1
    have ix1 : Rg 0 9 x1 := ⟨i1, by omega⟩
    have Dd' : Dp x0 x1.toNatClampNeg b l h := by rw [ed]; exact Dd
    refine s_deep0 T r0 ix1 Dd' ?_
    unfold sX15_countRows_11
    refine s_list T r0 ix1 Dd' ?_
    refine s_legalY hF hp sdb_0 (sdl_t (Nat.le_refl _) (by omega)) T r0 W Dd P (fun o T1 _ W1 D1 P1 M1 => ?_)
    unfold sX15_countRows_29
    obtain ⟨k1, k2, k3, k4⟩ := dp_r T1 r0 D1
    have h3000 := thI T1 k2 (k := 14) (i := 0) (lo := 0) (hi := 3000) rfl
    refine s_br (fun _ => s_some ⟨ρ, c, ex_0, T1, ⟨h3000.1, by have := h3000.2; show (hI o l 0).toInt ≤ _; omega⟩, W1⟩) (fun n1 => ?_)
    have n1' := ne_i n1
    have one : (1 : Int32).toInt = 1 := rfl
    have z0 : ((0 : Int32)).toInt = 0 := rfl
    exact count_loopY hF ih F (fun k w i m => hp k w i (sd_sub (Nat.le_succ d) m)) T1 r0 ed i1 (by omega) i12 hD W1 ⟨D1, P1, M1⟩ (by decide) (by rw [z0]; omega) (by decide) (by rw [z0]; omega)
theorem zX15_countRowsY (hF : 700000 ≤ F) (hp : ∀ k w i, SD d k w i = true → cPm c k w i = true) (T : TH ρ c h) (r0 : ρ x0 = 16) (ed : x1.toNatClampNeg = d) (i1 : 0 ≤ x1.toInt) (i2 : 0 ≤ x2.toInt) (i12 : x1.toInt + x2.toInt ≤ 9) (W : DWY Bq x0 h) (D : Dp x0 d b l h) (P : PE b h) : Sat (sX15_countRows F h x0 x1 x2 x3) (MkI ρ c 0 (100000 * x2.toInt + 1) (DWY Bq x0)) := count_allY hF 40 hp T r0 ed i1 i2 i12 (by have := nc_i i2; omega) W D P
end
