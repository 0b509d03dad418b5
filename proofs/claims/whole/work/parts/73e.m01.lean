section
/-! rows, problem and refutes of the reference -/
def BK (x0 i b : Nat) (h : Hp) : Prop := ∃ r, hR h x0 14 = some r ∧ hR h r i = some b ∧ PE b h
/-- a problem that is set has moves -/
def PbP (x0 : Nat) (h : Hp) : Prop := ¬ hI h x0 65 ≤ 0 → 1 ≤ (hI h x0 68).toInt
section
variable {ρ : Nat → Nat} {c : Cm} {h o : Hp} {F x0 b l d i : Nat} {x1 x2 x3 x4 : Int32} {p wb wl : Nat → Bool}
theorem bk_r (T : TH ρ c h) (r0 : ρ x0 = 16) (B : BK x0 i b h) : ρ b = 13 ∧ cw c b = 3400 := by
  obtain ⟨r, e1, e2, e3⟩ := B
  obtain ⟨q1, f1, g1⟩ := thR T r0 (i := 14) (k2 := 84) rfl (by decide)
  have h1 : ρ r = 84 := by rw [r_eq f1 e1]; exact g1
  exact ⟨thRn T h1 (k2 := 13) rfl (by decide) e2, th_id T h1 (w := 3400) e2 rfl (by decide)⟩
theorem bk_keep (T : TH ρ c h) (r0 : ρ x0 = 16) (f : Fr ρ (cat c (SX p wb wl) h) h o) (hb : wb 3400 = false) (B : BK x0 i b h) : BK x0 i b o := by
  obtain ⟨k1, k3⟩ := bk_r T r0 B
  obtain ⟨r, e1, e2, P⟩ := B
  obtain ⟨q1, f1, g1⟩ := thR T r0 (i := 14) (k2 := 84) rfl (by decide)
  have h1 : ρ r = 84 := by rw [r_eq f1 e1]; exact g1
  refine ⟨r, ?_, ?_, ?_⟩
  · rw [(fr_RI f r0 (by decide) (fun _ => sx_f (Or.inl rfl) rfl (Or.inl rfl) (Or.inl rfl))).2.2]; exact e1
  · rw [(fr_RI f h1 (by decide) (fun _ => sx_f (Or.inl rfl) rfl (Or.inl rfl) (Or.inl rfl))).2.2]; exact e2
  · have z : ∀ k i, mS saL k i = false → mS mpL k i = false → (k == 90 || k == 91) = false → SX p wb wl k (cw c b) i = false := fun k i a1 a2 a3 => sx_f (Or.inl a3) a1 (Or.inr (by rw [k3]; exact hb)) (Or.inl a2)
    exact pe_fr T k1 f (z _ _ rfl rfl rfl) (z _ _ rfl rfl rfl) (z _ _ rfl rfl rfl) (fun i => z _ _ rfl rfl rfl) (fun i => z _ _ rfl rfl rfl) P
theorem s_bk {β : Type} {Q : β → Prop} {k : Nat → Option β} (T : TH ρ c h) (r0 : ρ x0 = 16) (i1 : Rg 0 59 x1) (B : BK x0 x1.toNatClampNeg b h) (H : Sat (k b) Q) : Sat (cl (hR h x0 14) fun r_1 => gd (inB x1 (hN h r_1)) <| cl (hR h r_1 x1.toNatClampNeg) k) Q := by
  obtain ⟨r, e1, e2, P⟩ := B
  obtain ⟨q1, f1, g1⟩ := thR T r0 (i := 14) (k2 := 84) rfl (by decide)
  have h1 : ρ r = 84 := by rw [r_eq f1 e1]; exact g1
  refine s_ref e1 ?_
  refine s_gd (by rw [thN T h1 (k := 84) (n := 60) rfl (by decide)]; exact rg_inB i1 (by decide)) ?_
  exact s_ref e2 H
theorem bk_of (T : TH ρ c h) (r0 : ρ x0 = 16) (H : HasB x0 x1 h) : ∃ b, BK x0 x1.toNatClampNeg b h := by
  obtain ⟨q1, f1, g1⟩ := thR T r0 (i := 14) (k2 := 84) rfl (by decide)
  obtain ⟨b, e, P⟩ := H q1 f1
  exact ⟨b, q1, f1, e, P⟩
/-- the board of the first depth takes a board over -/
theorem s_first {β : Type} {Q : β → Prop} {k : Hp → Option β} (hF : 700000 ≤ F) (hp : ∀ k w i, SX p wb wl k w i = true → cPm c k w i = true) (h2 : wb 3500 = true) (T : TH ρ c h) (r0 : ρ x0 = 16) (W : DW x0 h) (D : Dp x0 0 d l h) (B : BK x0 i b h) (H : ∀ o, TH ρ c o → Fr ρ (cat c (SX no (is 3500) no) h) h o → DW x0 o → Dp x0 0 d l o → PE d o → BK x0 i b o → Sat (k o) Q) : Sat (cl (sX12_copy h d b) k) Q := by
  obtain ⟨rb, wb'⟩ := bk_r T r0 B
  obtain ⟨j1, j2, j3, j4⟩ := dp_r T r0 D
  have hs : ∀ k w i, SX no (is 3500) no k w i = true → cPm c k w i = true := fun k w i m => hp k w i (sx_sub (fun _ z => no_f z) (fun w z => by rw [is_e z]; exact h2) (fun _ z => no_f z) m)
  refine s_cVfq T hs (s_weq (zX12_copy hF (pmO_s (w := 3500) (sxB (sx_c _) rfl) rfl) j3 wb' (th_in _ T) j1 rb)) (fun o5 T5 f5 e5 => ?_)
  have B1 := B
  obtain ⟨_, _, _, PB⟩ := B1
  exact H o5 T5 f5 (dw_keep0 T r0 f5 W) (dp_keep0 T r0 f5 D) (pe_copy T j1 rb PB e5) (bk_keep T r0 f5 rfl B)
theorem zX15_rows (hF : 700000 ≤ F) (hp : ∀ k w i, SD 0 k w i = true → cPm c k w i = true) (T : TH ρ c h) (r0 : ρ x0 = 16) (bd : BdP x0 h) (W : DW x0 h) : Sat (sX15_rows F h x0 x1 x2) (MkI ρ c (-104) 600001 (DW x0)) := by
  unfold sX15_rows sX15_rows_10
  have ex : Sat (some ((-101 : Int32), h)) (MkI ρ c (-104) 600001 (DW x0)) := s_some ⟨ρ, c, ex_0, T, rg_b rfl, W⟩
  refine s_br (fun _ => ex) (fun n1 => ?_)
  refine s_br (fun n2 => ?_) (fun _ => ex)
  have a2 : 0 ≤ x2.toInt := nlt_i n1
  have b2 : x2.toInt ≤ 6 := le_i n2
  refine s_dP0 (zX15_has hF T r0 (rg_top _)) (fun oo eb e ii pp => ?_)
  rw [e]
  unfold sX15_rows_18
  refine s_br (fun _ => s_some ⟨ρ, c, ex_0, T, rg_b rfl, W⟩) (fun nz => ?_)
  have i1 := pp nz
  obtain ⟨b, B⟩ := bk_of T r0 (hb_of T r0 bd eb nz)
  obtain ⟨rb, wb'⟩ := bk_r T r0 B
  have PB : PE b h := by obtain ⟨_, _, _, q⟩ := B; exact q
  refine s_bk T r0 i1 B ?_
  refine s_mI (S := SD 0) T hp (zX15_isRoom hF (sx_c _) (th_in _ T) r0 rb wb' (by omega) W PB) (fun o1 ρ1 c1 X1 T1 f1 j1 W1 => ?_)
  have B1 := bk_keep T r0 f1 rfl B
  have r1 := ex_r X1 r0 (by decide)
  have hp1 := ex_hp X1 hp
  unfold sX15_rows_36
  refine s_br (fun _ => s_some ⟨ρ1, c1, X1, T1, rg_b rfl, W1⟩) (fun _ => ?_)
  refine s_deep hp1 (sdp_t (Nat.zero_le _)) T1 r1 (rg_b rfl) W1 (fun o2 ρ2 c2 l' X2 T2 f2 W2 D2 => ?_)
  have B2 := bk_keep T1 r1 f2 rfl B1
  have r2 := ex_r X2 r1 (by decide)
  have hp2 := ex_hp X2 hp1
  unfold sX15_rows_47
  refine s_bk T2 r2 i1 B2 ?_
  refine s_first hF hp2 rfl T2 r2 W2 D2 B2 (fun o3 T3 f3 W3 D3 P3 B3 => ?_)
  unfold sX15_rows_56 sX15_rows_63
  have zz : (0 : Int32).toInt = 0 := rfl
  refine s_mI (S := SD 0) T3 hp2 (zX15_countRows (d := 0) hF (sx_c _) (th_in _ T3) r2 rfl (by decide) a2 (by rw [zz]; omega) W3 D3 P3) (fun o4 ρ4 c4 X4 T4 f4 j4 W4 => ?_)
  exact s_some ⟨ρ4, c4, ex_t X1 (ex_t X2 X4), T4, ⟨show (-104 : Int) ≤ o4.1.toInt by have := j4.1; omega, show o4.1.toInt ≤ 600001 by have := j4.2; omega⟩, W4⟩
/-! writes of a problem's own fields -/
theorem dw_w {A : List (Nat × Nat)} (hA : ∀ k i, k ≠ 111 → (k = 16 → i < 64) → mS A k i = false) (T : TH ρ c h) (r0 : ρ x0 = 16) (f : Fr ρ (cat c (fS A []) h) h o) (W : DW x0 h) : DW x0 o := by
  have z : ∀ k i, k ≠ 111 → (k = 16 → i < 64) → ∀ w, fS A [] k w i = false := fun k i a1 a2 w => fs_nf (hA k i a1 a2)
  refine ⟨sq_fr T r0 f (z _ _ (by decide) (by intro q; omega)) (z _ _ (by decide) (by intro q; omega)) (z _ _ (by decide) (by intro q; omega)) W.1, fun rb rl e1 e2 d b e3 => ?_⟩
  rw [(fr_RI f r0 (by decide) (z _ _ (by decide) (by intro q; omega))).2.2] at e1 e2
  obtain ⟨q1, f1, g1⟩ := thR T r0 (i := 33) (k2 := 90) rfl (by decide)
  obtain ⟨q2, f2, g2⟩ := thR T r0 (i := 34) (k2 := 91) rfl (by decide)
  have h1 : ρ rb = 90 := by rw [r_eq f1 e1]; exact g1
  have h2 : ρ rl = 91 := by rw [r_eq f2 e2]; exact g2
  rw [(fr_RI f h1 (by decide) (z _ _ (by decide) (by intro q; omega))).2.2] at e3
  obtain ⟨l, e4⟩ := W.2 rb rl e1 e2 d b e3
  exact ⟨l, by rw [(fr_RI f h2 (by decide) (z _ _ (by decide) (by intro q; omega))).2.2]; exact e4⟩
theorem dq_w {A : List (Nat × Nat)} (hA : ∀ k i, k ≠ 111 → (k = 16 → i < 64) → mS A k i = false) (T : TH ρ c h) (r0 : ρ x0 = 16) (f : Fr ρ (cat c (fS A []) h) h o) (D : DQ x0 d b l h) : DQ x0 d b l o := by
  have z : ∀ k i, k ≠ 111 → (k = 16 → i < 64) → ∀ w, fS A [] k w i = false := fun k i a1 a2 w => fs_nf (hA k i a1 a2)
  obtain ⟨k1, k2, k3, k4⟩ := dp_r T r0 D.1
  obtain ⟨⟨rb, rl, e1, e2, e3, e4⟩, P, M⟩ := D
  obtain ⟨q1, f1, g1⟩ := thR T r0 (i := 33) (k2 := 90) rfl (by decide)
  obtain ⟨q2, f2, g2⟩ := thR T r0 (i := 34) (k2 := 91) rfl (by decide)
  have h1 : ρ rb = 90 := by rw [r_eq f1 e1]; exact g1
  have h2 : ρ rl = 91 := by rw [r_eq f2 e2]; exact g2
  refine ⟨⟨rb, rl, ?_, ?_, ?_, ?_⟩, ?_, ?_⟩
  · rw [(fr_RI f r0 (by decide) (z _ _ (by decide) (by intro q; omega))).2.2]; exact e1
  · rw [(fr_RI f r0 (by decide) (z _ _ (by decide) (by intro q; omega))).2.2]; exact e2
  · rw [(fr_RI f h1 (by decide) (z _ _ (by decide) (by intro q; omega))).2.2]; exact e3
  · rw [(fr_RI f h2 (by decide) (z _ _ (by decide) (by intro q; omega))).2.2]; exact e4
  · exact pe_fr T k1 f (z _ _ (by decide) (by intro q; omega) _) (z _ _ (by decide) (by intro q; omega) _) (z _ _ (by decide) (by intro q; omega) _) (fun i => z _ _ (by decide) (by intro q; omega) _) (fun i => z _ _ (by decide) (by intro q; omega) _) P
  · exact mv_fr T r0 k1 k2 f (z _ _ (by decide) (by intro q; omega)) (z _ _ (by decide) (by intro q; omega)) (z _ _ (by decide) (by intro q; omega) _) (z _ _ (by decide) (by intro q; omega) _) (z _ _ (by decide) (by intro q; omega) _) (fun i => z _ _ (by decide) (by intro q; omega) _) (fun i => z _ _ (by decide) (by intro q; omega) _) (z _ _ (by decide) (by intro q; omega) _) (z _ _ (by decide) (by intro q; omega) _) (z _ _ (by decide) (by intro q; omega) _) (z _ _ (by decide) (by intro q; omega) _) (z _ _ (by decide) (by intro q; omega) _) (z _ _ (by decide) (by intro q; omega) _) (fun i => z _ _ (by decide) (by intro q; omega) _) (fun i => z _ _ (by decide) (by intro q; omega) _) (fun i => z _ _ (by decide) (by intro q; omega) _) (fun i => z _ _ (by decide) (by intro q; omega) _) (fun i => z _ _ (by decide) (by intro q; omega) _) M
theorem bk_w {A : List (Nat × Nat)} (hA : ∀ k i, k ≠ 111 → (k = 16 → i < 64) → mS A k i = false) (T : TH ρ c h) (r0 : ρ x0 = 16) (f : Fr ρ (cat c (fS A []) h) h o) (B : BK x0 i b h) : BK x0 i b o := by
  have z : ∀ k i, k ≠ 111 → (k = 16 → i < 64) → ∀ w, fS A [] k w i = false := fun k i a1 a2 w => fs_nf (hA k i a1 a2)
  obtain ⟨k1, k3⟩ := bk_r T r0 B
  obtain ⟨r, e1, e2, P⟩ := B
  obtain ⟨q1, f1, g1⟩ := thR T r0 (i := 14) (k2 := 84) rfl (by decide)
  have h1 : ρ r = 84 := by rw [r_eq f1 e1]; exact g1
  refine ⟨r, ?_, ?_, ?_⟩
  · rw [(fr_RI f r0 (by decide) (z _ _ (by decide) (by intro q; omega))).2.2]; exact e1
  · rw [(fr_RI f h1 (by decide) (z _ _ (by decide) (by intro q; omega))).2.2]; exact e2
  · exact pe_fr T k1 f (z _ _ (by decide) (by intro q; omega) _) (z _ _ (by decide) (by intro q; omega) _) (z _ _ (by decide) (by intro q; omega) _) (fun i => z _ _ (by decide) (by intro q; omega) _) (fun i => z _ _ (by decide) (by intro q; omega) _) P
theorem a16 {j : Nat} (hj : 64 ≤ j) (h9 : j ≠ 999) : ∀ k i, k ≠ 111 → (k = 16 → i < 64) → mS [(16, j)] k i = false := fun k i _ h2 => by
  cases q : mS [(16, j)] k i with
  | false => rfl
  | true =>
    have : ((16 == k && (j == 999 || j == i)) || false) = true := q
    rw [Bool.or_false, Bool.and_eq_true, beq_iff_eq, bq_ne h9, Bool.false_or, beq_iff_eq] at this
    have := h2 this.1.symm
    omega
theorem a111 : ∀ k i, k ≠ 111 → (k = 16 → i < 64) → mS [(111, 999)] k i = false := fun k i h1 _ => by
  cases q : mS [(111, 999)] k i with
  | false => rfl
  | true =>
    have : ((111 == k && (999 == 999 || 999 == i)) || false) = true := q
    rw [Bool.or_false, Bool.and_eq_true, beq_iff_eq] at this
    exact absurd this.1.symm h1
end
end
section
section
variable {ρ : Nat → Nat} {c : Cm} {h o : Hp} {F x0 b l d i : Nat} {x1 x2 x3 x4 : Int32} {p wb wl : Nat → Bool}
theorem pb_keep (r0 : ρ x0 = 16) (f : Fr ρ (cat c (SX p wb wl) h) h o) (P : PbP x0 h) : PbP x0 o := by
  unfold PbP
  rw [(fr_RI f r0 (by decide) (fun _ => sx_f (Or.inl rfl) rfl (Or.inl rfl) (Or.inl rfl)) : hI o x0 65 = _ ∧ _).1, (fr_RI f r0 (by decide) (fun _ => sx_f (Or.inl rfl) rfl (Or.inl rfl) (Or.inl rfl)) : hI o x0 68 = _ ∧ _).1]
  exact P
theorem pb_of (e : 1 ≤ (hI h x0 68).toInt) : PbP x0 h := fun _ => e
theorem f68 (r0 : ρ x0 = 16) (f : Fr ρ (cat c (SX p wb wl) h) h o) : hI o x0 68 = hI h x0 68 := (fr_RI f r0 (by decide) (fun _ => sx_f (Or.inl rfl) rfl (Or.inl rfl) (Or.inl rfl))).1
theorem f70 (r0 : ρ x0 = 16) (f : Fr ρ (cat c (SX p wb wl) h) h o) : hI o x0 70 = hI h x0 70 := (fr_RI f r0 (by decide) (fun _ => sx_f (Or.inl rfl) rfl (Or.inl rfl) (Or.inl rfl))).1
theorem f64 (r0 : ρ x0 = 16) (f : Fr ρ (cat c (SX p wb wl) h) h o) : hI o x0 64 = hI h x0 64 := (fr_RI f r0 (by decide) (fun _ => sx_f (Or.inl rfl) rfl (Or.inl rfl) (Or.inl rfl))).1
theorem s_f16 {β : Type} {Q : β → Prop} {j : Nat} {v : Int32} {lo hi : Int} {k : Hp → Option β} (hq : cPm c 16 (cw c x0) j = true) (hj : 64 ≤ j) (h9 : j ≠ 999) (hr : rgI 16 j = (lo, hi)) (iv : Rg lo hi v) (hrp : rP (c.2.1 50) (cw c x0) 16 j v) (T : TH ρ c h) (r0 : ρ x0 = 16) (W : DW x0 h) (B : BK x0 i b h) (H : ∀ g, TH ρ c g → g = wI h x0 j v → DW x0 g → BK x0 i b g → Sat (k g) Q) : Sat (nm (wI h x0 j v) k) Q := by
  refine s_hq (th_wI T r0 hr iv (by decide) (by decide) hq hrp) (fun g Tg eg => ?_)
  have fg := fr1I (c := c) (A := [(16, j)]) (k := 16) (i := j) r0 (by show ((16 == 16 && (j == 999 || j == j)) || false) = true; simp) eg
  exact H g Tg eg (dw_w (a16 hj h9) T r0 fg W) (bk_w (a16 hj h9) T r0 fg B)
theorem prob_loop (hF : 700000 ≤ F) : ∀ (f : Nat) {ρ : Nat → Nat} {c : Cm} {h : Hp} {b l : Nat} {x2 x3 x4 x6 x7 : Int32}, (∀ k w i, SD 1 k w i = true → cPm c k w i = true) → pmA c [(16, 70), (111, 999)] → TH ρ c h → ρ x0 = 16 → Rg 1 4 x4 → DW x0 h → DQ x0 0 b l h → 1 ≤ (hI h x0 68).toInt → 0 ≤ x7.toInt → (hI h x0 70).toInt ≤ x7.toInt → (3000 - x7.toInt).toNat < f → Sat (sX15_problem_197 F f h x0 x2 x3 x4 x6 x7) (MkI ρ c (-2147483648) 2147483647 (fun o => DW x0 o ∧ PbP x0 o)) := by
  intro f
  induction f with
  | zero => intros; omega
  | succ f ih =>
    intro ρ c h b l x2 x3 x4 x6 x7 hp hq T r0 i4 W D n68 a7 k7 hf
    rw [sX15_problem_197]
    have i0 : Rg 0 9 (0 : Int32) := rg_b rfl
    have zz : (0 : Int32).toInt = 0 := rfl
    refine s_list T r0 i0 (b := b) (l := l) D.1 ?_
    refine s_br (fun _ => s_some ⟨ρ, c, ex_0, T, rg_top _, W, pb_of n68⟩) (fun n1 => ?_)
    have lt7 := nle_i n1
    obtain ⟨k1, k2, k3, k4⟩ := dp_r T r0 D.1
    have h3000 := thI T k2 (k := 14) (i := 0) (lo := 0) (hi := 3000) rfl
    have ix : Rg 0 2999 x7 := ⟨a7, by have := h3000.2; omega⟩
    have b4 := i4.2
    have a4 := i4.1
    have goon : ∀ {ρ2 : Nat → Nat} {c2 : Cm} {g : Hp} {y : Int32}, Ext ρ c ρ2 c2 → TH ρ2 c2 g → DW x0 g → DQ x0 0 b l g → hI g x0 68 = hI h x0 68 → hI g x0 70 = hI h x0 70 → Sat (sX15_problem_270 F (sX15_problem_197 F f) g x0 x2 x3 x4 x6 x7 y) (MkI ρ c (-2147483648) 2147483647 (fun o => DW x0 o ∧ PbP x0 o)) := fun {ρ2 c2 g y} Y T2 W2 D2 e68 e70 => by
      have r2 := ex_r Y r0 (by decide)
      have hq2 := ex_A Y hq
      have hp2 := ex_hp Y hp
      unfold sX15_problem_270 sX15_problem_305
      refine s_q (fun u eu => ?_)
      have nxt : ∀ v : Int32, v = x7 + (1 : Int32) → v.toInt = x7.toInt + 1 := fun v ev => by rw [ev]; exact (nc_s ix (by decide)).2
      refine s_br (fun _ => ?_) (fun _ => ?_)
      · refine s_q (fun v ev => ?_)
        have ev2 := nxt v ev
        exact mI_ext Y (ih hp2 hq2 T2 r2 i4 W2 D2 (by rw [e68]; exact n68) (by omega) (by rw [e70]; omega) (by have := ix.2; omega))
      · obtain ⟨r, er, qr⟩ := thR T2 r2 (i := 69) (k2 := 111) rfl (by decide)
        refine s_ref er ?_
        have g70 := thI T2 r2 (k := 16) (i := 70) (lo := 0) (hi := 3000) rfl
        have j70 : Rg 0 2999 (hI g x0 70) := ⟨g70.1, by rw [e70]; have := ix.2; omega⟩
        refine s_gd (by rw [thN T2 qr (k := 111) (n := 3000) rfl (by decide)]; exact rg_inB j70 (by decide)) ?_
        refine s_hq (th_wI T2 qr (k := 111) (lo := 0) (hi := 2999) rfl ix (by decide) (by decide) (pm_a hq2 rfl)) (fun g5 T5 e5 => ?_)
        have f5 := fr1I (c := c2) (A := [(111, 999)]) (k := 111) qr rfl e5
        have m70 : hI g5 x0 70 = hI g x0 70 := by rw [e5, r_I, if_neg (ne_r r2 qr (by decide))]
        have m68 : hI g5 x0 68 = hI g x0 68 := by rw [e5, r_I, if_neg (ne_r r2 qr (by decide))]
        have W5 := dw_w a111 T2 r2 f5 W2
        have D5 := dq_w a111 T2 r2 f5 D2
        refine s_hq (th_wI T5 r2 (k := 16) (i := 70) (lo := 0) (hi := 3000) rfl (rg_add (by rw [m70]; exact j70) (rg_b rfl : Rg 1 1 (1 : Int32)) (by decide)) (by decide) (by decide) (pm_a hq2 rfl)) (fun g6 T6 e6 => ?_)
        have f6 := fr1I (c := c2) (A := [(16, 70)]) (k := 16) (i := 70) r2 rfl e6
        have W6 := dw_w (a16 (by decide) (by decide)) T5 r2 f6 W5
        have D6 := dq_w (a16 (by decide) (by decide)) T5 r2 f6 D5
        have l68 : hI g6 x0 68 = hI h x0 68 := by rw [e6, r_I, if_neg (fun z => absurd z.2 (by decide)), m68, e68]
        have l70 : (hI g6 x0 70).toInt = (hI h x0 70).toInt + 1 := by
          rw [he_s e6, m70, (nc_s j70 (by decide)).2, e70]
        refine s_q (fun v ev => ?_)
        have ev2 := nxt v ev
        exact mI_ext Y (ih hp2 hq2 T6 r2 i4 W6 D6 (by rw [l68]; exact n68) (by omega) (by omega) (by have := ix.2; omega))
    refine s_br (fun _ => ?_) (fun _ => ?_)
    · refine s_mI (S := SD 1) T hp (zX15_isMove (d := 0) hF (sx_c _) (th_in _ T) r0 rfl (by decide) (by omega) (by rw [zz]; omega) W D a7 lt7) (fun o1 ρ1 c1 X T1 f1 j1 W1 => ?_)
      obtain ⟨D1, e1⟩ := dq_keep T r0 f1 (by decide) D
      unfold sX15_problem_262
      exact s_br (fun _ => goon X T1 W1 D1 (f68 r0 f1) (f70 r0 f1)) (fun _ => goon X T1 W1 D1 (f68 r0 f1) (f70 r0 f1))
    · have by' : ∀ {k s : Int32}, 1 ≤ k.toInt → k.toInt ≤ 8 → Sat (sX15_problem_244 F (sX15_problem_197 F f) h x0 x2 x3 x4 x6 x7 s k x7 (0 : Int32) x0) (MkI ρ c (-2147483648) 2147483647 (fun o => DW x0 o ∧ PbP x0 o)) := fun {k s} ka kb => by
        unfold sX15_problem_244 sX15_problem_248
        refine s_mI (S := SD 1) T hp (zX15_goalRowsBy (d := 0) hF (sx_c _) (th_in _ T) r0 rfl (by decide) ka (by rw [zz]; omega) W D a7 lt7) (fun o1 ρ1 c1 X T1 f1 j1 W1 => ?_)
        obtain ⟨D1, e1⟩ := dq_keep T r0 f1 (by decide) D
        exact goon X T1 W1 D1 (f68 r0 f1) (f70 r0 f1)
      have e2 : ((2 : Int32) * x4).toInt = 2 * x4.toInt := ti_mulc' i4 (rg_b rfl : Rg 2 2 (2 : Int32)) (by decide)
      unfold sX15_problem_234
      exact s_br (fun _ => s_br (fun _ => by' (by omega) (by omega)) (fun _ => by' (by omega) (by omega))) (fun _ => s_br (fun _ => by' (by omega) (by omega)) (fun _ => by' (by omega) (by omega)))
def SP : Nat → Nat → Nat → Bool := SX (SDp 0) (SDb 0) (fun w => SDl 0 w || w == 2530)
theorem zX15_problem (hF : 700000 ≤ F) (hp : ∀ k w i, SP k w i = true → cPm c k w i = true) (hq : pmA c [(16, 64), (16, 65), (16, 66), (16, 67), (16, 68), (16, 70), (111, 999)]) (T : TH ρ c h) (r0 : ρ x0 = 16) (bd : BdP x0 h) (W : DW x0 h) (pb : PbP x0 h) : Sat (sX15_problem F h x0 x1 x2 x3 x4) (MkI ρ c (-2147483648) 2147483647 (fun o => DW x0 o ∧ PbP x0 o)) := by
  unfold sX15_problem sX15_problem_30
  have ex : Sat (some ((-101 : Int32), h)) (MkI ρ c (-2147483648) 2147483647 (fun o => DW x0 o ∧ PbP x0 o)) := s_some ⟨ρ, c, ex_0, T, rg_top _, W, pb⟩
  refine s_br (fun _ => ex) (fun n1 => ?_)
  refine s_br (fun _ => ex) (fun n2 => ?_)
  refine s_br (fun _ => ex) (fun n3 => ?_)
  refine s_br (fun _ => ex) (fun n4 => ?_)
  refine s_br (fun _ => ex) (fun n5 => ?_)
  refine s_br (fun n6 => ?_) (fun _ => ex)
  have j2 : Rg 0 3 x2 := ⟨nlt_i n1, nlt_i n2⟩
  have j3 : Rg 0 2 x3 := ⟨nlt_i n3, nlt_i n4⟩
  have j4 : Rg 1 4 x4 := ⟨nlt_i n5, le_i n6⟩
  have hp0 : ∀ k w i, SD 0 k w i = true → cPm c k w i = true := fun k w i m => hp k w i (sx_sub (fun _ z => z) (fun _ z => z) (fun _ z => by rw [z]; rfl) m)
  have hs : ∀ k w i, SX no (is 2528) (is 2530) k w i = true → cPm c k w i = true := fun k w i m => hp k w i (sx_sub (fun _ z => no_f z) (fun w z => by rw [is_e z]; rfl) (fun w z => by rw [is_e z]; rfl) m)
  refine s_cIfq T hs (zX15_moves hF (pmA_s (sxA (sx_c _)) rfl) (pmO_s (sxB (sx_c _) rfl) rfl) (pmO_s (sxM (sx_c _) rfl) rfl) (th_in _ T) r0 (rg_top _) bd W.1) (fun o1 T1 i1 f1 p1 => ?_)
  have W1 := dw_keep0 T r0 f1 W
  have pb1 := pb_keep r0 f1 pb
  unfold sX15_problem_38
  refine s_br (fun _ => s_some ⟨ρ, c, ex_0, T1, rg_top _, W1, pb1⟩) (fun nz => ?_)
  have nz' : ¬ o1.1.toInt = -102 := ne_i nz
  have ip : Rg 0 59 x1 := p1.1.resolve_left nz'
  obtain ⟨b, B1⟩ := bk_of T1 r0 (mp_hb (p1.2 nz'))
  obtain ⟨kb, wb'⟩ := bk_r T1 r0 B1
  refine s_bk T1 r0 ip B1 ?_
  obtain ⟨ls, els, qls⟩ := thR T1 r0 (i := 30) (k2 := 14) rfl (by decide)
  refine s_ref els ?_
  have hn : ∀ k w i, SX no no no k w i = true → cPm c k w i = true := fun k w i m => hp k w i (sx_sub (fun _ z => no_f z) (fun _ z => no_f z) (fun _ z => no_f z) m)
  refine s_cIf T1 hn (zX15_endedBy hF (pmA_s (sxA (sx_c _)) rfl) rfl (th_in _ T1) r0 kb (thI T1 qls (k := 14) (i := 0) (lo := 0) (hi := 3000) rfl)) (fun o2 T2 i2 f2 => ?_)
  have W2 := dw_keep0 T1 r0 f2 W1
  have pb2 := pb_keep r0 f2 pb1
  have B2 := bk_keep T1 r0 f2 rfl B1
  have main : ∀ {t s : Int32}, t.toInt ≤ 9 → Sat (sX15_problem_117 F o2.2 x0 x1 x2 x3 x4 s t b x0) (MkI ρ c (-2147483648) 2147483647 (fun o => DW x0 o ∧ PbP x0 o)) := fun {t s} ht => by
    unfold sX15_problem_117
    have PB : PE b o2.2 := by obtain ⟨_, _, _, q⟩ := B2; exact q
    refine s_mI (S := SD 0) T2 hp0 (zX15_isRoom hF (sx_c _) (th_in _ T2) r0 kb wb' ht W2 PB) (fun o3 ρ3 c3 X3 T3 f3 i3 W3 => ?_)
    have B3 := bk_keep T2 r0 f3 rfl B2
    have r3 := ex_r X3 r0 (by decide)
    have hp3 := ex_hp X3 hp0
    have hq3 := ex_A X3 hq
    unfold sX15_problem_120
    refine s_br (fun _ => s_some ⟨ρ3, c3, X3, T3, rg_top _, W3, pb_keep r0 f3 pb2⟩) (fun _ => ?_)
    refine s_f16 (lo := 0) (hi := 59) (pm_a hq3 rfl) (by decide) (by decide) rfl ip (rp0 rfl) T3 r3 W3 B3 (fun g4 T4 e4 W4 B4 => ?_)
    obtain ⟨se, ese, qse⟩ := thR T4 r3 (i := 15) (k2 := 85) rfl (by decide)
    refine s_ref ese ?_
    refine s_gd (by rw [thN T4 qse (k := 85) (n := 60) rfl (by decide)]; exact rg_inB ip (by decide)) ?_
    refine s_f16 (lo := -2147483648) (hi := 2147483647) (pm_a hq3 rfl) (by decide) (by decide) rfl (rg_top _) (rp0 rfl) T4 r3 W4 B4 (fun g5 T5 e5 W5 B5 => ?_)
    refine s_f16 (lo := 0) (hi := 3) (pm_a hq3 rfl) (by decide) (by decide) rfl j2 (rp0 rfl) T5 r3 W5 B5 (fun g6 T6 e6 W6 B6 => ?_)
    refine s_f16 (lo := 0) (hi := 2) (pm_a hq3 rfl) (by decide) (by decide) rfl j3 (rp0 rfl) T6 r3 W6 B6 (fun g7 T7 e7 W7 B7 => ?_)
    refine s_f16 (lo := 0) (hi := 4) (pm_a hq3 rfl) (by decide) (by decide) rfl (rg_m j4 (by decide)) (rp0 rfl) T7 r3 W7 B7 (fun g8 T8 e8 W8 B8 => ?_)
    refine s_f16 (lo := 0) (hi := 3000) (pm_a hq3 rfl) (by decide) (by decide) rfl (rg_b rfl) (rp0 rfl) T8 r3 W8 B8 (fun g9 T9 e9 W9 B9 => ?_)
    have m68 : hI g9 x0 68 = x4 := by rw [e9, r_I, if_neg (fun z => absurd z.2 (by decide)), he_s e8]
    have m70 : hI g9 x0 70 = 0 := he_s e9
    refine s_deep hp3 (sdp_t (Nat.zero_le _)) T9 r3 (rg_b rfl) W9 (fun oa ρa ca la Xa Ta fa Wa Da => ?_)
    have Ba := bk_keep T9 r3 fa rfl B9
    have ra := ex_r Xa r3 (by decide)
    have hpa := ex_hp Xa hp3
    have hqa := ex_A Xa hq3
    unfold sX15_problem_167
    refine s_bk Ta ra ip Ba ?_
    refine s_first hF hpa rfl Ta ra Wa Da Ba (fun ob Tb fb Wb Db Pb Bb => ?_)
    unfold sX15_problem_176
    refine s_deep0 Tb ra (rg_b rfl) (b := oa.1) (l := la) Db ?_
    unfold sX15_problem_182
    refine s_list Tb ra (rg_b rfl) (b := oa.1) (l := la) Db ?_
    refine s_legal hF hpa rfl rfl Tb ra Wb Db Pb (fun oc Tc fc Wc Dc Pc Mc => ?_)
    unfold sX15_problem_191
    have n68 : hI oc x0 68 = x4 := by rw [f68 ra fc, f68 ra fb, f68 r3 fa, m68]
    have n70 : hI oc x0 70 = 0 := by rw [f70 ra fc, f70 ra fb, f70 r3 fa, m70]
    exact mI_ext (ex_t X3 Xa) (prob_loop hF F (fun k w i m => hpa k w i (sd_sub (Nat.zero_le _) m)) (pmA_s hqa rfl) Tc ra j4 Wc ⟨Dc, Pc, Mc⟩ (by rw [n68]; exact j4.1) (by decide) (by rw [n70]; decide) (by show (3000 - (0 : Int)).toNat < F; omega))
  have b4 := j4.2
  have a4 := j4.1
  have e2 : ((2 : Int32) * x4).toInt = 2 * x4.toInt := ti_mulc' j4 (rg_b rfl : Rg 2 2 (2 : Int32)) (by decide)
  have e1 : (((2 : Int32) * x4) - (1 : Int32)).toInt = 2 * x4.toInt - 1 := by
    rw [ti_sub (a := 0) (b := 8) (c := 1) (d := 1) ⟨by omega, by omega⟩ (rg_b rfl) (by decide), e2]; rfl
  have main2 : ∀ {t : Int32}, t.toInt ≤ 9 → Sat (sX15_problem_96 F o2.2 x0 x1 x2 x3 x4 t) (MkI ρ c (-2147483648) 2147483647 (fun o => DW x0 o ∧ PbP x0 o)) := fun {t} ht => by
    unfold sX15_problem_96
    refine s_bk T2 r0 ip B2 ?_
    exact s_br (fun _ => main ht) (fun _ => main ht)
  unfold sX15_problem_63
  exact s_br (fun _ => s_br (fun _ => main2 (by omega)) (fun _ => s_br (fun _ => main2 (by omega)) (fun _ => main2 (by omega)))) (fun _ => s_some ⟨ρ, c, ex_0, T2, rg_top _, W2, pb2⟩)
theorem ref_loop (hF : 700000 ≤ F) : ∀ (f : Nat) {ρ : Nat → Nat} {c : Cm} {h : Hp} {b l : Nat} {x2 x3 : Int32}, (∀ k w i, SD 2 k w i = true → cPm c k w i = true) → TH ρ c h → ρ x0 = 16 → DW x0 h → DQ x0 1 b l h → 1 ≤ (hI h x0 68).toInt → 0 ≤ x3.toInt → (3000 - x3.toInt).toNat < f → Sat (sX15_refutes_107 F f h x0 x2 x3) (MkI ρ c (-2147483648) 2147483647 (DW x0)) := by
  intro f
  induction f with
  | zero => intros; omega
  | succ f ih =>
    intro ρ c h b l x2 x3 hp T r0 W D n68 a3 hf
    rw [sX15_refutes_107]
    unfold sX15_refutes_139 sX15_refutes_147
    have i1 : Rg 0 9 (1 : Int32) := rg_b rfl
    have one : (1 : Int32).toInt = 1 := rfl
    refine s_list T r0 i1 (b := b) (l := l) D.1 ?_
    refine s_br (fun _ => s_some ⟨ρ, c, ex_0, T, rg_top _, W⟩) (fun n1 => ?_)
    have lt3 := nle_i n1
    obtain ⟨k1, k2, k3, k4⟩ := dp_r T r0 D.1
    have h3000 := thI T k2 (k := 14) (i := 0) (lo := 0) (hi := 3000) rfl
    have ix : Rg 0 2999 x3 := ⟨a3, by have := h3000.2; omega⟩
    have i68 := thI T r0 (k := 16) (i := 68) (lo := 0) (hi := 4) rfl
    refine s_mI (S := SD 2) T hp (zX15_isAnswered (d := 1) hF (sx_c _) (th_in _ T) r0 rfl (by decide) n68 (by rw [one]; have := i68.2; omega) W D a3 lt3) (fun o1 ρ1 c1 X T1 f1 j1 W1 => ?_)
    obtain ⟨D1, e1⟩ := dq_keep T r0 f1 (by decide) D
    have go : ∀ t : Int32, Sat (nm (x2 + t) fun v_1 => nm (x3 + (1 : Int32)) fun v_2 => sX15_refutes_107 F f o1.2 x0 v_1 v_2) (MkI ρ c (-2147483648) 2147483647 (DW x0)) := fun t => by
      refine s_q (fun u eu => ?_)
      refine s_q (fun v ev => ?_)
      have ev2 : v.toInt = x3.toInt + 1 := by rw [ev]; exact (nc_s ix (by decide)).2
      exact mI_ext X (ih (ex_hp X hp) T1 (ex_r X r0 (by decide)) W1 D1 (by rw [f68 r0 f1]; exact n68) (by omega) (by have := ix.2; omega))
    exact s_br (fun _ => go 1) (fun _ => go 0)
theorem zX15_refutes (hF : 700000 ≤ F) (hp : ∀ k w i, SD 0 k w i = true → cPm c k w i = true) (T : TH ρ c h) (r0 : ρ x0 = 16) (bd : BdP x0 h) (W : DW x0 h) (pb : PbP x0 h) : Sat (sX15_refutes F h x0 x1) (MkI ρ c (-2147483648) 2147483647 (DW x0)) := by
  unfold sX15_refutes
  refine s_dI0 (zX15_isProblem hF T r0) (fun o1 e1 q1 i1 => ?_)
  rw [q1]
  unfold sX15_refutes_4 sX15_refutes_15
  have ex : ∀ {y : Int32}, Sat (some (y, h)) (MkI ρ c (-2147483648) 2147483647 (DW x0)) := s_some ⟨ρ, c, ex_0, T, rg_top _, W⟩
  refine s_br (fun _ => ex) (fun nz => ?_)
  refine s_br (fun _ => ?_) (fun _ => ex)
  -- the problem's place
  have i64 := thI T r0 (k := 16) (i := 64) (lo := 0) (hi := 59) rfl
  have key : 1 ≤ (hI h x0 68).toInt ∧ ∃ b, BK x0 (hI h x0 64).toNatClampNeg b h := by
    unfold sX15_isProblem sX15_isProblem_27 sX15_isProblem_28 at e1
    rcases br_s e1 with ⟨_, e⟩ | ⟨c1, e⟩
    · exact absurd (by rw [← Option.some.inj (gd_s e).2]) nz
    obtain ⟨s, es, e⟩ := cl_s e
    replace e := (gd_s e).2
    rcases br_s e with ⟨c2, e⟩ | ⟨c2, e⟩
    · refine ⟨pb c1, ?_⟩
      obtain ⟨q1, f1, g1⟩ := thR T r0 (i := 14) (k2 := 84) rfl (by decide)
      obtain ⟨b, eb, P⟩ := bd.1 q1 s f1 es (hI h x0 64).toNatClampNeg (by have := nc_i i64.1; have := i64.2; omega) (by rw [c2]; exact c1)
      exact ⟨b, q1, f1, eb, P⟩
    · exact absurd (by rw [← Option.some.inj (gd_s e).2]) nz
  obtain ⟨n68, b, B⟩ := key
  refine s_deep hp (sdp_t (Nat.zero_le _)) T r0 (rg_b rfl) W (fun o2 ρ2 c2 l2 X2 T2 f2 W2 D2 => ?_)
  have B2 := bk_keep T r0 f2 rfl B
  have r2 := ex_r X2 r0 (by decide)
  have hp2 := ex_hp X2 hp
  rw [← f64 r0 f2] at B2
  unfold sX15_refutes_22
  refine s_bk T2 r2 (by rw [f64 r0 f2]; exact i64) B2 ?_
  refine s_first hF hp2 rfl T2 r2 W2 D2 B2 (fun o3 T3 f3 W3 D3 P3 B3 => ?_)
  unfold sX15_refutes_34
  refine s_deep0 T3 r2 (rg_b rfl) (b := o2.1) (l := l2) D3 ?_
  unfold sX15_refutes_40
  refine s_list T3 r2 (rg_b rfl) (b := o2.1) (l := l2) D3 ?_
  refine s_legal hF hp2 rfl rfl T3 r2 W3 D3 P3 (fun o4 T4 f4 W4 D4 P4 M4 => ?_)
  have k4 : hI o4 x0 68 = hI h x0 68 := by rw [f68 r2 f4, f68 r2 f3, f68 r0 f2]
  unfold sX15_refutes_49 sX15_refutes_66
  refine s_br (fun _ => s_some ⟨ρ2, c2, X2, T4, rg_top _, W4⟩) (fun n1 => ?_)
  refine s_list T4 r2 (rg_b rfl) (b := o2.1) (l := l2) D4 ?_
  refine s_br (fun n2 => ?_) (fun _ => s_some ⟨ρ2, c2, X2, T4, rg_top _, W4⟩)
  have a1 : 0 ≤ x1.toInt := nlt_i n1
  refine s_mV (S := SD 1) T4 (fun k w i m => hp2 k w i (sd_sub (Nat.zero_le _) m)) (zX15_step (d := 0) hF (sx_c _) rfl rfl rfl rfl rfl (th_in _ T4) r2 (rg_b rfl) W4 D4 P4 M4 a1 (lt_i n2)) (fun o5 ρ5 c5 X5 T5 f5 ⟨W5, b5, l5, D5⟩ => ?_)
  have r5 := ex_r X5 r2 (by decide)
  have hp5 := ex_hp X5 hp2
  have k5 : hI o5 x0 68 = hI h x0 68 := by rw [f68 r2 f5, k4]
  have X := ex_t X2 X5
  have hn : ∀ k w i, SX no no no k w i = true → cPm c5 k w i = true := fun k w i m => hp5 k w i (sx_sub (fun _ z => no_f z) (fun _ z => no_f z) (fun _ z => no_f z) m)
  have rest : ∀ {g : Hp}, TH ρ5 c5 g → DW x0 g → DQ x0 1 b5 l5 g → hI g x0 68 = hI h x0 68 → Sat (sX15_refutes_93 F g x0) (MkI ρ c (-2147483648) 2147483647 (DW x0)) := fun {g} Tg Wg Dg eg => by
    unfold sX15_refutes_93 sX15_refutes_98 sX15_refutes_101
    refine s_cIf Tg hn (zX15_hasEnded hF (sxA (sx_c _)) (th_in _ Tg) r5 (rg_b rfl) (b := b5) (l := l5) Dg.1) (fun o6 T6 i6 f6 => ?_)
    have W6 := dw_keep0 Tg r5 f6 Wg
    obtain ⟨a1, a2, a3, a4⟩ := dp_keep Tg r5 f6 rfl rfl rfl Dg.1
    refine s_br (fun _ => ?_) (fun _ => s_some ⟨ρ5, c5, X, T6, rg_top _, W6⟩)
    exact mI_ext X (ref_loop hF F (fun k w i m => hp5 k w i (sd_sub (Nat.zero_le _) m)) T6 r5 W6 ⟨a1, a3 Dg.2.1, a4 Dg.2.2⟩ (by rw [f68 r5 f6, eg]; exact n68) (by decide) (by show (3000 - (0 : Int)).toNat < F; omega))
  unfold sX15_refutes_74 sX15_refutes_90 sX15_refutes_101
  refine s_br (fun _ => ?_) (fun _ => rest T5 W5 D5 k5)
  refine s_cIf T5 hn (zX15_isGoal hF (sxA (sx_c _)) (th_in _ T5) r5 (rg_b rfl) (b := b5) (l := l5) D5.1) (fun o6 T6 i6 f6 => ?_)
  have W6 := dw_keep0 T5 r5 f6 W5
  obtain ⟨a1, a2, a3, a4⟩ := dp_keep T5 r5 f6 rfl rfl rfl D5.1
  exact s_br (fun _ => rest T6 W6 ⟨a1, a3 D5.2.1, a4 D5.2.2⟩ (by rw [f68 r5 f6, k5])) (fun _ => s_some ⟨ρ5, c5, X, T6, rg_top _, W6⟩)
end
end
section
/-! games of the reference -/
def SY (E : Nat → Nat → Bool) (wb wl : Nat → Bool) (k w i : Nat) : Bool := (E k i || mS saL k i) || ((mS bpL k i && wb w) || (mS mpL k i && wl w))
abbrev noE : Nat → Nat → Bool := fun _ _ => false
theorem noE_f {k i : Nat} {P : Prop} (z : noE k i = true) : P := absurd z Bool.false_ne_true
theorem sy_sub {E E' : Nat → Nat → Bool} {wb wl wb' wl' : Nat → Bool} (h1 : ∀ k i, E k i = true → E' k i = true) (h2 : ∀ i, wb i = true → wb' i = true) (h3 : ∀ i, wl i = true → wl' i = true) {k w i : Nat} (m : SY E wb wl k w i = true) : SY E' wb' wl' k w i = true := by
  unfold SY at m ⊢
  rw [Bool.or_eq_true, Bool.or_eq_true, Bool.or_eq_true, Bool.and_eq_true, Bool.and_eq_true] at m ⊢
  rcases m with (a | a) | (⟨a, b⟩ | ⟨a, b⟩)
  · exact Or.inl (Or.inl (h1 _ _ a))
  · exact Or.inl (Or.inr a)
  · exact Or.inr (Or.inl ⟨a, h2 _ b⟩)
  · exact Or.inr (Or.inr ⟨a, h3 _ b⟩)
theorem sy_f {E : Nat → Nat → Bool} {wb wl : Nat → Bool} {k w i : Nat} (h1 : E k i = false) (h2 : mS saL k i = false) (h3 : mS bpL k i = false ∨ wb w = false) (h4 : mS mpL k i = false ∨ wl w = false) : SY E wb wl k w i = false := by
  unfold SY
  have a3 : (mS bpL k i && wb w) = false := by
    rcases h3 with h | h
    · rw [h]; rfl
    · rw [h, Bool.and_false]
  have a4 : (mS mpL k i && wl w) = false := by
    rcases h4 with h | h
    · rw [h]; rfl
    · rw [h, Bool.and_false]
  rw [h1, h2, a3, a4]; rfl
section
variable {ρ : Nat → Nat} {c : Cm} {h o : Hp} {E : Nat → Nat → Bool} {wb wl : Nat → Bool} {x0 d b l w i : Nat}
theorem syA (hp : ∀ k w i, SY E wb wl k w i = true → cPm c k w i = true) : pmA c saL := fun w k i m => hp k w i (by unfold SY; rw [m, Bool.or_true, Bool.true_or])
theorem syE (hp : ∀ k w i, SY E wb wl k w i = true → cPm c k w i = true) {k : Nat} (m : E k i = true) : ∀ w, cPm c k w i = true := fun w => hp k w i (by unfold SY; rw [m, Bool.true_or, Bool.true_or])
theorem syB (hp : ∀ k w i, SY E wb wl k w i = true → cPm c k w i = true) (hw : wb w = true) : pmO c w bpL := fun k i m => hp k w i (by unfold SY; rw [m, hw, Bool.and_true, Bool.true_or, Bool.or_true])
theorem syM (hp : ∀ k w i, SY E wb wl k w i = true → cPm c k w i = true) (hw : wl w = true) : pmO c w mpL := fun k i m => hp k w i (by unfold SY; rw [m, hw, Bool.and_true, Bool.or_true, Bool.or_true])
/-- what is written beside boards and lists leaves them as they are -/
def nice (E : Nat → Nat → Bool) : Prop := (∀ k i, k = 13 ∨ k = 14 ∨ (62 ≤ k ∧ k ≤ 72) ∨ k = 15 → E k i = false) ∧ E 16 11 = false ∧ E 16 12 = false ∧ E 16 13 = false ∧ E 16 37 = false ∧ E 16 14 = false
theorem nice_0 : nice noE := ⟨fun _ _ _ => rfl, rfl, rfl, rfl, rfl, rfl⟩
theorem pe_sy (n : nice E) (T : TH ρ c h) (rb : ρ b = 13) (ew : cw c b = w) (hb : wb w = false) (f : Fr ρ (cat c (SY E wb wl) h) h o) (P : PE b h) : PE b o := by
  have z : ∀ k i, (k = 13 ∨ k = 14 ∨ (62 ≤ k ∧ k ≤ 72) ∨ k = 15) → mS saL k i = false → mS mpL k i = false → SY E wb wl k (cw c b) i = false := fun k i a0 a1 a2 => sy_f (n.1 k i a0) a1 (Or.inr (by rw [ew]; exact hb)) (Or.inl a2)
  exact pe_fr T rb f (z _ _ (by omega) rfl rfl) (z _ _ (by omega) rfl rfl) (z _ _ (by omega) rfl rfl) (fun i => z _ _ (by omega) rfl rfl) (fun i => z _ _ (by omega) rfl rfl) P
theorem mv_sy {w' : Nat} (n : nice E) (T : TH ρ c h) (r0 : ρ x0 = 16) (rb : ρ b = 13) (rl : ρ l = 14) (ew : cw c b = w) (hb : wb w = false) (el : cw c l = w') (hl : wl w' = false) (f : Fr ρ (cat c (SY E wb wl) h) h o) (M : MvB x0 b l h) : MvB x0 b l o := by
  have z : ∀ k i, (k = 13 ∨ k = 14 ∨ (62 ≤ k ∧ k ≤ 72) ∨ k = 15) → mS saL k i = false → mS mpL k i = false → SY E wb wl k (cw c b) i = false := fun k i a0 a1 a2 => sy_f (n.1 k i a0) a1 (Or.inr (by rw [ew]; exact hb)) (Or.inl a2)
  have y : ∀ k i, (k = 13 ∨ k = 14 ∨ (62 ≤ k ∧ k ≤ 72) ∨ k = 15) → mS saL k i = false → mS bpL k i = false → SY E wb wl k (cw c l) i = false := fun k i a0 a1 a2 => sy_f (n.1 k i a0) a1 (Or.inl a2) (Or.inr (by rw [el]; exact hl))
  exact mv_fr T r0 rb rl f (fun _ => sy_f n.2.1 rfl (Or.inl rfl) (Or.inl rfl)) (fun _ => sy_f n.2.2.2.1 rfl (Or.inl rfl) (Or.inl rfl)) (z _ _ (by omega) rfl rfl) (z _ _ (by omega) rfl rfl) (z _ _ (by omega) rfl rfl) (fun i => z _ _ (by omega) rfl rfl) (fun i => z _ _ (by omega) rfl rfl) (y _ _ (by omega) rfl rfl) (y _ _ (by omega) rfl rfl) (y _ _ (by omega) rfl rfl) (y _ _ (by omega) rfl rfl) (y _ _ (by omega) rfl rfl) (y _ _ (by omega) rfl rfl) (fun i => y _ _ (by omega) rfl rfl) (fun i => y _ _ (by omega) rfl rfl) (fun i => y _ _ (by omega) rfl rfl) (fun i => y _ _ (by omega) rfl rfl) (fun i => y _ _ (by omega) rfl rfl) M
theorem sq_sy (n : nice E) (T : TH ρ c h) (r0 : ρ x0 = 16) (f : Fr ρ (cat c (SY E wb wl) h) h o) (P : SqOk x0 h) : SqOk x0 o := sq_fr T r0 f (fun _ => sy_f n.2.1 rfl (Or.inl rfl) (Or.inl rfl)) (fun _ => sy_f n.2.2.1 rfl (Or.inl rfl) (Or.inl rfl)) (fun _ => sy_f n.2.2.2.1 rfl (Or.inl rfl) (Or.inl rfl)) P
theorem bk_sy (n : nice E) (n84 : ∀ i, E 84 i = false) (T : TH ρ c h) (r0 : ρ x0 = 16) (f : Fr ρ (cat c (SY E wb wl) h) h o) (hb : wb 3400 = false) (B : BK x0 i b h) : BK x0 i b o := by
  obtain ⟨k1, k3⟩ := bk_r T r0 B
  obtain ⟨r, e1, e2, P⟩ := B
  obtain ⟨q1, f1, g1⟩ := thR T r0 (i := 14) (k2 := 84) rfl (by decide)
  have h1 : ρ r = 84 := by rw [r_eq f1 e1]; exact g1
  refine ⟨r, ?_, ?_, pe_sy n T k1 k3 hb f P⟩
  · rw [(fr_RI f r0 (by decide) (fun _ => sy_f n.2.2.2.2.2 rfl (Or.inl rfl) (Or.inl rfl))).2.2]; exact e1
  · rw [(fr_RI f h1 (by decide) (fun _ => sy_f (n84 _) rfl (Or.inl rfl) (Or.inl rfl))).2.2]; exact e2
/-- a game's board, and all of them -/
def Gb (x0 i b : Nat) (h : Hp) : Prop := ∃ r, hR h x0 37 = some r ∧ hR h r i = some b
def GaP (x0 : Nat) (h : Hp) : Prop := ∀ i b, Gb x0 i b h → PE b h
theorem gb_r (T : TH ρ c h) (r0 : ρ x0 = 16) (B : Gb x0 i b h) : ρ b = 13 ∧ cw c b = 5000 + i := by
  obtain ⟨r, e1, e2⟩ := B
  obtain ⟨q1, f1, g1⟩ := thR T r0 (i := 37) (k2 := 92) rfl (by decide)
  have h1 : ρ r = 92 := by rw [r_eq f1 e1]; exact g1
  exact ⟨thRn T h1 (k2 := 13) rfl (by decide) e2, th_id T h1 (w := 5000 + i) e2 rfl (by omega)⟩
theorem gb_sy (n : nice E) (n92 : E 92 i = false) (T : TH ρ c h) (r0 : ρ x0 = 16) (f : Fr ρ (cat c (SY E wb wl) h) h o) : Gb x0 i b h ↔ Gb x0 i b o := by
  obtain ⟨q1, f1, g1⟩ := thR T r0 (i := 37) (k2 := 92) rfl (by decide)
  have a1 := (fr_RI f r0 (by decide) (fun _ => sy_f n.2.2.2.2.1 rfl (Or.inl rfl) (Or.inl rfl)) : hI o x0 37 = _ ∧ _).2.2
  have a2 := (fr_RI f g1 (by decide) (fun _ => sy_f n92 rfl (Or.inl rfl) (Or.inl rfl)) : hI o q1 i = _ ∧ _).2.2
  constructor
  · rintro ⟨r, e1, e2⟩
    have : r = q1 := r_eq f1 e1
    subst this
    exact ⟨r, by rw [a1]; exact e1, by rw [a2]; exact e2⟩
  · rintro ⟨r, e1, e2⟩
    rw [a1] at e1
    have : r = q1 := r_eq f1 e1
    subst this
    rw [a2] at e2
    exact ⟨r, e1, e2⟩
theorem ga_sy (n : nice E) (n92 : ∀ i, E 92 i = false) (T : TH ρ c h) (r0 : ρ x0 = 16) (f : Fr ρ (cat c (SY E wb wl) h) h o) (hb : ∀ j, wb (5000 + j) = false ∨ ∀ b, Gb x0 j b h → PE b o) (G : GaP x0 h) : GaP x0 o := fun i b B => by
  have B0 := (gb_sy n (n92 i) T r0 f).mpr B
  rcases hb i with q | q
  · obtain ⟨k1, k2⟩ := gb_r T r0 B0
    exact pe_sy n T k1 k2 q f (G i b B0)
  · exact q b B0
end
def gi (x1 x2 : Int32) : Nat := (x1 * (301 : Int32) + x2).toNatClampNeg
theorem gi_r {x1 x2 : Int32} (i1 : Rg 0 7 x1) (i2 : Rg 0 300 x2) : Rg 0 2407 (x1 * (301 : Int32) + x2) := rg_add (rg_mulc i1 (rg_b rfl : Rg 301 301 (301 : Int32)) (by decide) : Rg 0 2107 (x1 * (301 : Int32))) i2 (by decide)
theorem gi_ne {x1 x2 y2 : Int32} (i1 : Rg 0 7 x1) (i2 : Rg 0 300 x2) (j2 : Rg 0 300 y2) (n : x2.toInt ≠ y2.toInt) : gi x1 x2 ≠ gi x1 y2 := by
  have m : Rg 0 2107 (x1 * (301 : Int32)) := rg_mulc i1 (rg_b rfl : Rg 301 301 (301 : Int32)) (by decide)
  have a := nc_i (gi_r i1 i2).1
  have b := nc_i (gi_r i1 j2).1
  have e1 := ti_add m i2 (by decide)
  have e2 := ti_add m j2 (by decide)
  unfold gi
  omega
def g92 (n : Nat) : Nat → Nat → Bool := fun k i => k == 92 && i == n
theorem nice_92 {n : Nat} : nice (g92 n) := by
  refine ⟨fun k i hk => ?_, rfl, rfl, rfl, rfl, rfl⟩
  unfold g92
  rw [bq_ne (show k ≠ 92 by omega)]; rfl
section
variable {ρ : Nat → Nat} {c : Cm} {h o : Hp} {E : Nat → Nat → Bool} {wb wl : Nat → Bool} {x0 d b l w i F : Nat} {x1 x2 : Int32}
/-- the board of a game at a move: made where it is wanting -/
theorem gameB (h9 : ∀ w, cPm c 92 w (gi x1 x2) = true) (T : TH ρ c h) (r0 : ρ x0 = 16) (i1 : Rg 0 7 x1) (i2 : Rg 0 300 x2) (G : GaP x0 h) : Sat (sX15_gameBoard h x0 x1 x2) (fun o => ∃ ρ' c', Ext ρ c ρ' c' ∧ TH ρ' c' o.2 ∧ GaP x0 o.2 ∧ Gb x0 (gi x1 x2) o.1 o.2 ∧ ∀ j b, Gb x0 j b h → Gb x0 j b o.2) := by
  unfold sX15_gameBoard
  refine s_q (fun v ev => ?_)
  have iv : Rg 0 2407 v := by rw [ev]; exact gi_r i1 i2
  have eg : gi x1 x2 = v.toNatClampNeg := by rw [ev]; rfl
  rw [eg] at h9 ⊢
  obtain ⟨r, er, qr⟩ := thR T r0 (i := 37) (k2 := 92) rfl (by decide)
  refine s_ref er ?_
  refine s_gd (by rw [thN T qr (k := 92) (n := 2408) rfl (by decide)]; exact rg_inB iv (by decide)) ?_
  have t1 : h.1 = c.1 := T.1.1
  cases q : hR h r v.toNatClampNeg with
  | none =>
    show Sat (cl (hR h x0 37) _) _
    refine s_ref er ?_
    refine s_q (fun a ea => ?_)
    refine s_q (fun h8 e8 => ?_)
    subst ea
    subst e8
    unfold sX15_gameBoard_25 sX15_gameBoard_29 sX15_gameBoard_30
    obtain ⟨o1, eo1, ρ1, c1, X1, T1, a1, w1, O1⟩ := newBoard T (5000 + v.toNatClampNeg)
    refine s_val eo1 ?_
    have ob : o1 = boH h := by rw [boH_v] at eo1; exact (Option.some.inj eo1).symm
    have z3 : hI o1 (hS h) 3 = 0 := by rw [ob]; exact boH_I h 0 3 (by decide)
    have r01 := ex_r X1 r0 (by decide)
    have qr1 := ex_r X1 qr (by decide)
    have lt : ∀ a, ρ a ≠ 0 → a < h.1.1 := fun a ha => by rw [t1]; exact T.2.1.2.2.1 a ha
    have lt0 : x0 < h.1.1 := lt x0 (by rw [r0]; decide)
    have ltr : r < h.1.1 := lt r (by rw [qr]; decide)
    have er1 : hR o1 x0 37 = some r := by rw [(O1 x0 lt0).2.2.1]; exact er
    refine s_gd (by rw [thN T1 qr1 (k := 92) (n := 2408) rfl (by decide)]; exact rg_inB iv (by decide)) ?_
    refine s_q (fun h2 e2 => ?_)
    have T2 : TH ρ1 c1 h2 := by
      rw [e2]
      exact th_wRe T1 qr1 (k2 := 13) rfl (by decide) a1 (by decide) (by decide) rfl rfl rfl w1 (ex_p X1 (h9 _))
    have er2 : hR h2 x0 37 = some r := by rw [e2, r_R, if_neg (ne_r r01 qr1 (by decide))]; exact er1
    refine s_ref er2 ?_
    refine s_gd (by rw [thN T2 qr1 (k := 92) (n := 2408) rfl (by decide)]; exact rg_inB iv (by decide)) ?_
    have ee : hR h2 r v.toNatClampNeg = some (hS h) := by rw [e2, r_R, if_pos ⟨rfl, rfl⟩]
    have kp : ∀ j b, Gb x0 j b h → Gb x0 j b h2 := fun j b ⟨r', g1, g2⟩ => by
      have : r' = r := r_eq er g1
      subst this
      have z : j ≠ v.toNatClampNeg := fun z => by rw [z, q] at g2; exact absurd g2 (by simp)
      exact ⟨r', er2, by rw [e2, r_R, if_neg (fun y => z y.2), (O1 r' ltr).2.2.1]; exact g2⟩
    refine s_ref ee (s_some ⟨ρ1, c1, X1, T2, fun j b B => ?_, ⟨r, er2, ee⟩, kp⟩)
    obtain ⟨r', g1, g2⟩ := B
    have : r' = r := r_eq er2 g1
    subst this
    by_cases z : j = v.toNatClampNeg
    · rw [z, ee] at g2
      rw [← Option.some.inj g2]
      exact pe_0 (by rw [e2]; show (hI o1 (hS h) 3).toInt = 0; rw [z3]; rfl)
    · rw [e2, r_R, if_neg (fun y => z y.2), (O1 r' ltr).2.2.1] at g2
      have P := G j b ⟨r', er, g2⟩
      have rb := thRn T qr (k2 := 13) rfl (by decide) g2
      have ltb := lt b (by rw [rb]; decide)
      intro M Pa m1 m2 k k1 k2
      have x1' : hR h2 b 0 = hR h b 0 := by rw [e2, r_R, if_neg (ne_r (ex_r X1 rb (by decide)) qr1 (by decide)), (O1 b ltb).2.2.1]
      have x2' : hR h2 b 4 = hR h b 4 := by rw [e2, r_R, if_neg (ne_r (ex_r X1 rb (by decide)) qr1 (by decide)), (O1 b ltb).2.2.1]
      rw [x1'] at m1
      rw [x2'] at m2
      obtain ⟨M', f1, s1⟩ := thR T rb (i := 0) (k2 := 62) rfl (by decide)
      obtain ⟨P', f2, s2⟩ := thR T rb (i := 4) (k2 := 63) rfl (by decide)
      have ltM := lt M (by rw [r_eq f1 m1, s1]; decide)
      have ltP := lt Pa (by rw [r_eq f2 m2, s2]; decide)
      have i3 : hI h2 b 3 = hI h b 3 := by rw [e2]; exact (O1 b ltb).1 3
      have iP : hI h2 Pa k = hI h Pa k := by rw [e2]; exact (O1 Pa ltP).1 k
      have iM : ∀ n, hI h2 M n = hI h M n := fun n => by rw [e2]; exact (O1 M ltM).1 n
      rw [i3] at k2
      rw [iP, iM]
      exact P M Pa m1 m2 k k1 k2
  | some r4 =>
    show Sat (sX15_gameBoard_30 h x0 v) _
    unfold sX15_gameBoard_30
    refine s_ref er ?_
    refine s_gd (by rw [thN T qr (k := 92) (n := 2408) rfl (by decide)]; exact rg_inB iv (by decide)) ?_
    exact s_ref q (s_some ⟨ρ, c, ex_0, T, G, ⟨r, er, q⟩, fun _ _ B => B⟩)
theorem s_game {β : Type} {Q : β → Prop} {k : Nat × Hp → Option β} (hp : ∀ k w i, SY E wb wl k w i = true → cPm c k w i = true) (hi : ∀ i, E 92 i = true) (T : TH ρ c h) (r0 : ρ x0 = 16) (i1 : Rg 0 7 x1) (i2 : Rg 0 300 x2) (G : GaP x0 h) (H : ∀ o ρ1 c1, Ext ρ c ρ1 c1 → TH ρ1 c1 o.2 → Fr ρ (cat c (SY (g92 (gi x1 x2)) no no) h) h o.2 → GaP x0 o.2 → Gb x0 (gi x1 x2) o.1 o.2 → (∀ j b, Gb x0 j b h → Gb x0 j b o.2) → Sat (k o) Q) : Sat (cl (sX15_gameBoard h x0 x1 x2) k) Q :=
  s_mk (g := fun (o : Nat × Hp) => o.2) (P := fun (o : Nat × Hp) (_ : Nat → Nat) (_ : Cm) => GaP x0 o.2 ∧ Gb x0 (gi x1 x2) o.1 o.2 ∧ ∀ j b, Gb x0 j b h → Gb x0 j b o.2) T (fun k w i m => hp k w i (sy_sub (fun k i z => by
      unfold g92 at z
      rw [Bool.and_eq_true, beq_iff_eq] at z
      rw [z.1]; exact hi i) (fun _ z => no_f z) (fun _ z => no_f z) m))
    (gameB (syE (sx_c (SY (g92 (gi x1 x2)) no no)) (by unfold g92; rw [beq_self_eq_true, beq_self_eq_true]; rfl)) (th_in _ T) r0 i1 i2 G) (fun _ _ _ _ _ p => p) (fun o ρ1 c1 X T1 f p => H o ρ1 c1 X T1 f p.1 p.2.1 p.2.2)
theorem s_played {β : Type} {Q : β → Prop} {k : Nat → Option β} (T : TH ρ c h) (r0 : ρ x0 = 16) (i1 : Rg 0 7 x1) (H : ∀ r, hR h x0 39 = some r → ρ r = 94 → Sat (k r) Q) : Sat (cl (hR h x0 39) fun r => gd (inB x1 (hN h r)) (k r)) Q := by
  obtain ⟨r, er, qr⟩ := thR T r0 (i := 39) (k2 := 94) rfl (by decide)
  refine s_ref er ?_
  exact s_gd (by rw [thN T qr (k := 94) (n := 8) rfl (by decide)]; exact rg_inB i1 (by decide)) (H r er qr)
end
end
section
section
variable {ρ : Nat → Nat} {c : Cm} {h o : Hp} {E : Nat → Nat → Bool} {wb wl : Nat → Bool} {x0 d b l w i F : Nat} {x1 x2 : Int32}
theorem no5 {n j : Nat} (h : n < 5000) : is n (5000 + j) = false := is_f (by omega)
theorem nw {i : Nat} : g92 i 16 39 = false := rfl
/-- moves of a game's board -/
theorem s_legalG {β : Type} {Q : β → Prop} {k : Hp → Option β} (hF : 700000 ≤ F) (hp : ∀ k w i, SY E wb wl k w i = true → cPm c k w i = true) (h1 : wb 2528 = true) (h3 : wl 2530 = true) (T : TH ρ c h) (r0 : ρ x0 = 16) (sq : SqOk x0 h) (G : GaP x0 h) (B : Gb x0 i b h) (el : hR h x0 30 = some l) (H : ∀ o, TH ρ c o → Fr ρ (cat c (SY noE (is 2528) (is 2530)) h) h o → SqOk x0 o → GaP x0 o → Gb x0 i b o → hR o x0 30 = some l → MvB x0 b l o → Sat (k o) Q) : Sat (cl (sX15_legal F h x0 b l) k) Q := by
  obtain ⟨k1, k3⟩ := gb_r T r0 B
  obtain ⟨l', el', ql'⟩ := thR T r0 (i := 30) (k2 := 14) rfl (by decide)
  have ql : ρ l = 14 := by rw [r_eq el' el]; exact ql'
  have wl' : cw c l = 2530 := th_id T r0 (w := 2530) el rfl (by decide)
  have hs : ∀ k w i, SY noE (is 2528) (is 2530) k w i = true → cPm c k w i = true := fun k w i m => hp k w i (sy_sub (fun _ _ z => noE_f z) (fun w z => by rw [is_e z]; exact h1) (fun w z => by rw [is_e z]; exact h3) m)
  refine s_cVfq T hs (zX15_legal hF (pmA_s (syA (sx_c _)) rfl) (pmO_s (syB (sx_c _) is_s) rfl) (pmO_s (w := 2530) (syM (sx_c _) is_s) rfl) k3 wl' (by omega) (th_in _ T) r0 k1 ql sq (G i b B)) (fun o T1 f mv => ?_)
  exact H o T1 f (sq_sy nice_0 T r0 f sq) (ga_sy nice_0 (fun _ => rfl) T r0 f (fun j => Or.inl (no5 (by decide))) G) ((gb_sy nice_0 rfl T r0 f).mp B) (by rw [(fr_RI f r0 (by decide) (fun _ => sy_f rfl rfl (Or.inl rfl) (Or.inl rfl))).2.2]; exact el) mv
def gmE : Nat → Nat → Bool := fun k _ => k == 92 || k == 93 || k == 94
theorem zX15_start (hF : 700000 ≤ F) (hp : ∀ k w i, SY gmE (fun w => decide (5000 ≤ w) && decide (w ≤ 7407)) no k w i = true → cPm c k w i = true) (T : TH ρ c h) (r0 : ρ x0 = 16) (bd : BdP x0 h) (G : GaP x0 h) : Sat (sX15_start h x0 x1 x2) (MkI ρ c (-102) 0 (GaP x0)) := by
  unfold sX15_start
  refine s_dP0 (zX15_isGame hF T (rg_top _)) (fun oo eb e ii pp => ?_)
  rw [e]
  unfold sX15_start_4
  refine s_br (fun _ => s_some ⟨ρ, c, ex_0, T, rg_b rfl, G⟩) (fun nz => ?_)
  have i1 := pp nz
  refine s_dP0 (zX15_has hF T r0 (rg_top _)) (fun o2 eb2 e2 ii2 pp2 => ?_)
  rw [e2]
  unfold sX15_start_15
  refine s_br (fun _ => s_some ⟨ρ, c, ex_0, T, rg_b rfl, G⟩) (fun nz2 => ?_)
  have i2 := pp2 nz2
  obtain ⟨b, B⟩ := bk_of T r0 (hb_of T r0 bd eb2 nz2)
  have i0 : Rg 0 300 (0 : Int32) := rg_b rfl
  refine s_game hp (fun _ => rfl) T r0 i1 i0 G (fun o3 ρ1 c1 X1 T1 f1 G1 B1 _ => ?_)
  have r1 := ex_r X1 r0 (by decide)
  have hp1 := ex_hp X1 hp
  have BK1 := bk_sy nice_92 (fun _ => rfl) T r0 f1 rfl B
  obtain ⟨kb, wb'⟩ := bk_r T1 r1 BK1
  obtain ⟨kg, wg⟩ := gb_r T1 r1 B1
  have PB : PE b o3.2 := by obtain ⟨_, _, _, q⟩ := BK1; exact q
  unfold sX15_start_27
  refine s_bk T1 r1 i2 BK1 ?_
  have lg : gi x1 0 ≤ 2407 := rg_clamp (gi_r i1 i0) (by decide)
  have hs : ∀ k w i, SY noE (is (5000 + gi x1 0)) no k w i = true → cPm c1 k w i = true := fun k w i m => hp1 k w i (sy_sub (fun _ _ z => noE_f z) (fun w z => by rw [is_e z, decide_eq_true (show 5000 ≤ 5000 + gi x1 0 by omega), decide_eq_true (show 5000 + gi x1 0 ≤ 7407 by omega)]; rfl) (fun _ z => no_f z) m)
  refine s_cVfq T1 hs (s_weq (zX12_copy hF (pmO_s (w := 5000 + gi x1 0) (syB (sx_c _) is_s) rfl) wg wb' (th_in _ T1) kg kb)) (fun o4 T4 f4 e4 => ?_)
  have P4 := pe_copy T1 kg kb PB e4
  have G4 : GaP x0 o4 := ga_sy nice_0 (fun _ => rfl) T1 r1 f4 (fun j => by
    by_cases q : j = gi x1 0
    · subst q
      refine Or.inr (fun b' B' => ?_)
      obtain ⟨r, s1, s2⟩ := B1
      obtain ⟨r', s1', s2'⟩ := B'
      rw [r_eq s1 s1'] at s2'
      rw [r_eq s2 s2']; exact P4
    · exact Or.inl (is_f (by omega))) G1
  unfold sX15_start_36
  refine s_played T4 r1 i1 (fun r er qr => ?_)
  refine s_hq (th_wI T4 qr (k := 94) (lo := -1) (hi := 300) rfl (rg_b rfl) (by decide) (by decide) (syE hp1 rfl _)) (fun g5 T5 e5 => ?_)
  have f5 := fr1I (c := c1) (A := [(94, 999)]) (k := 94) qr rfl e5
  refine s_some ⟨ρ1, c1, X1, T5, rg_b rfl, fun j b' B' => ?_⟩
  obtain ⟨r', s1, s2⟩ := B'
  have B4 : Gb x0 j b' o4 := ⟨r', by rw [e5] at s1; exact s1, by rw [e5] at s2; exact s2⟩
  obtain ⟨k1, k2⟩ := gb_r T4 r1 B4
  exact pe_fr T4 k1 f5 rfl rfl rfl (fun _ => rfl) (fun _ => rfl) (G4 j b' B4)
theorem ga_w {A : List (Nat × Nat)} (hA : ∀ k i, k ≠ 93 → k ≠ 94 → mS A k i = false) (T : TH ρ c h) (r0 : ρ x0 = 16) (f : Fr ρ (cat c (fS A []) h) h o) (G : GaP x0 h) : GaP x0 o := fun j b B => by
  have z : ∀ k i, k ≠ 93 → k ≠ 94 → ∀ w, fS A [] k w i = false := fun k i a1 a2 w => fs_nf (hA k i a1 a2)
  obtain ⟨r', s1, s2⟩ := B
  rw [(fr_RI f r0 (by decide) (z _ _ (by decide) (by decide))).2.2] at s1
  obtain ⟨q1, f1, g1⟩ := thR T r0 (i := 37) (k2 := 92) rfl (by decide)
  have h1 : ρ r' = 92 := by rw [r_eq f1 s1]; exact g1
  rw [(fr_RI f h1 (by decide) (z _ _ (by decide) (by decide))).2.2] at s2
  obtain ⟨k1, k2⟩ := gb_r T r0 (i := j) (b := b) ⟨r', s1, s2⟩
  exact pe_fr T k1 f (z _ _ (by decide) (by decide) _) (z _ _ (by decide) (by decide) _) (z _ _ (by decide) (by decide) _) (fun _ => z _ _ (by decide) (by decide) _) (fun _ => z _ _ (by decide) (by decide) _) (G j b ⟨r', s1, s2⟩)
theorem a93 : ∀ k i, k ≠ 93 → k ≠ 94 → mS [(93, 999)] k i = false := fun k i h1 _ => by
  show ((93 == k && (999 == 999 || 999 == i)) || false) = false
  rw [bq_ne (fun z => h1 z.symm)]; rfl
theorem a94 : ∀ k i, k ≠ 93 → k ≠ 94 → mS [(94, 999)] k i = false := fun k i _ h1 => by
  show ((94 == k && (999 == 999 || 999 == i)) || false) = false
  rw [bq_ne (fun z => h1 z.symm)]; rfl
def kpE : Nat → Nat → Bool := fun k i => mS [(84, 999), (85, 999), (16, 16)] k i
theorem nice_kp : nice kpE := by
  refine ⟨fun k i hk => ?_, rfl, rfl, rfl, rfl, rfl⟩
  unfold kpE mS
  show ((84 == k && (999 == 999 || 999 == i)) || ((85 == k && (999 == 999 || 999 == i)) || ((16 == k && (16 == 999 || 16 == i)) || false))) = false
  rw [bq_ne (show 84 ≠ k by omega), bq_ne (show 85 ≠ k by omega), bq_ne (show 16 ≠ k by omega)]; rfl
theorem bp_sy (n : nice E) (n84 : ∀ i, E 84 i = false) (n85 : ∀ i, E 85 i = false) (n15 : E 16 15 = false) (hb : wb 3400 = false) (T : TH ρ c h) (r0 : ρ x0 = 16) (f : Fr ρ (cat c (SY E wb wl) h) h o) (P : BdP x0 h) : BdP x0 o := by
  have z : ∀ k i, (k = 13 ∨ k = 14 ∨ (62 ≤ k ∧ k ≤ 72) ∨ k = 15) → mS saL k i = false → mS mpL k i = false → SY E wb wl k 3400 i = false := fun k i a0 a1 a2 => sy_f (n.1 k i a0) a1 (Or.inr hb) (Or.inl a2)
  exact bp_fr T r0 f (fun _ => sy_f n.2.2.2.2.2 rfl (Or.inl rfl) (Or.inl rfl)) (fun _ => sy_f n15 rfl (Or.inl rfl) (Or.inl rfl)) (fun _ i => sy_f (n84 i) rfl (Or.inl rfl) (Or.inl rfl)) (fun _ i => sy_f (n85 i) rfl (Or.inl rfl) (Or.inl rfl)) (z _ _ (by omega) rfl rfl) (z _ _ (by omega) rfl rfl) (z _ _ (by omega) rfl rfl) (fun i => z _ _ (by omega) rfl rfl) (fun i => z _ _ (by omega) rfl rfl) P
theorem zX15_now (hF : 700000 ≤ F) (hp : ∀ k w i, SY (fun k i => kpE k i || k == 92) (is 3400) no k w i = true → cPm c k w i = true) (T : TH ρ c h) (r0 : ρ x0 = 16) (bd : BdP x0 h) (G : GaP x0 h) : Sat (sX15_now F h x0 x1) (MkI ρ c (-104) 59 (fun o => BdP x0 o ∧ GaP x0 o)) := by
  unfold sX15_now
  refine s_dP0 (zX15_isGame hF T (rg_top _)) (fun oo eb e ii pp => ?_)
  rw [e]
  unfold sX15_now_4 sX15_now_40
  refine s_br (fun _ => s_some ⟨ρ, c, ex_0, T, rg_b rfl, bd, G⟩) (fun nz => ?_)
  have i1 := pp nz
  refine s_played T r0 i1 (fun r er qr => ?_)
  refine s_br (fun _ => s_some ⟨ρ, c, ex_0, T, rg_b rfl, bd, G⟩) (fun n1 => ?_)
  refine s_played T r0 i1 (fun r' er' qr' => ?_)
  have : r' = r := r_eq er er'
  subst this
  have i2 : Rg 0 300 (hI h r' x1.toNatClampNeg) := rg_nlo n1 (thI T qr' (k := 94) (lo := -1) (hi := 300) rfl) (rg_b rfl : Rg (-1) (-1) (-1 : Int32))
  refine s_game hp (fun _ => Bool.or_true _) T r0 i1 i2 G (fun o3 ρ1 c1 X1 T1 f1 G1 B1 _ => ?_)
  have r1 := ex_r X1 r0 (by decide)
  have hp1 := ex_hp X1 hp
  have bd1 := bp_sy nice_92 (fun _ => rfl) (fun _ => rfl) rfl rfl T r0 f1 bd
  obtain ⟨kg, wg⟩ := gb_r T1 r1 B1
  unfold sX15_now_37
  have hs : ∀ k w i, SY kpE (is 3400) no k w i = true → cPm c1 k w i = true := fun k w i m => hp1 k w i (sy_sub (fun k i z => by rw [z]; rfl) (fun _ z => z) (fun _ z => z) m)
  refine s_mI (S := SY kpE (is 3400) no) T1 hs (zX15_keep hF (fun w k i m => sx_c _ k w i (by unfold SY kpE; rw [m, Bool.true_or, Bool.true_or])) (pmO_s (syB (sx_c _) is_s) rfl) wg (th_in _ T1) r1 kg bd1 (G1 _ _ B1)) (fun o4 ρ4 c4 X4 T4 f4 j4 bd4 => ?_)
  exact s_some ⟨ρ4, c4, ex_t X1 X4, T4, j4, bd4, ga_sy nice_kp (fun _ => rfl) T1 r1 f4 (fun j => Or.inl (no5 (by decide))) G1⟩
def gmB : Nat → Bool := fun w => w == 2528 || (decide (5000 ≤ w) && decide (w ≤ 7407))
theorem gmB_t {j : Nat} (h : j ≤ 2407) : gmB (5000 + j) = true := by
  unfold gmB
  rw [decide_eq_true (show 5000 ≤ 5000 + j by omega), decide_eq_true (show 5000 + j ≤ 7407 by omega)]
  exact Bool.or_true _
theorem ga_one {j0 : Nat} (P : ∀ b', Gb x0 j0 b' h → PE b' o) : ∀ j, is (5000 + j0) (5000 + j) = false ∨ ∀ b, Gb x0 j b h → PE b o := fun j => by
  by_cases q : j = j0
  · subst q; exact Or.inr P
  · exact Or.inl (is_f (by omega))
theorem gb_u {b' : Nat} (B : Gb x0 i b h) (B' : Gb x0 i b' h) : b' = b := by
  obtain ⟨r, s1, s2⟩ := B
  obtain ⟨r', s1', s2'⟩ := B'
  rw [r_eq s1 s1'] at s2'
  exact r_eq s2 s2'
theorem zX15_add (hF : 700000 ≤ F) (hp : ∀ k w i, SY gmE gmB (is 2530) k w i = true → cPm c k w i = true) (T : TH ρ c h) (r0 : ρ x0 = 16) (sq : SqOk x0 h) (G : GaP x0 h) : Sat (sX15_add F h x0 x1 x2) (MkI ρ c (-104) 300 (GaP x0)) := by
  unfold sX15_add
  refine s_dP0 (zX15_isGame hF T (rg_top _)) (fun oo eb e ii pp => ?_)
  rw [e]
  unfold sX15_add_4
  refine s_br (fun _ => s_some ⟨ρ, c, ex_0, T, rg_b rfl, G⟩) (fun nz => ?_)
  have i1 := pp nz
  refine s_played T r0 i1 (fun r er qr => ?_)
  refine s_br (fun _ => s_some ⟨ρ, c, ex_0, T, rg_b rfl, G⟩) (fun n1 => ?_)
  refine s_played T r0 i1 (fun r' er' qr' => ?_)
  have : r' = r := r_eq er er'
  subst this
  have i2 : Rg 0 300 (hI h r' x1.toNatClampNeg) := rg_nlo n1 (thI T qr' (k := 94) (lo := -1) (hi := 300) rfl) (rg_b rfl : Rg (-1) (-1) (-1 : Int32))
  obtain ⟨p0, ep0⟩ : ∃ p0, p0 = hI h r' x1.toNatClampNeg := ⟨_, rfl⟩
  rw [← ep0] at i2 ⊢
  refine s_game hp (fun _ => rfl) T r0 i1 i2 G (fun o3 ρ1 c1 X1 T1 f1 G1 B1 _ => ?_)
  have r1 := ex_r X1 r0 (by decide)
  have qr1 := ex_r X1 qr' (by decide)
  have hp1 := ex_hp X1 hp
  have sq1 := sq_sy nice_92 T r0 f1 sq
  have er1 : hR o3.2 x0 39 = some r' := by rw [(fr_RI f1 r0 (by decide) (fun _ => sy_f rfl rfl (Or.inl rfl) (Or.inl rfl))).2.2]; exact er
  have ep1 : hI o3.2 r' x1.toNatClampNeg = p0 := by rw [ep0]; exact (fr_RI f1 qr' (by decide) (fun _ => sy_f rfl rfl (Or.inl rfl) (Or.inl rfl))).1
  unfold sX15_add_34
  obtain ⟨ls, els, qls⟩ := thR T1 r1 (i := 30) (k2 := 14) rfl (by decide)
  refine s_ref els ?_
  refine s_legalG hF hp1 rfl rfl T1 r1 sq1 G1 B1 els (fun o4 T4 f4 sq4 G4 B4 el4 mv4 => ?_)
  have er4 : hR o4 x0 39 = some r' := by rw [(fr_RI f4 r1 (by decide) (fun _ => sy_f rfl rfl (Or.inl rfl) (Or.inl rfl))).2.2]; exact er1
  have ep4 : hI o4 r' x1.toNatClampNeg = p0 := by rw [(fr_RI f4 qr1 (by decide) (fun _ => sy_f rfl rfl (Or.inl rfl) (Or.inl rfl))).1]; exact ep1
  unfold sX15_add_44 sX15_add_59
  refine s_br (fun _ => s_some ⟨ρ1, c1, X1, T4, rg_b rfl, G4⟩) (fun n2 => ?_)
  refine s_ref el4 ?_
  refine s_br (fun n3 => ?_) (fun _ => s_some ⟨ρ1, c1, X1, T4, rg_b rfl, G4⟩)
  refine s_played T4 r1 i1 (fun r'' er'' qr'' => ?_)
  have : r'' = r' := r_eq er4 er''
  subst this
  rw [ep4]
  refine s_br (fun _ => s_some ⟨ρ1, c1, X1, T4, rg_b rfl, G4⟩) (fun n4 => ?_)
  have i3 : Rg 0 299 p0 := rg_nhi n4 i2 (rg_b rfl : Rg 300 300 (300 : Int32))
  have i4 : Rg 0 300 (p0 + (1 : Int32)) := rg_add i3 (rg_b rfl : Rg 1 1 (1 : Int32)) (by decide)
  refine s_ref el4 ?_
  refine s_played T4 r1 i1 (fun r3 er3 qr3 => ?_)
  have : r3 = r'' := r_eq er4 er3
  subst this
  rw [ep4]
  have ne := gi_ne i1 i2 i4 (by rw [(nc_s i3 (by decide)).2]; omega)
  refine s_game hp1 (fun _ => rfl) T4 r1 i1 i4 G4 (fun o5 ρ5 c5 X5 T5 f5 G5 B5 kp5 => ?_)
  have r5 := ex_r X5 r1 (by decide)
  have qr5 := ex_r X5 qr1 (by decide)
  have hp5 := ex_hp X5 hp1
  have sq5 := sq_sy nice_92 T4 r1 f5 sq4
  obtain ⟨k4, w4⟩ := gb_r T4 r1 B4
  have ql4 : ρ1 ls = 14 := qls
  have wl4 : cw c1 ls = 2530 := th_id T4 r1 (w := 2530) el4 rfl (by decide)
  have mv5 : MvB x0 o3.1 ls o5.2 := mv_sy nice_92 T4 r1 k4 ql4 w4 rfl wl4 rfl f5 mv4
  have B45 : Gb x0 (gi x1 p0) o3.1 o5.2 := kp5 _ _ B4
  have el5 : hI o5.2 ls 0 = hI o4 ls 0 := fr_I f5 ql4 (by decide) wl4 (sy_f rfl rfl (Or.inl rfl) (Or.inr rfl))
  obtain ⟨k5, w5⟩ := gb_r T5 r5 B5
  obtain ⟨k45, w45⟩ := gb_r T5 r5 B45
  have ql5 := ex_r X5 ql4 (by decide)
  have wl5 := ex_w X5 ql4 (by decide) wl4
  have er5 : hR o5.2 x0 39 = some r3 := by rw [(fr_RI f5 r1 (by decide) (fun _ => sy_f rfl rfl (Or.inl rfl) (Or.inl rfl))).2.2]; exact er4
  have ep5 : hI o5.2 r3 x1.toNatClampNeg = p0 := by rw [(fr_RI f5 qr1 (by decide) (fun _ => sy_f rfl rfl (Or.inl rfl) (Or.inl rfl))).1]; exact ep4
  have h3000 := thI T4 ql4 (k := 14) (i := 0) (lo := 0) (hi := 3000) rfl
  have lt := lt_i n3
  have ix : Rg 0 2999 x2 := ⟨nlt_i n2, by have := h3000.2; omega⟩
  unfold sX15_add_97
  have lg : gi x1 (p0 + 1) ≤ 2407 := rg_clamp (gi_r i1 i4) (by decide)
  have hs : ∀ k w i, SY noE (is (5000 + gi x1 (p0 + 1))) no k w i = true → cPm c5 k w i = true := fun k w i m => hp5 k w i (sy_sub (fun _ _ z => noE_f z) (fun w z => by rw [is_e z]; exact gmB_t lg) (fun _ z => no_f z) m)
  refine s_cVfq T5 hs (zX15_make hF (pmA_s (syA (sx_c _)) rfl) (pmO_s (w := 5000 + gi x1 (p0 + 1)) (syB (sx_c _) is_s) rfl) w45 wl5 w5 (th_in _ T5) r5 k45 ql5 ix k5 sq5 mv5 (by rw [el5]; exact lt)) (fun o6 T6 f6 P6 => ?_)
  have G6 : GaP x0 o6 := ga_sy nice_0 (fun _ => rfl) T5 r5 f6 (ga_one (fun b' B' => by rw [gb_u B5 B']; exact P6)) G5
  have er6 : hR o6 x0 39 = some r3 := by rw [(fr_RI f6 r5 (by decide) (fun _ => sy_f rfl rfl (Or.inl rfl) (Or.inl rfl))).2.2]; exact er5
  have ep6 : hI o6 r3 x1.toNatClampNeg = p0 := by rw [(fr_RI f6 qr5 (by decide) (fun _ => sy_f rfl rfl (Or.inl rfl) (Or.inl rfl))).1]; exact ep5
  unfold sX15_add_100
  obtain ⟨gm, egm, qgm⟩ := thR T6 r5 (i := 38) (k2 := 93) rfl (by decide)
  refine s_ref egm ?_
  refine s_played T6 r5 i1 (fun r7 er7 qr7 => ?_)
  have : r7 = r3 := r_eq er6 er7
  subst this
  rw [ep6]
  refine s_gd (by rw [thN T6 qgm (k := 93) (n := 2408) rfl (by decide)]; exact rg_inB (gi_r i1 i2) (by decide)) ?_
  refine s_hq (th_wI T6 qgm (k := 93) (lo := 0) (hi := 2999) rfl ix (by decide) (by decide) (syE hp5 rfl _)) (fun g7 T7 e7 => ?_)
  have f7 := fr1I (c := c5) (A := [(93, 999)]) (k := 93) qgm rfl e7
  have G7 := ga_w a93 T6 r5 f7 G6
  have ep7 : hI g7 r7 x1.toNatClampNeg = p0 := by rw [e7, r_I, if_neg (ne_r qr5 qgm (by decide))]; exact ep6
  refine s_played T7 r5 i1 (fun r8 er8 qr8 => ?_)
  have : r8 = r7 := by rw [e7] at er8; exact r_eq er6 er8
  subst this
  refine s_gd (by rw [thN T7 qr8 (k := 94) (n := 8) rfl (by decide)]; exact rg_inB i1 (by decide)) ?_
  refine s_hq (th_wI T7 qr8 (k := 94) (lo := -1) (hi := 300) rfl (rg_m (show Rg 0 300 _ by rw [ep7]; exact i4) (by decide)) (by decide) (by decide) (syE hp5 rfl _)) (fun g8 T8 e8 => ?_)
  have f8 := fr1I (c := c5) (A := [(94, 999)]) (k := 94) qr8 rfl e8
  have G8 := ga_w a94 T7 r5 f8 G7
  refine s_played T8 r5 i1 (fun r9 er9 qr9 => ?_)
  exact s_some ⟨ρ5, c5, ex_t X1 X5, T8, rg_m (thI T8 qr9 (k := 94) (lo := -1) (hi := 300) rfl) (by decide), G8⟩
end
end
