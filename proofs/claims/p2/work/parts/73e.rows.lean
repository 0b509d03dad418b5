/-! rows, problem and refutes of the reference -/
def BK (x0 i b : Nat) (h : Hp) : Prop := ∃ r, hR h x0 14 = some r ∧ hR h r i = some b ∧ PE b h
/-- a problem that is set has moves -/
def PbP (x0 : Nat) (h : Hp) : Prop := ¬ hI h x0 65 ≤ 0 → 1 ≤ (hI h x0 68).toInt
section
variable {ρ : Nat → Nat} {c : Cm} {h o : Hp} {F x0 b l d i : Nat} {x1 x2 x3 x4 : Int32} {p wb wl : Nat → Bool}
theorem bk_r (T : TH ρ c h) (r0 : ρ x0 = 16) (B : BK x0 i b h) : ρ b = 13 ∧ cw c b = 3400 := by
  obtain ⟨r, e1, e2, e3⟩ := B
  obtain ⟨q1, f1, g1⟩ := thR T r0 (i := 14) (k2 := 84) rfl (by decide)
  have h1 : ρ r = 84 := by rw [r_eq f1 e1]; exact g1
  exact ⟨thRn T h1 (k2 := 13) rfl (by decide) e2, th_id T h1 (w := 3400) e2 rfl (by decide)⟩
theorem bk_keep (T : TH ρ c h) (r0 : ρ x0 = 16) (f : Fr ρ (cat c (SX p wb wl) h) h o) (hb : wb 3400 = false) (B : BK x0 i b h) : BK x0 i b o := by
  obtain ⟨k1, k3⟩ := bk_r T r0 B
  obtain ⟨r, e1, e2, P⟩ := B
  obtain ⟨q1, f1, g1⟩ := thR T r0 (i := 14) (k2 := 84) rfl (by decide)
  have h1 : ρ r = 84 := by rw [r_eq f1 e1]; exact g1
  refine ⟨r, ?_, ?_, ?_⟩
  · rw [(fr_RI f r0 (by decide) (fun _ => sx_f (Or.inl rfl) rfl (Or.inl rfl) (Or.inl rfl))).2.2]; exact e1
  · rw [(fr_RI f h1 (by decide) (fun _ => sx_f (Or.inl rfl) rfl (Or.inl rfl) (Or.inl rfl))).2.2]; exact e2
  · have z : ∀ k i, mS saL k i = false → mS mpL k i = false → (k == 90 || k == 91) = false → SX p wb wl k (cw c b) i = false := fun k i a1 a2 a3 => sx_f (Or.inl a3) a1 (Or.inr (by rw [k3]; exact hb)) (Or.inl a2)
    exact pe_fr T k1 f (z _ _ rfl rfl rfl) (z _ _ rfl rfl rfl) (z _ _ rfl rfl rfl) (fun i => z _ _ rfl rfl rfl) (fun i => z _ _ rfl rfl rfl) P
theorem s_bk {β : Type} {Q : β → Prop} {k : Nat → Option β} (T : TH ρ c h) (r0 : ρ x0 = 16) (i1 : Rg 0 59 x1) (B : BK x0 x1.toNatClampNeg b h) (H : Sat (k b) Q) : Sat (cl (hR h x0 14) fun r_1 => gd (inB x1 (hN h r_1)) <| cl (hR h r_1 x1.toNatClampNeg) k) Q := by
  obtain ⟨r, e1, e2, P⟩ := B
  obtain ⟨q1, f1, g1⟩ := thR T r0 (i := 14) (k2 := 84) rfl (by decide)
  have h1 : ρ r = 84 := by rw [r_eq f1 e1]; exact g1
  refine s_ref e1 ?_
  refine s_gd (by rw [thN T h1 (k := 84) (n := 60) rfl (by decide)]; exact rg_inB i1 (by decide)) ?_
  exact s_ref e2 H
theorem bk_of (T : TH ρ c h) (r0 : ρ x0 = 16) (H : HasB x0 x1 h) : ∃ b, BK x0 x1.toNatClampNeg b h := by
  obtain ⟨q1, f1, g1⟩ := thR T r0 (i := 14) (k2 := 84) rfl (by decide)
  obtain ⟨b, e, P⟩ := H q1 f1
  exact ⟨b, q1, f1, e, P⟩
/-- the board of the first depth takes a board over -/
theorem s_first {β : Type} {Q : β → Prop} {k : Hp → Option β} (hF : 700000 ≤ F) (hp : ∀ k w i, SX p wb wl k w i = true → cPm c k w i = true) (h2 : wb 3500 = true) (T : TH ρ c h) (r0 : ρ x0 = 16) (W : DW x0 h) (D : Dp x0 0 d l h) (B : BK x0 i b h) (H : ∀ o, TH ρ c o → Fr ρ (cat c (SX no (is 3500) no) h) h o → DW x0 o → Dp x0 0 d l o → PE d o → BK x0 i b o → Sat (k o) Q) : Sat (cl (sX12_copy h d b) k) Q := by
  obtain ⟨rb, wb'⟩ := bk_r T r0 B
  obtain ⟨j1, j2, j3, j4⟩ := dp_r T r0 D
  have hs : ∀ k w i, SX no (is 3500) no k w i = true → cPm c k w i = true := fun k w i m => hp k w i (sx_sub (fun _ z => no_f z) (fun w z => by rw [is_e z]; exact h2) (fun _ z => no_f z) m)
  refine s_cVfq T hs (s_weq (zX12_copy hF (pmO_s (w := 3500) (sxB (sx_c _) rfl) rfl) j3 wb' (th_in _ T) j1 rb)) (fun o5 T5 f5 e5 => ?_)
  have B1 := B
  obtain ⟨_, _, _, PB⟩ := B1
  exact H o5 T5 f5 (dw_keep0 T r0 f5 W) (dp_keep0 T r0 f5 D) (pe_copy T j1 rb PB e5) (bk_keep T r0 f5 rfl B)
theorem zX15_rows (hF : 700000 ≤ F) (hp : ∀ k w i, SD 0 k w i = true → cPm c k w i = true) (T : TH ρ c h) (r0 : ρ x0 = 16) (bd : BdP x0 h) (W : DW x0 h) : Sat (sX15_rows F h x0 x1 x2) (MkI ρ c (-104) 600001 (DW x0)) := by
  unfold sX15_rows sX15_rows_10
  have ex : Sat (some ((-101 : Int32), h)) (MkI ρ c (-104) 600001 (DW x0)) := s_some ⟨ρ, c, ex_0, T, rg_b rfl, W⟩
  refine s_br (fun _ => ex) (fun n1 => ?_)
  refine s_br (fun n2 => ?_) (fun _ => ex)
  have a2 : 0 ≤ x2.toInt := nlt_i n1
  have b2 : x2.toInt ≤ 6 := le_i n2
  refine s_dP0 (zX15_has hF T r0 (rg_top _)) (fun oo eb e ii pp => ?_)
  rw [e]
  unfold sX15_rows_18
  refine s_br (fun _ => s_some ⟨ρ, c, ex_0, T, rg_b rfl, W⟩) (fun nz => ?_)
  have i1 := pp nz
  obtain ⟨b, B⟩ := bk_of T r0 (hb_of T r0 bd eb nz)
  obtain ⟨rb, wb'⟩ := bk_r T r0 B
  have PB : PE b h := by obtain ⟨_, _, _, q⟩ := B; exact q
  refine s_bk T r0 i1 B ?_
  refine s_mI (S := SD 0) T hp (zX15_isRoom hF (sx_c _) (th_in _ T) r0 rb wb' (by omega) W PB) (fun o1 ρ1 c1 X1 T1 f1 j1 W1 => ?_)
  have B1 := bk_keep T r0 f1 rfl B
  have r1 := ex_r X1 r0 (by decide)
  have hp1 := ex_hp X1 hp
  unfold sX15_rows_36
  refine s_br (fun _ => s_some ⟨ρ1, c1, X1, T1, rg_b rfl, W1⟩) (fun _ => ?_)
  refine s_deep hp1 (sdp_t (Nat.zero_le _)) T1 r1 (rg_b rfl) W1 (fun o2 ρ2 c2 l' X2 T2 f2 W2 D2 => ?_)
  have B2 := bk_keep T1 r1 f2 rfl B1
  have r2 := ex_r X2 r1 (by decide)
  have hp2 := ex_hp X2 hp1
  unfold sX15_rows_47
  refine s_bk T2 r2 i1 B2 ?_
  refine s_first hF hp2 rfl T2 r2 W2 D2 B2 (fun o3 T3 f3 W3 D3 P3 B3 => ?_)
  unfold sX15_rows_56 sX15_rows_63
  have zz : (0 : Int32).toInt = 0 := rfl
  refine s_mI (S := SD 0) T3 hp2 (zX15_countRows (d := 0) hF (sx_c _) (th_in _ T3) r2 rfl (by decide) a2 (by rw [zz]; omega) W3 D3 P3) (fun o4 ρ4 c4 X4 T4 f4 j4 W4 => ?_)
  exact s_some ⟨ρ4, c4, ex_t X1 (ex_t X2 X4), T4, ⟨show (-104 : Int) ≤ o4.1.toInt by have := j4.1; omega, show o4.1.toInt ≤ 600001 by have := j4.2; omega⟩, W4⟩
/-! writes of a problem's own fields -/
theorem dw_w {A : List (Nat × Nat)} (hA : ∀ k i, k ≠ 111 → (k = 16 → i < 64) → mS A k i = false) (T : TH ρ c h) (r0 : ρ x0 = 16) (f : Fr ρ (cat c (fS A []) h) h o) (W : DW x0 h) : DW x0 o := by
  have z : ∀ k i, k ≠ 111 → (k = 16 → i < 64) → ∀ w, fS A [] k w i = false := fun k i a1 a2 w => fs_nf (hA k i a1 a2)
  refine ⟨sq_fr T r0 f (z _ _ (by decide) (by intro q; omega)) (z _ _ (by decide) (by intro q; omega)) (z _ _ (by decide) (by intro q; omega)) W.1, fun rb rl e1 e2 d b e3 => ?_⟩
  rw [(fr_RI f r0 (by decide) (z _ _ (by decide) (by intro q; omega))).2.2] at e1 e2
  obtain ⟨q1, f1, g1⟩ := thR T r0 (i := 33) (k2 := 90) rfl (by decide)
  obtain ⟨q2, f2, g2⟩ := thR T r0 (i := 34) (k2 := 91) rfl (by decide)
  have h1 : ρ rb = 90 := by rw [r_eq f1 e1]; exact g1
  have h2 : ρ rl = 91 := by rw [r_eq f2 e2]; exact g2
  rw [(fr_RI f h1 (by decide) (z _ _ (by decide) (by intro q; omega))).2.2] at e3
  obtain ⟨l, e4⟩ := W.2 rb rl e1 e2 d b e3
  exact ⟨l, by rw [(fr_RI f h2 (by decide) (z _ _ (by decide) (by intro q; omega))).2.2]; exact e4⟩
theorem dq_w {A : List (Nat × Nat)} (hA : ∀ k i, k ≠ 111 → (k = 16 → i < 64) → mS A k i = false) (T : TH ρ c h) (r0 : ρ x0 = 16) (f : Fr ρ (cat c (fS A []) h) h o) (D : DQ x0 d b l h) : DQ x0 d b l o := by
  have z : ∀ k i, k ≠ 111 → (k = 16 → i < 64) → ∀ w, fS A [] k w i = false := fun k i a1 a2 w => fs_nf (hA k i a1 a2)
  obtain ⟨k1, k2, k3, k4⟩ := dp_r T r0 D.1
  obtain ⟨⟨rb, rl, e1, e2, e3, e4⟩, P, M⟩ := D
  obtain ⟨q1, f1, g1⟩ := thR T r0 (i := 33) (k2 := 90) rfl (by decide)
  obtain ⟨q2, f2, g2⟩ := thR T r0 (i := 34) (k2 := 91) rfl (by decide)
  have h1 : ρ rb = 90 := by rw [r_eq f1 e1]; exact g1
  have h2 : ρ rl = 91 := by rw [r_eq f2 e2]; exact g2
  refine ⟨⟨rb, rl, ?_, ?_, ?_, ?_⟩, ?_, ?_⟩
  · rw [(fr_RI f r0 (by decide) (z _ _ (by decide) (by intro q; omega))).2.2]; exact e1
  · rw [(fr_RI f r0 (by decide) (z _ _ (by decide) (by intro q; omega))).2.2]; exact e2
  · rw [(fr_RI f h1 (by decide) (z _ _ (by decide) (by intro q; omega))).2.2]; exact e3
  · rw [(fr_RI f h2 (by decide) (z _ _ (by decide) (by intro q; omega))).2.2]; exact e4
  · exact pe_fr T k1 f (z _ _ (by decide) (by intro q; omega) _) (z _ _ (by decide) (by intro q; omega) _) (z _ _ (by decide) (by intro q; omega) _) (fun i => z _ _ (by decide) (by intro q; omega) _) (fun i => z _ _ (by decide) (by intro q; omega) _) P
  · exact mv_fr T r0 k1 k2 f (z _ _ (by decide) (by intro q; omega)) (z _ _ (by decide) (by intro q; omega)) (z _ _ (by decide) (by intro q; omega) _) (z _ _ (by decide) (by intro q; omega) _) (z _ _ (by decide) (by intro q; omega) _) (fun i => z _ _ (by decide) (by intro q; omega) _) (fun i => z _ _ (by decide) (by intro q; omega) _) (z _ _ (by decide) (by intro q; omega) _) (z _ _ (by decide) (by intro q; omega) _) (z _ _ (by decide) (by intro q; omega) _) (z _ _ (by decide) (by intro q; omega) _) (z _ _ (by decide) (by intro q; omega) _) (z _ _ (by decide) (by intro q; omega) _) (fun i => z _ _ (by decide) (by intro q; omega) _) (fun i => z _ _ (by decide) (by intro q; omega) _) (fun i => z _ _ (by decide) (by intro q; omega) _) (fun i => z _ _ (by decide) (by intro q; omega) _) (fun i => z _ _ (by decide) (by intro q; omega) _) M
theorem bk_w {A : List (Nat × Nat)} (hA : ∀ k i, k ≠ 111 → (k = 16 → i < 64) → mS A k i = false) (T : TH ρ c h) (r0 : ρ x0 = 16) (f : Fr ρ (cat c (fS A []) h) h o) (B : BK x0 i b h) : BK x0 i b o := by
  have z : ∀ k i, k ≠ 111 → (k = 16 → i < 64) → ∀ w, fS A [] k w i = false := fun k i a1 a2 w => fs_nf (hA k i a1 a2)
  obtain ⟨k1, k3⟩ := bk_r T r0 B
  obtain ⟨r, e1, e2, P⟩ := B
  obtain ⟨q1, f1, g1⟩ := thR T r0 (i := 14) (k2 := 84) rfl (by decide)
  have h1 : ρ r = 84 := by rw [r_eq f1 e1]; exact g1
  refine ⟨r, ?_, ?_, ?_⟩
  · rw [(fr_RI f r0 (by decide) (z _ _ (by decide) (by intro q; omega))).2.2]; exact e1
  · rw [(fr_RI f h1 (by decide) (z _ _ (by decide) (by intro q; omega))).2.2]; exact e2
  · exact pe_fr T k1 f (z _ _ (by decide) (by intro q; omega) _) (z _ _ (by decide) (by intro q; omega) _) (z _ _ (by decide) (by intro q; omega) _) (fun i => z _ _ (by decide) (by intro q; omega) _) (fun i => z _ _ (by decide) (by intro q; omega) _) P
theorem a16 {j : Nat} (hj : 64 ≤ j) (h9 : j ≠ 999) : ∀ k i, k ≠ 111 → (k = 16 → i < 64) → mS [(16, j)] k i = false := fun k i _ h2 => by
  cases q : mS [(16, j)] k i with
  | false => rfl
  | true =>
    have : ((16 == k && (j == 999 || j == i)) || false) = true := q
    rw [Bool.or_false, Bool.and_eq_true, beq_iff_eq, bq_ne h9, Bool.false_or, beq_iff_eq] at this
    have := h2 this.1.symm
    omega
theorem a111 : ∀ k i, k ≠ 111 → (k = 16 → i < 64) → mS [(111, 999)] k i = false := fun k i h1 _ => by
  cases q : mS [(111, 999)] k i with
  | false => rfl
  | true =>
    have : ((111 == k && (999 == 999 || 999 == i)) || false) = true := q
    rw [Bool.or_false, Bool.and_eq_true, beq_iff_eq] at this
    exact absurd this.1.symm h1
end
