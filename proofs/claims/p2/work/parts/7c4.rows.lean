section
variable {Bq : Nat × Nat} {ρ : Nat → Nat} {c : Cm} {h o : Hp} {F x0 b l d i : Nat} {x1 x2 x3 x4 : Int32} {p wb wl : Nat → Bool}
theorem s_firstY {β : Type} {Q : β → Prop} {k : Hp → Option β} (hF : 700000 ≤ F) (hp : ∀ k w i, SX p wb wl k w i = true → cPm c k w i = true) (h2 : wb 3500 = true) (T : TH ρ c h) (r0 : ρ x0 = 16) (W : DWY Bq x0 h) (D : Dp x0 0 d l h) (B : BK x0 i b h) (H : ∀ o, TH ρ c o → Fr ρ (cat c (SX no (is 3500) no) h) h o → DWY Bq x0 o → Dp x0 0 d l o → PE d o → BK x0 i b o → Sat (k o) Q) : Sat (cl (sX12_copy h d b) k) Q := by
  obtain ⟨rb, wb'⟩ := bk_r T r0 B
  obtain ⟨j1, j2, j3, j4⟩ := dp_r T r0 D
  have hs : ∀ k w i, SX no (is 3500) no k w i = true → cPm c k w i = true := fun k w i m => hp k w i (sx_sub (fun _ z => no_f z) (fun w z => by rw [is_e z]; exact h2) (fun _ z => no_f z) m)
  refine s_cVfq T hs (s_weq (zX12_copy hF (pmO_s (w := 3500) (sxB (sx_c _) rfl) rfl) j3 wb' (th_in _ T) j1 rb)) (fun o5 T5 f5 e5 => ?_)
  have B1 := B
  obtain ⟨_, _, _, PB⟩ := B1
  exact H o5 T5 f5 (dw_keep0Y T r0 f5 W) (dp_keep0 T r0 f5 D) (pe_copy T j1 rb PB e5) (bk_keep T r0 f5 rfl B)
theorem zX15_rowsY (hF : 700000 ≤ F) (hp : ∀ k w i, SD 0 k w i = true → cPm c k w i = true) (T : TH ρ c h) (r0 : ρ x0 = 16) (bd : BdP x0 h) (W : DWY Bq x0 h) : Sat (sX15_rows F h x0 x1 x2) (MkI ρ c (-104) 600001 (DWY Bq x0)) := by
  unfold sX15_rows sX15_rows_10
  have ex : Sat (some ((-101 : Int32), h)) (MkI ρ c (-104) 600001 (DWY Bq x0)) := s_some ⟨ρ, c, ex_0, T, rg_b rfl, W⟩
  refine s_br (fun _ => ex) (fun n1 => ?_)
  refine s_br (fun n2 => ?_) (fun _ => ex)
  have a2 : 0 ≤ x2.toInt := nlt_i n1
  have b2 : x2.toInt ≤ 6 := le_i n2
  refine s_dP0 (zX15_has hF T r0 (rg_top _)) (fun oo eb e ii pp => ?_)
  rw [e]
  unfold sX15_rows_18
  refine s_br (fun _ => s_some ⟨ρ, c, ex_0, T, rg_b rfl, W⟩) (fun nz => ?_)
  have i1 := pp nz
  obtain ⟨b, B⟩ := bk_of T r0 (hb_of T r0 bd eb nz)
  obtain ⟨rb, wb'⟩ := bk_r T r0 B
  have PB : PE b h := by obtain ⟨_, _, _, q⟩ := B; exact q
  refine s_bk T r0 i1 B ?_
  refine s_mI (S := SD 0) T hp (zX15_isRoomY hF (sx_c _) (th_in _ T) r0 rb wb' (by omega) W PB) (fun o1 ρ1 c1 X1 T1 f1 j1 W1 => ?_)
  have B1 := bk_keep T r0 f1 rfl B
  have r1 := ex_r X1 r0 (by decide)
  have hp1 := ex_hp X1 hp
  unfold sX15_rows_36
  refine s_br (fun _ => s_some ⟨ρ1, c1, X1, T1, rg_b rfl, W1⟩) (fun _ => ?_)
  refine s_deepY hp1 (sdp_t (Nat.zero_le _)) T1 r1 (rg_b rfl) W1 (fun o2 ρ2 c2 l' X2 T2 f2 W2 D2 => ?_)
  have B2 := bk_keep T1 r1 f2 rfl B1
  have r2 := ex_r X2 r1 (by decide)
  have hp2 := ex_hp X2 hp1
  unfold sX15_rows_47
  refine s_bk T2 r2 i1 B2 ?_
  refine s_firstY hF hp2 rfl T2 r2 W2 D2 B2 (fun o3 T3 f3 W3 D3 P3 B3 => ?_)
  unfold sX15_rows_56 sX15_rows_63
  have zz : (0 : Int32).toInt = 0 := rfl
  refine s_mI (S := SD 0) T3 hp2 (zX15_countRowsY (d := 0) hF (sx_c _) (th_in _ T3) r2 rfl (by decide) a2 (by rw [zz]; omega) W3 D3 P3) (fun o4 ρ4 c4 X4 T4 f4 j4 W4 => ?_)
  exact s_some ⟨ρ4, c4, ex_t X1 (ex_t X2 X4), T4, ⟨show (-104 : Int) ≤ o4.1.toInt by have := j4.1; omega, show o4.1.toInt ≤ 600001 by have := j4.2; omega⟩, W4⟩
theorem dw_wY {A : List (Nat × Nat)} (hA : ∀ k i, k ≠ 111 → (k = 16 → i < 64) → mS A k i = false) (T : TH ρ c h) (r0 : ρ x0 = 16) (f : Fr ρ (cat c (fS A []) h) h o) (W : DWY Bq x0 h) (q1 : o.1 = h.1 := by first | assumption | (apply th1e <;> assumption)) : DWY Bq x0 o := by
  have z : ∀ k i, k ≠ 111 → (k = 16 → i < 64) → ∀ w, fS A [] k w i = false := fun k i a1 a2 w => fs_nf (hA k i a1 a2)
  have y := dw_w hA T r0 f (dwy_p W)
  exact ⟨y.1, y.2, pay_k0 T r0 (k2 := 90) rfl (by decide) q1 (fr_RI f r0 (by decide) (z _ _ (by decide) (by intro q; omega))).2.2 (fun r i qr => (fr_RI f qr (by decide) (z _ _ (by decide) (by intro q; omega))).2.2) W.2.2⟩
end
