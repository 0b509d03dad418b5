section
variable {zq : Nat} {Bq : Nat × Nat} {ρ : Nat → Nat} {c : Cm} {h o : Hp} {S : Nat → Nat → Nat → Bool} {x0 b g w i F : Nat} {n : Int} {x1 x2 x3 x4 x5 x6 : Int32}
theorem fd_noneY (T : TH ρ c h) (r0 : ρ x0 = 16) (P : FdPY zq Bq x0 h) (e : o = wI h x0 44 0) : FdPY zq Bq x0 o := by
  have f := fr1I (c := c) (A := [(16, 44)]) r0 rfl e
  have z : (hI o x0 44).toInt = 0 := by rw [he_s e]; rfl
  exact ⟨fun r er i hi => by rw [z] at hi; omega, fun k hk => by rw [z] at hk; omega, fbp_frY T r0 f fB44Y P.2.2.1 (by rw [e]; rfl), tx_fr T r0 f ⟨fun _ => rfl, fun _ _ => rfl⟩ P.2.2.2⟩
theorem gi_noneY (T : TH ρ c h) (r0 : ρ x0 = 16) (P : GIY zq Bq x0 h) (e : o = wI h x0 44 0) : GIY zq Bq x0 o := by
  have f := fr1I (c := c) (A := [(16, 44)]) r0 rfl e
  obtain ⟨p1, p2, r, p3, p4⟩ := P
  refine ⟨sq_fr T r0 f (fun _ => rfl) (fun _ => rfl) (fun _ => rfl) p1, fd_noneY T r0 p2 e, r, by rw [e]; exact p3, ?_⟩
  rw [(fr_RI f (rr T (thR T r0 (i := 4) (k2 := 15) rfl (by decide)) p3) (by decide) (fun _ => rfl)).1]; exact p4
theorem be_58Y (hF : 700000 ≤ F) : ∀ (f : Nat) {ρ : Nat → Nat} {c : Cm} {h : Hp} {x3 : Int32}, GPm c → TH ρ c h → ρ x0 = 16 → ρ b = 13 → cw c b = 3400 → GIY zq Bq x0 h → 0 ≤ x3.toInt → (65 - x3.toInt).toNat < f → Sat (sX15_before_58 F f h x0 b x3) (MkI ρ c (-104) 3000 (GIY zq Bq x0)) := by
  intro f
  induction f with
  | zero => intros; omega
  | succ f ih =>
    intro ρ c h x3 P T r0 rb wb I a3 hf
    rw [sX15_before_58]
    unfold sX15_before_108 sX15_before_84 sX15_before_97 sX15_before_108 sX15_sideOf
    have s64 := thI T r0 (k := 16) (i := 13) (lo := 9) (hi := 64) rfl
    refine s_br (fun _ => s_some ⟨ρ, c, ex_0, T, rg_m (thI T r0 (k := 16) (i := 44) (lo := 0) (hi := 3000) rfl) (by decide), I⟩) (fun n1 => ?_)
    have l3 := nle_i n1
    have i3 : Rg 0 63 x3 := ⟨a3, by have := s64.2; omega⟩
    have b3 := i3.2
    obtain ⟨r, e, q⟩ := thR T rb (i := 0) (k2 := 62) rfl (by decide)
    have gb : inB x3 (hN h r) := by rw [thN T q (k := 62) (n := 64) rfl (by decide)]; exact rg_inB i3 (by decide)
    have go : ∀ {o : Hp} {ρ1 : Nat → Nat} {c1 : Cm}, Ext ρ c ρ1 c1 → TH ρ1 c1 o → GIY zq Bq x0 o → Sat (nm (x3 + (1 : Int32)) fun v_1 => sX15_before_58 F f o x0 b v_1) (MkI ρ c (-104) 3000 (GIY zq Bq x0)) := fun {o ρ1 c1} X To Io => by
      refine s_q (fun y ey => ?_)
      have ey2 : y.toInt = x3.toInt + 1 := by rw [ey]; exact (nc_s i3 (by decide)).2
      clear ey
      exact mI_ext X (ih (gp_x X P) To (ex_r X r0 (by decide)) (ex_r X rb (by decide)) ((X.1 b (by rw [rb]; decide)).2.trans wb) Io (by omega) (by omega))
    refine s_ref e (s_gd gb ?_)
    refine s_br (fun _ => go ex_0 T I) (fun _ => ?_)
    refine s_ref e (s_gd gb ?_)
    refine s_cl (s_some ?_)
    refine s_br (fun _ => go ex_0 T I) (fun _ => ?_)
    refine s_cl (s_imp (zX15_guessesAllY hF P T r0 rb wb i3 I) (fun o5 ⟨ρ5, c5, X5, T5, j5, I5⟩ => ?_))
    have r5 := ex_r X5 r0 (by decide)
    refine s_br (fun _ => ?_) (fun _ => go X5 T5 I5)
    refine s_hq (th_wI T5 r5 (k := 16) (lo := 0) (hi := 3000) rfl (rg_b rfl) (by decide) (by decide) (pm_a (gp_x X5 P).1 rfl)) (fun h6 T6 w6 => ?_)
    exact s_some ⟨ρ5, c5, X5, T6, rg_b rfl, gi_noneY T5 r5 I5 w6⟩
theorem zX15_beforeY (hF : 700000 ≤ F) (P : GPm c) (T : TH ρ c h) (r0 : ρ x0 = 16) (bd : BdP x0 h) (sq : SqOk x0 h) (fd : FdPY zq Bq x0 h) : Sat (sX15_before F h x0 x1) (MkI ρ c (-104) 3000 (fun o => SqOk x0 o ∧ FdPY zq Bq x0 o)) := by
  unfold sX15_before
  refine s_dP0 (zX15_has hF T r0 (rg_top _)) (fun oo eb e ii pp => ?_)
  rw [e]
  unfold sX15_before_5 sX15_before_41
  have ex : ∀ {v : Int32}, Rg (-104) 3000 v → Sat (some (v, h)) (MkI ρ c (-104) 3000 (fun o => SqOk x0 o ∧ FdPY zq Bq x0 o)) := fun {v} iv => s_some ⟨ρ, c, ex_0, T, iv, sq, fd⟩
  refine s_br (fun _ => ex (rg_b rfl)) (fun nz => ?_)
  have i1 := pp nz
  obtain ⟨b, B⟩ := bk_of T r0 (hb_of T r0 bd eb nz)
  obtain ⟨rb, wb⟩ := bk_r T r0 B
  obtain ⟨r1, e1, q1⟩ := thR T r0 (i := 4) (k2 := 15) rfl (by decide)
  refine s_ref e1 ?_
  refine s_br (fun z15 => ?_) (fun _ => ex (rg_b rfl))
  refine s_ref e1 ?_
  refine s_br (fun _ => ?_) (fun _ => ex (rg_b rfl))
  refine s_ref e1 ?_
  refine s_br (fun _ => ?_) (fun _ => ex (rg_b rfl))
  refine s_hq (th_wI T r0 (k := 16) (lo := 0) (hi := 3000) rfl (rg_b rfl) (by decide) (by decide) (pm_a P.1 rfl)) (fun h6 T6 w6 => ?_)
  have I6 := gi_noneY T r0 ⟨sq, fd, r1, e1, z15⟩ w6
  have B6 : BK x0 x1.toNatClampNeg b h6 := by
    obtain ⟨r, s1, s2, s3⟩ := B
    have f6 := fr1I (c := c) (A := [(16, 44)]) r0 rfl w6
    exact ⟨r, by rw [w6]; exact s1, by rw [w6]; exact s2, pe_fr T rb f6 rfl rfl rfl (fun _ => rfl) (fun _ => rfl) s3⟩
  refine s_bk T6 r0 i1 B6 ?_
  have z0 : (0 : Int32).toInt = 0 := rfl
  exact s_imp (be_58Y hF F P T6 r0 rb wb I6 (by decide) (by rw [z0]; omega)) (fun o ⟨ρ1, c1, X, To, j, Io⟩ => ⟨ρ1, c1, X, To, j, Io.1, Io.2.1⟩)
theorem ks_kpY : KSY (fS kpL [(3400, bpL)]) := ks_cY bp_no (by decide) ⟨⟨fun _ => rfl, fun _ _ => rfl, fun _ => ⟨fun _ _ => rfl, fun _ => rfl, fun _ => rfl, fun _ => rfl⟩⟩, ⟨fun _ => rfl, fun _ _ => rfl⟩, ⟨fun _ => rfl, fun _ _ => rfl⟩, fun _ => rfl, fun _ => rfl, fun _ => rfl, fun _ => rfl, fun _ => rfl, fun _ => rfl, fun _ => rfl⟩
end
