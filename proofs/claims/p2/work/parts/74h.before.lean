section
variable {ρ : Nat → Nat} {c : Cm} {h o : Hp} {S : Nat → Nat → Nat → Bool} {x0 b g w i F : Nat} {n : Int} {x1 x2 x3 x4 x5 x6 : Int32}
/-- none is found -/
theorem fd_none (T : TH ρ c h) (r0 : ρ x0 = 16) (P : FdP x0 h) (e : o = wI h x0 44 0) : FdP x0 o := by
  have f := fr1I (c := c) (A := [(16, 44)]) r0 rfl e
  have z : (hI o x0 44).toInt = 0 := by rw [he_s e]; rfl
  exact ⟨fun r er i hi => by rw [z] at hi; omega, fun k hk => by rw [z] at hk; omega, fbp_fr T r0 f fB44 P.2.2.1, tx_fr T r0 f ⟨fun _ => rfl, fun _ _ => rfl⟩ P.2.2.2⟩
theorem gi_none (T : TH ρ c h) (r0 : ρ x0 = 16) (P : GI x0 h) (e : o = wI h x0 44 0) : GI x0 o := by
  have f := fr1I (c := c) (A := [(16, 44)]) r0 rfl e
  obtain ⟨p1, p2, r, p3, p4⟩ := P
  refine ⟨sq_fr T r0 f (fun _ => rfl) (fun _ => rfl) (fun _ => rfl) p1, fd_none T r0 p2 e, r, by rw [e]; exact p3, ?_⟩
  rw [(fr_RI f (rr T (thR T r0 (i := 4) (k2 := 15) rfl (by decide)) p3) (by decide) (fun _ => rfl)).1]; exact p4
theorem be_58 (hF : 700000 ≤ F) : ∀ (f : Nat) {ρ : Nat → Nat} {c : Cm} {h : Hp} {x3 : Int32}, GPm c → TH ρ c h → ρ x0 = 16 → ρ b = 13 → cw c b = 3400 → GI x0 h → 0 ≤ x3.toInt → (65 - x3.toInt).toNat < f → Sat (sX15_before_58 F f h x0 b x3) (MkI ρ c (-104) 3000 (GI x0)) := by
  intro f
  induction f with
  | zero => intros; omega
  | succ f ih =>
    intro ρ c h x3 P T r0 rb wb I a3 hf
    rw [sX15_before_58]
    unfold sX15_before_108 sX15_before_84 sX15_before_97 sX15_before_108 sX15_sideOf
    have s64 := thI T r0 (k := 16) (i := 13) (lo := 9) (hi := 64) rfl
    refine s_br (fun _ => s_some ⟨ρ, c, ex_0, T, rg_m (thI T r0 (k := 16) (i := 44) (lo := 0) (hi := 3000) rfl) (by decide), I⟩) (fun n1 => ?_)
    have l3 := nle_i n1
    have i3 : Rg 0 63 x3 := ⟨a3, by have := s64.2; omega⟩
    have b3 := i3.2
    obtain ⟨r, e, q⟩ := thR T rb (i := 0) (k2 := 62) rfl (by decide)
    have gb : inB x3 (hN h r) := by rw [thN T q (k := 62) (n := 64) rfl (by decide)]; exact rg_inB i3 (by decide)
    have go : ∀ {o : Hp} {ρ1 : Nat → Nat} {c1 : Cm}, Ext ρ c ρ1 c1 → TH ρ1 c1 o → GI x0 o → Sat (nm (x3 + (1 : Int32)) fun v_1 => sX15_before_58 F f o x0 b v_1) (MkI ρ c (-104) 3000 (GI x0)) := fun {o ρ1 c1} X To Io => by
      refine s_q (fun y ey => ?_)
      have ey2 : y.toInt = x3.toInt + 1 := by rw [ey]; exact (nc_s i3 (by decide)).2
      clear ey
      exact mI_ext X (ih (gp_x X P) To (ex_r X r0 (by decide)) (ex_r X rb (by decide)) ((X.1 b (by rw [rb]; decide)).2.trans wb) Io (by omega) (by omega))
    refine s_ref e (s_gd gb ?_)
    refine s_br (fun _ => go ex_0 T I) (fun _ => ?_)
    refine s_ref e (s_gd gb ?_)
    refine s_cl (s_some ?_)
    refine s_br (fun _ => go ex_0 T I) (fun _ => ?_)
    refine s_cl (s_imp (zX15_guessesAll hF P T r0 rb wb i3 I) (fun o5 ⟨ρ5, c5, X5, T5, j5, I5⟩ => ?_))
    have r5 := ex_r X5 r0 (by decide)
    refine s_br (fun _ => ?_) (fun _ => go X5 T5 I5)
    refine s_hq (th_wI T5 r5 (k := 16) (lo := 0) (hi := 3000) rfl (rg_b rfl) (by decide) (by decide) (pm_a (gp_x X5 P).1 rfl)) (fun h6 T6 w6 => ?_)
    exact s_some ⟨ρ5, c5, X5, T6, rg_b rfl, gi_none T5 r5 I5 w6⟩
theorem zX15_before (hF : 700000 ≤ F) (P : GPm c) (T : TH ρ c h) (r0 : ρ x0 = 16) (bd : BdP x0 h) (sq : SqOk x0 h) (fd : FdP x0 h) : Sat (sX15_before F h x0 x1) (MkI ρ c (-104) 3000 (fun o => SqOk x0 o ∧ FdP x0 o)) := by
  unfold sX15_before
  refine s_dP0 (zX15_has hF T r0 (rg_top _)) (fun oo eb e ii pp => ?_)
  rw [e]
  unfold sX15_before_5 sX15_before_41
  have ex : ∀ {v : Int32}, Rg (-104) 3000 v → Sat (some (v, h)) (MkI ρ c (-104) 3000 (fun o => SqOk x0 o ∧ FdP x0 o)) := fun {v} iv => s_some ⟨ρ, c, ex_0, T, iv, sq, fd⟩
  refine s_br (fun _ => ex (rg_b rfl)) (fun nz => ?_)
  have i1 := pp nz
  obtain ⟨b, B⟩ := bk_of T r0 (hb_of T r0 bd eb nz)
  obtain ⟨rb, wb⟩ := bk_r T r0 B
  obtain ⟨r1, e1, q1⟩ := thR T r0 (i := 4) (k2 := 15) rfl (by decide)
  refine s_ref e1 ?_
  refine s_br (fun z15 => ?_) (fun _ => ex (rg_b rfl))
  refine s_ref e1 ?_
  refine s_br (fun _ => ?_) (fun _ => ex (rg_b rfl))
  refine s_ref e1 ?_
  refine s_br (fun _ => ?_) (fun _ => ex (rg_b rfl))
  refine s_hq (th_wI T r0 (k := 16) (lo := 0) (hi := 3000) rfl (rg_b rfl) (by decide) (by decide) (pm_a P.1 rfl)) (fun h6 T6 w6 => ?_)
  have I6 := gi_none T r0 ⟨sq, fd, r1, e1, z15⟩ w6
  have B6 : BK x0 x1.toNatClampNeg b h6 := by
    obtain ⟨r, s1, s2, s3⟩ := B
    have f6 := fr1I (c := c) (A := [(16, 44)]) r0 rfl w6
    exact ⟨r, by rw [w6]; exact s1, by rw [w6]; exact s2, pe_fr T rb f6 rfl rfl rfl (fun _ => rfl) (fun _ => rfl) s3⟩
  refine s_bk T6 r0 i1 B6 ?_
  have z0 : (0 : Int32).toInt = 0 := rfl
  exact s_imp (be_58 hF F P T6 r0 rb wb I6 (by decide) (by rw [z0]; omega)) (fun o ⟨ρ1, c1, X, To, j, Io⟩ => ⟨ρ1, c1, X, To, j, Io.1, Io.2.1⟩)
abbrev kpL : List (Nat × Nat) := [(84, 999), (85, 999), (16, 16)]
theorem ks_kp : KS (fS kpL [(3400, bpL)]) := ks_c bp_no (by decide) ⟨⟨fun _ => rfl, fun _ _ => rfl, fun _ => ⟨rfl, rfl, rfl, fun _ => rfl, fun _ => rfl⟩⟩, ⟨fun _ => rfl, fun _ _ => rfl⟩, ⟨fun _ => rfl, fun _ _ => rfl⟩, fun _ => rfl, fun _ => rfl, fun _ => rfl, fun _ => rfl, fun _ => rfl, fun _ => rfl, fun _ => rfl⟩
theorem zX15_beforeAt (hF : 700000 ≤ F) (hA : pmA c kpL) (h34 : pmO c 3400 bpL) (T : TH ρ c h) (r0 : ρ x0 = 16) (bd : BdP x0 h) (fd : FdP x0 h) : Sat (sX15_beforeAt F h x0 x1) (MkI ρ c (-104) 59 (fun o => BdP x0 o ∧ FdP x0 o)) := by
  unfold sX15_beforeAt sX15_beforeAt_12 sX15_beforeAt_32
  have ex : Sat (some ((-102 : Int32), h)) (MkI ρ c (-104) 59 (fun o => BdP x0 o ∧ FdP x0 o)) := s_some ⟨ρ, c, ex_0, T, rg_b rfl, bd, fd⟩
  refine s_br (fun _ => ex) (fun n1 => ?_)
  refine s_br (fun l1 => ?_) (fun _ => ex)
  have a1 : 0 ≤ x1.toInt := nlt_i n1
  have b1 := lt_i l1
  have i44 := thI T r0 (k := 16) (i := 44) (lo := 0) (hi := 3000) rfl
  have i1 : Rg 0 2999 x1 := ⟨a1, by have := i44.2; omega⟩
  have c1' := clamp_i a1
  obtain ⟨r3, e3, q3⟩ := thR T r0 (i := 40) (k2 := 95) rfl (by decide)
  refine s_ref e3 ?_
  obtain ⟨r4, e4, q4⟩ := thR T r0 (i := 42) (k2 := 97) rfl (by decide)
  refine s_ref e4 ?_
  refine s_gd (by rw [thN T q4 (k := 97) (n := 3000) rfl (by decide)]; exact rg_inB i1 (by decide)) ?_
  have iv := thI T q4 (k := 97) (i := x1.toNatClampNeg) (lo := 0) (hi := 2999) rfl
  refine s_gd (by rw [thN T q3 (k := 95) (n := 3000) rfl (by decide)]; exact rg_inB iv (by decide)) ?_
  have lv := fd.1 r4 e4 x1.toNatClampNeg (by omega)
  have cv := clamp_i iv.1
  obtain ⟨b, B⟩ := fd.2.1 (hI h r4 x1.toNatClampNeg).toNatClampNeg (by omega)
  have PB := fd.2.2.1 _ b B
  obtain ⟨rb, wb⟩ := fbo_r T r0 B
  obtain ⟨r', s1, s2⟩ := B
  have hz := r_eq e3 s1
  subst hz
  refine s_ref s2 ?_
  refine s_mI (S := fS kpL [(3400, bpL)]) (lo := -104) (hi := 59) (P := BdP x0) T (fs_sub hA (fs_c h34 fs_n)) (zX15_keep hF fs_a (pmO_s (fs_o (.head _)) rfl) rfl (th_in _ T) r0 rb bd PB) (fun o8 ρ8 c8 X8 T8 f8 j8 P8 => ?_)
  exact s_some ⟨ρ8, c8, X8, T8, j8, P8, fd_fr T r0 f8 ks_kp.1 ks_kp.2.1 ks_kp.2.2.1 ks_kp.2.2.2.1 fd⟩
end
