/-! beforeAt and write of the reference -/
section
variable {zq : Nat} {Bq Bk : Nat × Nat} {ρ : Nat → Nat} {c : Cm} {h o : Hp} {S : Nat → Nat → Nat → Bool} {x0 b g w i F : Nat} {n : Int} {x1 x2 x3 : Int32}
/-- found boards over calls that make other things -/
theorem fdy_ex (T : TH ρ c h) (r0 : ρ x0 = 16) (f : Fr ρ (cat c S h) h o) (s : fdBY S) (s2 : fdO S) (s3 : fdT S) (s4 : ∀ w, S 16 w 44 = false) (P : FdPY zq Bq x0 h) : ∃ B, FdPY zq B x0 o := by
  obtain ⟨r, er, qr⟩ := thR T r0 (i := 40) (k2 := 95) rfl (by decide)
  have er' : hR o x0 40 = some r := by rw [(fr_RI f r0 (by decide) s.1).2.2]; exact er
  refine ⟨(o.1.1 + 5 * nuC o r 3000, o.1.2 + 162 * nuC o r 3000), or_fr T r0 f s2 s4 P.1, by rw [(fr_RI f r0 (by decide) s4).1]; exact fbe_fr T r0 f s.1 s.2.1 P.2.1, ⟨fun k b B => ?_, fun r' e' => ?_⟩, tx_fr T r0 f s3 P.2.2.2⟩
  · have B0 := (fbo_fr T r0 f s.1 (fun w => s.2.1 w k)).mpr B
    obtain ⟨k1, k2⟩ := fbo_r T r0 B0
    obtain ⟨a1, a2, a3, a4⟩ := s.2.2 k
    exact pz_fr T k1 f (fun i hi => by rw [k2]; exact a1 i hi) (fun i => by rw [k2]; exact a2 i) (fun i => by rw [k2]; exact a3 i) (fun i => by rw [k2]; exact a4 i) (P.2.2.1.1 k b B0)
  · have : r' = r := r_eq er' e'
    subst this
    exact ⟨Nat.le_refl _, Nat.le_refl _⟩
theorem beforeAt_w (hF : 700000 ≤ F) (hA : pmA c kpL) (h34 : pmO c 3400 bpL) (T : TH ρ c h) (r0 : ρ x0 = 16) (bd : BdY zq Bk x0 h) (fd : FdPY zq Bq x0 h) : Sat (sX15_beforeAt F h x0 x1) (MkI ρ c (-104) 59 (fun o => BdY zq Bk x0 o ∧ ∃ B, FdPY zq B x0 o)) := by
  unfold sX15_beforeAt sX15_beforeAt_12 sX15_beforeAt_32
  have ex : Sat (some ((-102 : Int32), h)) (MkI ρ c (-104) 59 (fun o => BdY zq Bk x0 o ∧ ∃ B, FdPY zq B x0 o)) := s_some ⟨ρ, c, ex_0, T, rg_b rfl, bd, Bq, fd⟩
  refine s_br (fun _ => ex) (fun n1 => ?_)
  refine s_br (fun l1 => ?_) (fun _ => ex)
  have a1 : 0 ≤ x1.toInt := nlt_i n1
  have b1 := lt_i l1
  have i44 := thI T r0 (k := 16) (i := 44) (lo := 0) (hi := 3000) rfl
  have i1 : Rg 0 2999 x1 := ⟨a1, by have := i44.2; omega⟩
  have c1' := clamp_i a1
  obtain ⟨r3, e3, q3⟩ := thR T r0 (i := 40) (k2 := 95) rfl (by decide)
  refine s_ref e3 ?_
  obtain ⟨r4, e4, q4⟩ := thR T r0 (i := 42) (k2 := 97) rfl (by decide)
  refine s_ref e4 ?_
  refine s_gd (by rw [thN T q4 (k := 97) (n := 3000) rfl (by decide)]; exact rg_inB i1 (by decide)) ?_
  have iv := thI T q4 (k := 97) (i := x1.toNatClampNeg) (lo := 0) (hi := 2999) rfl
  refine s_gd (by rw [thN T q3 (k := 95) (n := 3000) rfl (by decide)]; exact rg_inB iv (by decide)) ?_
  have lv := fd.1 r4 e4 x1.toNatClampNeg (by omega)
  have cv := clamp_i iv.1
  obtain ⟨b, B⟩ := fd.2.1 (hI h r4 x1.toNatClampNeg).toNatClampNeg (by omega)
  have PB := fd.2.2.1.1 _ b B
  obtain ⟨rb, wb⟩ := fbo_r T r0 B
  obtain ⟨r', s1, s2⟩ := B
  have hz := r_eq e3 s1
  subst hz
  refine s_ref s2 ?_
  refine s_mI (S := fS kpL [(3400, bpL)]) (lo := -104) (hi := 59) (P := BdY zq Bk x0) T (fs_sub hA (fs_c h34 fs_n)) (keep_y hF fs_a (pmO_s (fs_o (.head _)) rfl) rfl (th_in _ T) r0 rb bd PB) (fun o8 ρ8 c8 X8 T8 f8 j8 P8 => ?_)
  exact s_some ⟨ρ8, c8, X8, T8, j8, P8, fdy_ex T r0 f8 ks_kpY.1 ks_kpY.2.1 ks_kpY.2.2.1 ks_kpY.2.2.2.1 fd⟩
/-- write: at most 256 letters -/
theorem write_w (hF : 700000 ≤ F) (hA : pmA c [(83, 999), (16, 3)]) (T : TH ρ c h) (r0 : ρ x0 = 16) (bd : BdY zq Bk x0 h) (hz : zq = 64) : Sat (sX15_write F h x0 x1) (ZI ρ c (-102) 256) := by
  unfold sX15_write
  refine s_dP0 (zX15_has hF T r0 (rg_top _)) (fun o1 eb1 e1 ii1 pp1 => ?_)
  rw [e1]
  refine s_br (fun _ => s_some ⟨T, rg_b rfl⟩) (fun nz => ?_)
  have i1 := pp1 nz
  obtain ⟨b, BKb, PZb⟩ := bw_of T r0 bd eb1 nz
  obtain ⟨kb, wb'⟩ := bk_r T r0 BKb
  refine s_hq (th_wI T r0 (k := 16) (lo := (0)) (hi := (256)) rfl (rg_b rfl) (by decide) (by decide) (pm_a hA rfl)) (fun h3 T3 w3 => ?_)
  have f3 := fr1I (c := c) (A := [(16, 3)]) r0 rfl w3
  have BK3 : BK x0 x1.toNatClampNeg b h3 := by
    obtain ⟨r, s1, s2, s3⟩ := BKb
    exact ⟨r, by rw [w3]; exact s1, by rw [w3]; exact s2, pe_fr T kb f3 rfl rfl rfl (fun _ => rfl) (fun _ => rfl) s3⟩
  have W3 : WrE zq b h3 := wr_fr T kb f3 (fun _ _ => rfl) (fun _ => rfl) (fun _ => rfl) (fun _ => rfl) PZb.2
  refine s_bk T3 r0 i1 BK3 ?_
  obtain ⟨H, eH, qH⟩ := thR T3 kb (i := 5) (k2 := 64) rfl (by decide)
  obtain ⟨M, eM, qM⟩ := thR T3 kb (i := 0) (k2 := 62) rfl (by decide)
  have o0 : (hI h3 x0 3).toInt = 0 := by rw [he_s w3]; rfl
  have k13 : hI h3 x0 13 = hI h x0 13 := (fr_RI f3 r0 (by decide) (fun _ => rfl)).1
  have i13 := thI T3 r0 (k := 16) (i := 13) (lo := 9) (hi := 64) rfl
  have c13 := nc_i (x := hI h3 x0 13) (by have := i13.1; omega)
  rw [k13] at c13 i13
  obtain ⟨t1, t2, t3, _⟩ := W3
  have tt := t1 M H eM eH
  have m0 := mc_0 (hI h3 M) 64
  unfold tot at tt
  have i132 := i13.2
  refine s_cl (s_imp (zX15_writeAll (s := zq) (v := 256) hF hA T3 r0 kb (by decide) (by rw [o0]; decide) (by omega) (by rw [k13, hz]; exact i132) eH (by rw [o0]; omega)) (fun o7 w7 => ?_))
  exact s_some ⟨w7.1, by have := (thI w7.1 r0 (k := 16) (i := 3) (lo := 0) (hi := 256) rfl).1; show -102 ≤ (hI o7 x0 3).toInt; omega, w7.2⟩
end
