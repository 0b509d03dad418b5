section
variable {zq : Nat} {Bq : Nat × Nat} {ρ : Nat → Nat} {c : Cm} {h o : Hp} {x0 b g i F : Nat} {n : Int} {x1 x2 x3 x4 x5 x6 : Int32}
def FSY (zq : Nat) (Bq : Nat × Nat) (x0 g : Nat) (n : Int) (h : Hp) : Prop := (hI h x0 44).toInt = n ∧ FbE x0 (n + 1) h ∧ FbPY zq Bq x0 h ∧ TxA x0 h ∧ hR h x0 45 = some g ∧ PZ zq g h ∧ (hI h x0 3).toInt ≤ 87
theorem fs_97Y (T : TH ρ c h) (r0 : ρ x0 = 16) (f : Fr ρ (cat c (fS [(97, 999)] []) h) h o) (P : FSY zq Bq x0 g n h) (q1 : o.1 = h.1 := by first | assumption | (apply th1e <;> assumption)) : FSY zq Bq x0 g n o := by
  obtain ⟨p1, p2, p3, p4, p5, p6, p7⟩ := P
  have rg : ρ g = 13 := rr T (thR T r0 (i := 45) (k2 := 13) rfl (by decide)) p5
  refine ⟨?_, fbe_fr T r0 f fB97Y.1 fB97Y.2.1 p2, fbp_frY T r0 f fB97Y p3, tx_fr T r0 f ⟨fun _ => rfl, fun _ _ => rfl⟩ p4, ?_, pz_fr T rg f (fun _ _ => rfl) (fun _ => rfl) (fun _ => rfl) (fun _ => rfl) p6, ?_⟩
  · rw [(fr_RI f r0 (by decide) (fun _ => rfl)).1]; exact p1
  · rw [(fr_RI f r0 (by decide) (fun _ => rfl)).2.2]; exact p5
  · rw [(fr_RI f r0 (by decide) (fun _ => rfl)).1]; exact p7
theorem fd_174Y (hF : 700000 ≤ F) (hA : pmA c fdL) (hW : ∀ j, j ≤ 2999 → pmO c (11000 + j) bpL) (r0 : ρ x0 = 16) (i1 : Rg 0 256 x1) (i5 : Rg 0 1 x5) (l0 : 0 ≤ n) (ln : n < 3000) (a2 : 0 ≤ x2.toInt) : ∀ (f : Nat) {h : Hp} {x6 : Int32}, TH ρ c h → FSY zq Bq x0 g n h → x2.toInt ≤ x6.toInt → x6.toInt ≤ n → (∀ r, hR h x0 42 = some r → ∀ i : Nat, (i : Int) ≤ n → (i : Int) ≠ x6.toInt → (hI h r i).toInt < n) → x6.toInt.toNat < f → Sat (sX15_findsRoom_174 F f h x0 x1 x2 x5 x6) (fun o => TH ρ c o.2 ∧ Rg 0 1 o.1 ∧ FdPY zq Bq x0 o.2) := by
  intro f
  induction f with
  | zero => intros; omega
  | succ f ih =>
    intro h x6 T P a6 b6 O hf
    rw [sX15_findsRoom_174]
    obtain ⟨p1, p2, p3, p4, p5, p6, p7⟩ := P
    have i6 : Rg 0 2999 x6 := ⟨by omega, by omega⟩
    have i2 : Rg 0 2999 x2 := ⟨by omega, by omega⟩
    have in4 : Rg 0 2999 (hI h x0 44) := ⟨by omega, by omega⟩
    have c6 := clamp_i i6.1
    have c2 := clamp_i i2.1
    have c4 := clamp_i in4.1
    obtain ⟨r, er, qr⟩ := thR T r0 (i := 42) (k2 := 97) rfl (by decide)
    refine s_br (fun l1 => ?_) (fun n1 => ?_)
    · have l6 := le_i l1
      refine s_ref er ?_
      refine s_gd (by rw [thN T qr (k := 97) (n := 3000) rfl (by decide)]; exact rg_inB i2 (by decide)) ?_
      refine s_hq (th_wI T qr (k := 97) (lo := 0) (hi := 2999) rfl in4 (by decide) (by decide) (pm_a hA rfl)) (fun h4 T4 w4 => ?_)
      have f4 := fr1I (c := c) (A := [(97, 999)]) qr rfl w4
      obtain ⟨p1', p2', p3', p4', p5', p6', p7'⟩ := fs_97Y T r0 f4 ⟨p1, p2, p3, p4, p5, p6, p7⟩
      have O4 : ∀ r, hR h4 x0 42 = some r → ∀ i : Nat, (i : Int) ≤ n → (hI h4 r i).toInt ≤ n := fun r' er' i hi => by
        rw [w4] at er'
        have hz := r_eq er (show hR h x0 42 = some r' from er')
        subst hz
        rw [w4, r_I]
        by_cases z : i = x2.toNatClampNeg
        · rw [if_pos ⟨rfl, z⟩]; omega
        · rw [if_neg (fun y => z y.2)]
          have := O r' er i hi (by omega)
          omega
      have in4' : Rg 0 2999 (hI h4 x0 44) := ⟨by omega, by omega⟩
      have c4' := clamp_i in4'.1
      have le29 : (hI h4 x0 44).toNatClampNeg ≤ 2999 := by omega
      have lt1 : ((hI h4 x0 44).toNatClampNeg : Int) < n + 1 := by omega
      obtain ⟨r5, e5, q5⟩ := thR T4 r0 (i := 40) (k2 := 95) rfl (by decide)
      refine s_ref e5 ?_
      refine s_gd (by rw [thN T4 q5 (k := 95) (n := 3000) rfl (by decide)]; exact rg_inB in4' (by decide)) ?_
      obtain ⟨b, B⟩ := p2' (hI h4 x0 44).toNatClampNeg lt1
      obtain ⟨rb, wb⟩ := fbo_r T4 r0 B
      have B' := B
      obtain ⟨r', s1, s2⟩ := B
      have hz := r_eq e5 s1
      subst hz
      refine s_ref s2 ?_
      refine s_ref p5' ?_
      have rg : ρ g = 13 := rr T4 (thR T4 r0 (i := 45) (k2 := 13) rfl (by decide)) p5'
      have wg : cw c g = 2545 := kid_w T4 r0 (i := 45) rfl (by decide) p5'
      refine s_cVfq (S := fS [] [(11000 + (hI h4 x0 44).toNatClampNeg, bpL)]) T4 (fs_sub pmA_n (fs_c (hW _ le29) fs_n)) (s_weq (zX12_copy hF (pmO_s (fs_o (.head _)) rfl) wb wg (th_in _ T4) rb rg)) (fun o9 T9 f9 e9 => ?_)
      have z9 : ∀ k i w, mS bpL k i = false → fS [] [(11000 + (hI h4 x0 44).toNatClampNeg, bpL)] k w i = false := fun k i w m => fs_cf (Or.inl m) (by unfold fS; rfl)
      have P9 : PZ zq b o9 := ⟨pe_copy T4 rb rg p6'.1 e9, wr_copy T4 rb rg p6'.2 e9⟩
      refine fd_228Y (n := n) hA T9 r0 i1 i5 ?_ l0 ln ?_ ?_ ?_ ?_ ?_
      · rw [(fr_RI f9 r0 (by decide) (fun w => z9 _ _ w rfl)).1]; exact p1'
      · rw [(fr_RI f9 r0 (by decide) (fun w => z9 _ _ w rfl)).1]; exact p7'
      · intro r'' er'' i hi
        rw [(fr_RI f9 r0 (by decide) (fun w => z9 _ _ w rfl)).2.2] at er''
        have rr' : ρ r'' = 97 := rr T4 (thR T4 r0 (i := 42) (k2 := 97) rfl (by decide)) er''
        rw [(fr_RI f9 rr' (by decide) (fun w => z9 _ _ w rfl)).1]
        exact O4 r'' er'' i hi
      · exact fbe_fr T4 r0 f9 (fun w => z9 _ _ w rfl) (fun w i => z9 _ _ w rfl) p2'
      · refine ⟨?_, pay_k0 T4 r0 (k2 := 95) rfl (by decide) (th1e T4 T9) (fr_RI f9 r0 (by decide) (fun w => z9 _ _ w rfl)).2.2 (fun r i qr => (fr_RI f9 qr (by decide) (fun w => z9 _ _ w rfl)).2.2) p3'.2⟩
        intro k b2 B2
        have B0 := (fbo_fr T4 r0 f9 (fun w => z9 _ _ w rfl) (fun w => z9 _ _ w rfl)).mpr B2
        by_cases z : k = (hI h4 x0 44).toNatClampNeg
        · subst z
          obtain ⟨ra, t1, t2⟩ := B0
          obtain ⟨rc, t3, t4⟩ := B'
          rw [r_eq t3 t1] at t2
          rw [r_eq t4 t2]; exact P9
        · obtain ⟨k1, k2⟩ := fbo_r T4 r0 B0
          have y : ∀ kk ii, fS [] [(11000 + (hI h4 x0 44).toNatClampNeg, bpL)] kk (cw c b2) ii = false := fun kk ii => fs_cf (Or.inr (by rw [k2]; exact fun q => z (Nat.add_left_cancel q))) (by unfold fS; rfl)
          exact pz_fr T4 k1 f9 (fun _ _ => y _ _) (fun _ => y _ _) (fun _ => y _ _) (fun _ => y _ _) (p3'.1 k b2 B0)
      · exact tx_fr T4 r0 f9 ⟨fun w => z9 _ _ w rfl, fun w i => z9 _ _ w rfl⟩ p4'
    · have l6 := nle_i n1
      refine s_ref er ?_
      refine s_ref er ?_
      have ed := rg_decs i6 (by decide)
      have id : Rg 0 2999 (x6 - (1 : Int32)) := ⟨by omega, by omega⟩
      have cd := clamp_i id.1
      refine s_gd (by rw [thN T qr (k := 97) (n := 3000) rfl (by decide)]; exact rg_inB id (by decide)) ?_
      refine s_gd (by rw [thN T qr (k := 97) (n := 3000) rfl (by decide)]; exact rg_inB i6 (by decide)) ?_
      refine s_hq (th_wI T qr (k := 97) (lo := 0) (hi := 2999) rfl (thI T qr (k := 97) (lo := 0) (hi := 2999) rfl) (by decide) (by decide) (pm_a hA rfl)) (fun h4 T4 w4 => ?_)
      have f4 := fr1I (c := c) (A := [(97, 999)]) qr rfl w4
      refine s_q (fun v ev => ?_)
      have ev2 : v.toInt = x6.toInt - 1 := by rw [ev]; exact rg_dec i6 (by decide)
      clear ev
      refine ih T4 (fs_97Y T r0 f4 ⟨p1, p2, p3, p4, p5, p6, p7⟩) (by omega) (by omega) (fun r' er' i hi ni => ?_) (by omega)
      rw [w4] at er'
      have hz := r_eq er (show hR h x0 42 = some r' from er')
      subst hz
      rw [w4, r_I]
      by_cases z : i = x6.toNatClampNeg
      · rw [if_pos ⟨rfl, z⟩]
        exact O r' er _ (by omega) (by omega)
      · rw [if_neg (fun y => z y.2)]
        exact O r' er i hi (by omega)
end
