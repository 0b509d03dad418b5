section
variable {ρ : Nat → Nat} {c : Cm} {h o : Hp} {x0 b g i F s : Nat} {n : Int} {x1 x2 x3 x4 x5 x6 : Int32}
theorem cRt_0 : ∀ n, cRt 0 n = 0 := by
  intro n
  induction n with
  | zero => rfl
  | succ n ih =>
    have z : bitJ 0 n = false := by unfold bitJ; simp
    show cRt 0 n + (if bitJ 0 n then 1 else 0) = 0
    rw [ih, z]; rfl
theorem sH_z {H d : Nat} (p : ∀ j, j < 24 → (hI h H j).toInt ≤ 0) (hd : d ≤ 1) : ∀ n, n ≤ 12 → sH h H d n ≤ 0 := by
  intro n
  induction n with
  | zero => intro _; exact Int.le_refl _
  | succ n ih =>
    intro hn
    have a := ih (by omega)
    have b := p (2 * n + d) (by omega)
    show sH h H d n + _ ≤ 0
    omega
/-- what holds before a find is put in its place -/
def FR (x0 g : Nat) (n : Int) (h : Hp) : Prop := (hI h x0 44).toInt = n ∧ FdP x0 h ∧ hR h x0 45 = some g ∧ PE g h ∧ (hI h x0 3).toInt ≤ 87
theorem fd_128 {t0 : Int32} (hF : 700000 ≤ F) (hA : pmA c fdL) (hW : ∀ j, j ≤ 2999 → pmO c (11000 + j) bpL) (T : TH ρ c h) (r0 : ρ x0 = 16) (i1 : Rg 0 256 x1) (i0 : Rg 0 1 t0) (P : FR x0 g n h) (a2 : 0 ≤ x2.toInt) (b2 : x2.toInt ≤ n) (hn : x4 = 0 → ¬ t0 = 0 → n < 3000) : Sat (sX15_findsRoom_128 F h x0 x1 x2 x4 t0) (MkI ρ c 0 1 (FdP x0)) := by
  unfold sX15_findsRoom_128
  obtain ⟨p1, p2, p3, p4, p5⟩ := P
  have ex : Sat (sX15_findsRoom_280 F h x0 x1 t0) (MkI ρ c 0 1 (FdP x0)) := s_imp (fd_280 hA T r0 i1 i0 p2) (fun o ⟨a, b, d⟩ => ⟨ρ, c, ex_0, a, b, d⟩)
  refine s_br (fun z4 => s_br (fun _ => ex) (fun nz => ?_)) (fun _ => ex)
  have ln := hn z4 nz
  have i4 : Rg 0 2999 (hI h x0 44) := ⟨by omega, by omega⟩
  have c4 := clamp_i i4.1
  refine s_found (pmA_s hA rfl) T r0 i4 rfl p2.2.2.1 (fun o ρ1 c1 b X T1 f FP B kp => ?_)
  unfold sX15_findsRoom_168
  have r1 := ex_r X r0 (by decide)
  have rg : ρ g = 13 := rr T (thR T r0 (i := 45) (k2 := 13) rfl (by decide)) p3
  have e44 : hI o x0 44 = hI h x0 44 := (fr_RI f r0 (by decide) (fun _ => rfl)).1
  have E1 : FbE x0 (n + 1) o := fun k hk => by
    by_cases z : k = (hI h x0 44).toNatClampNeg
    · exact ⟨b, by rw [z]; exact B⟩
    · obtain ⟨b', B'⟩ := p2.2.1 k (by omega)
      exact ⟨b', kp k b' B'⟩
  have S1 : FS x0 g n o := ⟨by rw [e44]; exact p1, E1, FP, tx_fr T r0 f ⟨fun _ => rfl, fun _ _ => rfl⟩ p2.2.2.2, by rw [(fr_RI f r0 (by decide) (fun _ => rfl)).2.2]; exact p3, pe_fr T rg f rfl rfl rfl (fun _ => rfl) (fun _ => rfl) p4, by rw [(fr_RI f r0 (by decide) (fun _ => rfl)).1]; exact p5⟩
  refine s_q (fun v ev => ?_)
  have ev2 : v.toInt = n := by rw [ev, e44]; exact p1
  clear ev
  have O1 := or_fr T r0 f ⟨fun _ => rfl, fun _ _ => rfl⟩ (fun _ => rfl) p2.1
  have n1 : (hI o x0 44).toInt = n := S1.1
  refine s_imp (fd_174 hF (fun w k i m => ex_p X (hA w k i m)) (fun j hj k i m => ex_p X (hW j hj k i m)) r1 i1 i0 (by omega) ln a2 F T1 S1 (by omega) (by omega) (fun r er i hi ni => ?_) (by omega)) (fun q ⟨a, b, d⟩ => ⟨ρ1, c1, X, a, b, d⟩)
  have := O1 r er i (by omega)
  omega
theorem fd_108 (hF : 700000 ≤ F) (hA : pmA c fdL) (hW : ∀ j, j ≤ 2999 → pmO c (11000 + j) bpL) (T : TH ρ c h) (r0 : ρ x0 = 16) (i1 : Rg 0 256 x1) (P : FR x0 g n h) (a2 : 0 ≤ x2.toInt) (b2 : x2.toInt ≤ n) : Sat (sX15_findsRoom_108 F h x0 x1 x2 x4) (MkI ρ c 0 1 (FdP x0)) := by
  unfold sX15_findsRoom_108 sX15_findsRoom_123
  have p1 := P.1
  refine s_br (fun _ => s_br (fun _ => ?_) (fun n1 => ?_)) (fun n4 => ?_)
  · exact fd_128 hF hA hW T r0 i1 (rg_b rfl) P a2 b2 (fun _ z => absurd rfl z)
  · have l3 : (hI h x0 44).toInt < 3000 := nle_i n1
    exact fd_128 hF hA hW T r0 i1 (rg_b rfl) P a2 b2 (fun _ _ => by omega)
  · exact fd_128 hF hA hW T r0 i1 (rg_b rfl) P a2 b2 (fun z _ => absurd z n4)
theorem fd_42 (hF : 700000 ≤ F) (hA : pmA c fdL) (hW : ∀ j, j ≤ 2999 → pmO c (11000 + j) bpL) (T : TH ρ c h) (r0 : ρ x0 = 16) (i1 : Rg 0 256 x1) (P : FR x0 g n h) : ∀ (f : Nat) {x2 x3 x4 : Int32}, 0 ≤ x2.toInt → x2.toInt ≤ x3.toInt → x3.toInt ≤ n → 0 < f → (x4 = 0 → (x3.toInt - x2.toInt).toNat + 1 < f) → Sat (sX15_findsRoom_42 F f h x0 x1 x2 x3 x4) (MkI ρ c 0 1 (FdP x0)) := by
  intro f
  induction f with
  | zero => intros; omega
  | succ f ih =>
    intro x2 x3 x4 a2 b2 b3 _ hf
    rw [sX15_findsRoom_42]
    unfold sX15_findsRoom_70 sX15_findsRoom_82 sX15_findsRoom_105
    have ex : Sat (sX15_findsRoom_108 F h x0 x1 x2 x4) (MkI ρ c 0 1 (FdP x0)) := fd_108 hF hA hW T r0 i1 P a2 (by omega)
    have in4 := thI T r0 (k := 16) (i := 44) (lo := 0) (hi := 3000) rfl
    have p1 := P.1
    have n3 : n ≤ 3000 := by have := in4.2; omega
    refine s_br (fun _ => ex) (fun n1 => ?_)
    have l3 := nle_i n1
    refine s_br (fun z4 => ?_) (fun _ => ex)
    have hf' := hf z4
    refine s_q (fun v ev => ?_)
    have i23 : Rg 0 6000 (x2 + x3) := ⟨by rw [ta ⟨by omega, by omega⟩]; omega, by rw [ta ⟨by omega, by omega⟩]; omega⟩
    have e23 : (x2 + x3).toInt = x2.toInt + x3.toInt := ta ⟨by omega, by omega⟩
    have ev2 : v.toInt = (x2.toInt + x3.toInt) / 2 := by
      rw [ev, td i23 (rg_b rfl : Rg 2 2 (2 : Int32)) (by decide), e23]; rfl
    clear ev
    have iv : Rg 0 2999 v := ⟨by omega, by omega⟩
    obtain ⟨r, er, qr⟩ := thR T r0 (i := 42) (k2 := 97) rfl (by decide)
    refine s_ref er ?_
    refine s_gd (by rw [thN T qr (k := 97) (n := 3000) rfl (by decide)]; exact rg_inB iv (by decide)) ?_
    have ik := thI T qr (k := 97) (i := v.toNatClampNeg) (lo := 0) (hi := 2999) rfl
    have tl : TxL x0 (hI h r v.toNatClampNeg) h := fun r' er' => by
      have ck := clamp_i ik.1
      have e96 : (96 : Int32).toInt = 96 := rfl
      have em : ((96 : Int32) * (hI h r v.toNatClampNeg)).toInt = 96 * (hI h r v.toNatClampNeg).toInt := by rw [tm (by rw [e96]; have := ik.1; have := ik.2; omega), e96]
      have cm := clamp_i (v := (96 : Int32) * (hI h r v.toNatClampNeg)) (by rw [em]; have := ik.1; omega)
      have en : ((96 : Int32) * (hI h r v.toNatClampNeg)).toNatClampNeg = 96 * (hI h r v.toNatClampNeg).toNatClampNeg := by omega
      rw [en]
      exact P.2.1.2.2.2 r' er' _ (by have := ik.2; omega)
    refine s_cI0 (zX15_compare hF T r0 ik tl) (fun o6 e6 j6 => ?_)
    rw [show o6.2 = h from e6]
    have go : ∀ {t : Int32}, (t = 0 → ¬ o6.1 = 0) → Sat (br (0 ≤ o6.1) (br (o6.1 ≤ 0) (sX15_findsRoom_42 F f h x0 x1 x2 x3 t) (nm (v + (1 : Int32)) fun v_3 => sX15_findsRoom_42 F f h x0 x1 v_3 x3 t)) (sX15_findsRoom_42 F f h x0 x1 x2 v t)) (MkI ρ c 0 1 (FdP x0)) := fun {t} ht => by
      refine s_br (fun g1 => s_br (fun g2 => ?_) (fun g2 => ?_)) (fun g1 => ?_)
      · have q1 : 0 ≤ o6.1.toInt := le_i g1
        have q2 : o6.1.toInt ≤ 0 := le_i g2
        have q0 : o6.1 = 0 := Int32.toInt_inj.mp (by show o6.1.toInt = 0; omega)
        exact ih a2 b2 b3 (by omega) (fun z => absurd q0 (ht z))
      · refine s_q (fun y ey => ?_)
        have ey2 : y.toInt = v.toInt + 1 := by rw [ey]; exact (nc_s iv (by decide)).2
        clear ey
        exact ih (by omega) (by omega) b3 (by omega) (fun z => by omega)
      · exact ih a2 (by omega) (by omega) (by omega) (fun z => by omega)
    exact s_br (fun _ => go (fun z => absurd z (by decide))) (fun nz => go (fun _ => nz))
/-- a guess: no rights, no passes, nobody in hand -/
def GZ (x0 g : Nat) (h : Hp) : Prop := hR h x0 45 = some g ∧ hJ h g 2 = 0 ∧ hI h g 3 = 0 ∧ ∀ H, hR h g 5 = some H → ∀ j : Nat, j < 24 → (hI h H j).toInt ≤ 0
theorem zX15_findsRoom (hF : 700000 ≤ F) (hA : pmA c fdL) (hW : ∀ j, j ≤ 2999 → pmO c (11000 + j) bpL) (T : TH ρ c h) (r0 : ρ x0 = 16) (P : FdP x0 h) (G : GZ x0 g h) : Sat (sX15_findsRoom F h x0) (MkI ρ c 0 1 (FdP x0)) := by
  unfold sX15_findsRoom sX15_findsRoom_19 sX15_findsRoom_32
  refine s_q (fun v ev => ?_)
  have iv : Rg 0 256 v := by rw [ev]; exact thI T r0 (k := 16) (i := 3) (lo := 0) (hi := 256) rfl
  clear ev
  obtain ⟨r2, e2, q2⟩ := thR T r0 (i := 2) (k2 := 83) rfl (by decide)
  refine s_ref e2 ?_
  obtain ⟨r1, e1, q1⟩ := thR T r0 (i := 43) (k2 := 98) rfl (by decide)
  refine s_ref e1 ?_
  refine s_gd (by decide) (s_gd (by decide) (s_gd (rg_nneg iv (by decide)) ?_))
  refine s_gd (g_len (rg_b rfl : Rg (0) (0) ((0 : Int32))) iv (thN T q2 (k := 83) (n := 256) rfl (by decide)) (by decide)) ?_
  refine s_gd (g_len (rg_b rfl : Rg (0) (0) ((0 : Int32))) iv (thN T q1 (k := 98) (n := 256) rfl (by decide)) (by decide)) ?_
  refine s_gd (fun i _ => fits_b (rg_m (thI T q2 (k := 83) (lo := (-128)) (hi := (127)) rfl) (by decide))) ?_
  refine s_hq (th_cpI T q2 q1 (k0 := 83) (k := 98) (lo0 := (-128)) (hi0 := (127)) (lo := (-128)) (hi := (127)) (fun _ => rfl) (fun _ => rfl) (by decide) (by decide) (by decide) (fun _ => (pm_a hA rfl))) (fun h3 T3 w3 => ?_)
  have f3 := fr1C (c := c) (A := [(98, 999)]) q1 rfl w3
  refine s_hq (th_wI T3 r0 (k := 16) (lo := (0)) (hi := (256)) rfl (rg_b rfl) (by decide) (by decide) (pm_a hA rfl)) (fun h4 T4 w4 => ?_)
  have f4 := fr1I (c := c) (A := [(16, 3)]) r0 rfl w4
  obtain ⟨g1, g2, g3, g4⟩ := G
  have rg : ρ g = 13 := rr T (thR T r0 (i := 45) (k2 := 13) rfl (by decide)) g1
  have P3 := fd_fr T r0 f3 fB98 ⟨fun _ => rfl, fun _ _ => rfl⟩ ⟨fun _ => rfl, fun _ _ => rfl⟩ (fun _ => rfl) P
  have P4 := fd_fr T3 r0 f4 ⟨fun _ => rfl, fun _ _ => rfl, fun _ => ⟨rfl, rfl, rfl, fun _ => rfl, fun _ => rfl⟩⟩ ⟨fun _ => rfl, fun _ _ => rfl⟩ ⟨fun _ => rfl, fun _ _ => rfl⟩ (fun _ => rfl) P3
  have g1' : hR h4 x0 45 = some g := by rw [(fr_RI f4 r0 (by decide) (fun _ => rfl)).2.2, (fr_RI f3 r0 (by decide) (fun _ => rfl)).2.2]; exact g1
  have g2' : hJ h4 g 2 = 0 := by rw [(fr_RI f4 rg (by decide) (fun _ => rfl)).2.1, (fr_RI f3 rg (by decide) (fun _ => rfl)).2.1]; exact g2
  have g3' : hI h4 g 3 = 0 := by rw [(fr_RI f4 rg (by decide) (fun _ => rfl)).1, (fr_RI f3 rg (by decide) (fun _ => rfl)).1]; exact g3
  have g4' : ∀ H, hR h4 g 5 = some H → ∀ j : Nat, j < 24 → (hI h4 H j).toInt ≤ 0 := fun H eH j hj => by
    rw [(fr_RI f4 rg (by decide) (fun _ => rfl)).2.2, (fr_RI f3 rg (by decide) (fun _ => rfl)).2.2] at eH
    have rH : ρ H = 64 := rr T (thR T rg (i := 5) (k2 := 64) rfl (by decide)) eH
    rw [(fr_RI f4 rH (by decide) (fun _ => rfl)).1, (fr_RI f3 rH (by decide) (fun _ => rfl)).1]
    exact g4 H eH j hj
  refine s_ref g1' ?_
  obtain ⟨H, eH, qH⟩ := thR T4 rg (i := 5) (k2 := 64) rfl (by decide)
  have z0 := sH_z (g4' H eH) (Nat.zero_le 1) 12 (Nat.le_refl _)
  have z1 := sH_z (g4' H eH) (Nat.le_refl 1) 12 (Nat.le_refl _)
  have o0 : (hI h4 x0 3).toInt = 0 := by rw [he_s w4]; rfl
  have zz : (0 : Int32).toInt = 0 := rfl
  refine s_cVfq (S := wrF) (P := fun o => (hI o x0 3).toInt ≤ 87) T4 (fs_sub (pmA_s hA rfl) fs_n) (zX15_writeAll (s := 64) (v := 87) hF fs_a (th_in _ T4) r0 rg (by decide) (by rw [o0]; decide) (Nat.le_refl _) (thI T4 r0 (k := 16) (i := 13) (lo := 9) (hi := 64) rfl).2 eH (by rw [o0, g2', g3', cRt_0, zz]; omega)) (fun o5 T5 f5 u5 => ?_)
  have P5 := fd_fr T4 r0 f5 fB83 ⟨fun _ => rfl, fun _ _ => rfl⟩ ⟨fun _ => rfl, fun _ _ => rfl⟩ (fun _ => rfl) P4
  have R5 : FR x0 g (hI o5 x0 44).toInt o5 := ⟨rfl, P5, by rw [(fr_RI f5 r0 (by decide) (fun _ => rfl)).2.2]; exact g1', pe_0 (by rw [(fr_RI f5 rg (by decide) (fun _ => rfl)).1, g3']; rfl), u5⟩
  have i44 := thI T5 r0 (k := 16) (i := 44) (lo := 0) (hi := 3000) rfl
  refine s_q (fun y ey => ?_)
  have ey2 : y.toInt = (hI o5 x0 44).toInt := by rw [ey]
  clear ey
  exact fd_42 hF hA hW T5 r0 iv R5 F (by decide) (by rw [zz, ey2]; exact i44.1) (by omega) (by omega) (fun _ => by rw [zz]; have := i44.2; omega)
end
