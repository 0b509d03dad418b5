/-! going back: takeBack, goBack, countAll -/
def EnW (x0 b wy ks st pw ro L : Nat) (sq : Int) (h : Hp) : Prop := (hR h x0 0 = some L ∧ hR h x0 1 = some wy ∧ hR h x0 3 = some b ∧ hR h x0 4 = some ks ∧ hR h x0 5 = some st ∧ hR h x0 6 = some pw ∧ hR h x0 7 = some ro) ∧ (∀ i : Nat, i ≤ 5 → (hI h pw i).toInt = sq ^ i) ∧ StP x0 ks pw st h ∧ FmX wy sq h ∧ LenP x0 h ∧ (hI h L 2).toInt = sq ∧ sq ≤ 64 ∧ EvP x0 h
abbrev GBL : List (Nat × Nat) := [(23, 999), (1, 8), (24, 999), (25, 999), (26, 999), (1, 16), (1, 17), (34, 999), (35, 999), (36, 999), (4, 7), (4, 5), (1, 10), (1, 15)]
section
variable {ρ : Nat → Nat} {c : Cm} {h o : Hp} {x0 b wy ks st pw ro L F : Nat} {sq : Int} {x1 x2 x3 : Int32}
theorem enw_k {E : List (Nat × Nat)} (T : TH ρ c h) (r0 : ρ x0 = 1) (K : Kf ρ E h o) (N : ∀ a, ρ a ≠ 0 → hN o a = hN h a) (e : sS E GBL = true) (W : EnW x0 b wy ks st pw ro L sq h) : EnW x0 b wy ks st pw ro L sq o := by
  obtain ⟨⟨e0, e1, e3, e4, e5, e6, e7⟩, Pw, S, Fm, Ln, eL, s64, Ev⟩ := W
  have K := kf_m K e
  have rL : ρ L = 2 := rr T (thR T r0 (i := 0) (k2 := 2) rfl (by decide)) e0
  have qw : ρ wy = 11 := rr T (thR T r0 (i := 1) (k2 := 11) rfl (by decide)) e1
  have qk : ρ ks = 20 := rr T (thR T r0 (i := 4) (k2 := 20) rfl (by decide)) e4
  have qs : ρ st = 21 := rr T (thR T r0 (i := 5) (k2 := 21) rfl (by decide)) e5
  have qp : ρ pw = 22 := rr T (thR T r0 (i := 6) (k2 := 22) rfl (by decide)) e6
  refine ⟨⟨by rw [kfR 0 K r0]; exact e0, by rw [kfR 1 K r0]; exact e1, by rw [kfR 3 K r0]; exact e3, by rw [kfR 4 K r0]; exact e4, by rw [kfR 5 K r0]; exact e5, by rw [kfR 6 K r0]; exact e6, by rw [kfR 7 K r0]; exact e7⟩, fun i hi => by rw [kfI i K qp]; exact Pw i hi, stp_k T r0 qk qp qs K (P := S), fmx_k T qw K (P := Fm), fun i a hi ea => ?_, by rw [kfI 2 K rL]; exact eL, s64, evp_k T r0 K (P := Ev)⟩
  have q : ∀ j k2, mS GBL 1 j = false → rfK 1 j = k2 → k2 ≠ 0 → hR o x0 j = some a → hR h x0 j = some a ∧ ρ a ≠ 0 := fun j k2 hm hk h0 ej => by
    rw [kfR j K r0 (by decide) hm] at ej
    exact ⟨ej, by rw [rr T (thR T r0 (i := j) (k2 := k2) hk h0) ej]; exact h0⟩
  have z : hR h x0 i = some a ∧ ρ a ≠ 0 := by
    rcases hi with w | w | w <;> subst w
    · exact q 11 24 rfl rfl (by decide) ea
    · exact q 12 25 rfl rfl (by decide) ea
    · exact q 13 26 rfl rfl (by decide) ea
  rw [N a z.2]
  exact Ln i a hi z.1
theorem enw_f {A : List (Nat × Nat)} {Lo : List (Nat × List (Nat × Nat))} (T : TH ρ c h) (r0 : ρ x0 = 1) (f : Fr ρ (cat c (fS A Lo) h) h o) (e : (sS A GBL && Lo.all fun p => sS p.2 GBL) = true) (W : EnW x0 b wy ks st pw ro L sq h) : EnW x0 b wy ks st pw ro L sq o := enw_k T r0 (kf_of f e) f.2 rfl W
theorem tb_q (hF : 700000 ≤ F) (hA : pmA c TBL) (T : TH ρ c h) (r0 : ρ x0 = 1) (W : EnW x0 b wy ks st pw ro L sq h) (B : PoS sq b h) (s1 : 1 ≤ sq) (i1 : Rg 0 63 x1) (i2 : Rg 0 23 x2) : Sat (sX0_takeBack F h x0 x1 x2) (ZV ρ c) := by
  have one : ∀ {g : Hp} {y : Int32}, TH ρ c g → EnW x0 b wy ks st pw ro L sq g → PoS sq b g → Rg (-1) 23 y → ∀ {k : Hp → Option Hp}, (∀ g2, TH ρ c g2 → EnW x0 b wy ks st pw ro L sq g2 → PoS sq b g2 → Sat (k g2) (ZV ρ c)) → Sat (cl (sX0_takeBackTaking F g x0 x1 x2 y) k) (ZV ρ c) := fun {g y} Tg Wg Bg iy {k} H => by
    obtain ⟨⟨e0, e1, e3, e4, e5, e6, e7⟩, Pw, S, Fm, Ln, eL, s64, Ev⟩ := Wg
    refine s_cVf (S := fS TBL []) Tg (fs_sub (pmA_s hA rfl) fs_n) (tbt_q hF fs_a (th_in _ Tg) r0 e1 e3 e4 e5 e6 e7 i1 i2 iy Ln s1 s64 Pw S Bg Fm) (fun g2 T2 f2 => ?_)
    exact H g2 T2 (enw_f Tg r0 f2 rfl ⟨⟨e0, e1, e3, e4, e5, e6, e7⟩, Pw, S, Fm, Ln, eL, s64, Ev⟩) (pos_k Tg (rr Tg (thR Tg r0 (i := 3) (k2 := 4) rfl (by decide)) e3) (kf_of (E := TBL) f2 rfl) (P := Bg))
  unfold sX0_takeBack
  refine one T W B (rg_m (rg_b rfl : Rg (-1) (-1) (-1 : Int32)) (by decide)) (fun g T1 W1 B1 => ?_)
  have e3 := W1.1.2.2.1
  refine s_ref e3 ?_
  refine s_dJ0 (zX3_occupied hF T1 (rr T1 (thR T1 r0 (i := 3) (k2 := 4) rfl (by decide)) e3)) (fun o3 _ q3 => ?_)
  rw [q3]
  refine s_cl (s_imp (zJ13_bitCount_95d88 hF T1) (fun o4 Z4 => ?_))
  rw [Z4.1]
  refine s_cl (s_imp (zX0_sizeOf hF T1 (thI T1 r0 (k := 1) (i := 15) rfl)) (fun o5 Z5 => ?_))
  rw [Z5.1]
  have lp : ∀ (f : Nat) {g : Hp} {x3 : Int32}, TH ρ c g → EnW x0 b wy ks st pw ro L sq g → PoS sq b g → 0 ≤ x3.toInt → (13 - x3.toInt).toNat < f → Sat (sX0_takeBack_30 F f g x0 x1 x2 x3) (ZV ρ c) := by
    intro f
    induction f with
    | zero => intros; omega
    | succ f ih =>
      intro g x3 Tg Wg Bg a3 hf
      rw [sX0_takeBack_30]
      unfold sX0_takeBack_67
      have e0 := Wg.1.1
      have rL : ρ L = 2 := rr Tg (thR Tg r0 (i := 0) (k2 := 2) rfl (by decide)) e0
      refine s_ref e0 ?_
      refine s_br (fun _ => s_some Tg) (fun l => ?_)
      have l := nle_i l
      have im := thI Tg rL (k := 2) (i := 3) (lo := 0) (hi := 12) rfl
      have := im.2
      have i3 : Rg 0 11 x3 := ⟨a3, by omega⟩
      have ny := nc_s i3 (by decide)
      have nx : ∀ {g2 : Hp}, TH ρ c g2 → EnW x0 b wy ks st pw ro L sq g2 → PoS sq b g2 → Sat (nm (x3 + (1 : Int32)) fun v_1 => sX0_takeBack_30 F f g2 x0 x1 x2 v_1) (ZV ρ c) := fun T2 W2 B2 => by
        refine s_q (fun y ey => ?_)
        have ty : y.toInt = x3.toInt + 1 := by rw [ey]; exact ny.2
        clear ey
        exact ih T2 W2 B2 (by omega) (by omega)
      refine s_ref e0 ?_
      refine s_br (fun _ => nx Tg Wg Bg) (fun _ => ?_)
      have ic : Rg 0 1 (x2 &&& (1 : Int32)) := rg_and (rg_b rfl : Rg 1 1 (1 : Int32)) (by decide)
      have ic0 := ic.1
      have ic1 := ic.2
      have z2 : (2 : Int32).toInt = 2 := rfl
      have z1 : (1 : Int32).toInt = 1 := rfl
      have t1 : ((2 : Int32) * x3).toInt = 2 * x3.toInt := by rw [tm (by rw [z2]; omega), z2]
      have t2 : (((2 : Int32) * x3) + (1 : Int32)).toInt = 2 * x3.toInt + 1 := by rw [ta (by rw [t1, z1]; omega), t1, z1]
      have t3 : ((((2 : Int32) * x3) + (1 : Int32)) - (x2 &&& (1 : Int32))).toInt = 2 * x3.toInt + 1 - (x2 &&& (1 : Int32)).toInt := by rw [ts (by rw [t2]; omega), t2]
      have := i3.2
      exact one Tg Wg Bg ⟨by omega, by omega⟩ (fun g2 T2 W2 B2 => nx T2 W2 B2)
  refine s_br (fun _ => lp F T1 W1 B1 (by decide) (by show (13 - 0 : Int).toNat < F; omega)) (fun _ => s_some T1)
theorem gb_q (hF : 700000 ≤ F) (hA : pmA c TBL) (T : TH ρ c h) (r0 : ρ x0 = 1) (W : EnW x0 b wy ks st pw ro L sq h) (B : PoS sq b h) (i1 : Rg 0 1 x1) : Sat (sX0_goBack F h x0 x1) (ZV ρ c) := by
  have e0 := W.1.1
  have e3 := W.1.2.2.1
  have rL : ρ L = 2 := rr T (thR T r0 (i := 0) (k2 := 2) rfl (by decide)) e0
  have rb : ρ b = 4 := rr T (thR T r0 (i := 3) (k2 := 4) rfl (by decide)) e3
  have one : ∀ {g : Hp} {y z : Int32}, 1 ≤ sq → TH ρ c g → EnW x0 b wy ks st pw ro L sq g → PoS sq b g → Rg 0 63 y → Rg 0 23 z → ∀ {k : Hp → Option Hp}, (∀ g2, TH ρ c g2 → EnW x0 b wy ks st pw ro L sq g2 → PoS sq b g2 → Kf ρ TBL g g2 → Sat (k g2) (ZV ρ c)) → Sat (cl (sX0_takeBack F g x0 y z) k) (ZV ρ c) := fun {g y z} s1 Tg Wg Bg iy iz {k} H => by
    refine s_cVf (S := fS TBL []) Tg (fs_sub (pmA_s hA rfl) fs_n) (tb_q hF fs_a (th_in _ Tg) r0 Wg Bg s1 iy iz) (fun g2 T2 f2 => ?_)
    exact H g2 T2 (enw_f Tg r0 f2 rfl Wg) (pos_k Tg rb (kf_of (E := TBL) f2 rfl) (P := Bg)) (kf_of f2 rfl)
  unfold sX0_goBack
  refine s_q (fun v1 e1 => ?_)
  have z1 : (1 : Int32).toInt = 1 := rfl
  have i10 := i1.1
  have i11 := i1.2
  have t1 : v1.toInt = 1 - x1.toInt := by rw [e1, ts (by rw [z1]; omega), z1]
  have iv : Rg 0 1 v1 := ⟨by omega, by omega⟩
  clear e1
  have c1 := clamp_i iv.1
  have b31 : ∀ {g : Hp}, g = h → Sat (sX0_goBack_31 F g x0 v1) (ZV ρ c) := fun eg => by
    rw [eg]
    unfold sX0_goBack_31
    refine s_ref e3 ?_
    obtain ⟨of, ef, qf⟩ := thR T rb (i := 1) (k2 := 35) rfl (by decide)
    refine s_ref ef ?_
    refine s_gd (by rw [thN T qf (k := 35) (n := 2) rfl (by decide)]; exact rg_inB iv (by decide)) ?_
    refine s_q (fun v4 e4 => ?_)
    have lp : ∀ (f : Nat) {g : Hp} {x3 : Int64} {x5 : Int32}, TH ρ c g → EnW x0 b wy ks st pw ro L sq g → PoS sq b g → BtS sq x3 → PosM b x3 g → 0 ≤ x5.toInt → (65 - x5.toInt).toNat < f → Sat (sX0_goBack_44 F f g x0 v1 x3 x5) (ZV ρ c) := by
      intro f
      induction f with
      | zero => intros; omega
      | succ f ih =>
        intro g x3 x5 Tg Wg Bg B3 M3 a5 hf
        rw [sX0_goBack_44]
        unfold sX0_goBack_157
        have z64 : (64 : Int32).toInt = 64 := rfl
        refine s_br (fun _ => s_some Tg) (fun l => ?_)
        have l := nle_i l
        refine s_br (fun _ => s_some Tg) (fun nz => ?_)
        refine s_dI0 (zX11_lowest hF Tg) (fun o3 eb3 q3 i3 => ?_)
        have c3 := clamp_i i3.1
        have j30 := i3.1
        have j31 := i3.2
        have s1 : 1 ≤ sq := by have := B3 o3.1.toNatClampNeg (by omega) (low_in eb3 nz); omega
        refine s_q (fun v4 e4 => ?_)
        have B4 : BtS sq v4 := by rw [e4]; exact bts_and B3
        have M4 : PosM b v4 g := by rw [e4]; exact pm_and M3
        clear e4
        rw [q3]
        have e3g := Wg.1.2.2.1
        refine s_ref e3g ?_
        obtain ⟨on, eon, qon⟩ := thR Tg rb (i := 0) (k2 := 34) rfl (by decide)
        refine s_ref eon ?_
        refine s_gd (by rw [thN Tg qon (k := 34) (n := 64) rfl (by decide)]; exact rg_inB i3 (by decide)) ?_
        refine s_q (fun v8 e8 => ?_)
        have i8 : Rg 0 23 v8 := by rw [e8]; exact pm_low M3 eb3 nz i3 eon (thI Tg qon (k := 34) (lo := -2) (hi := 23) rfl)
        clear e8
        have i5 : Rg 0 63 x5 := ⟨a5, by omega⟩
        have ny := nc_s i5 (by decide)
        have mk : ∀ {g2 : Hp}, Kf ρ TBL g g2 → PosM b v4 g2 := fun K on' s eo hs hb => by
          rw [kfR 0 K rb] at eo
          rw [kfI s K (th_on Tg rb eo)]
          exact M4 on' s eo hs hb
        have b151 : ∀ {g2 : Hp}, TH ρ c g2 → EnW x0 b wy ks st pw ro L sq g2 → PoS sq b g2 → Kf ρ TBL g g2 → Sat (sX0_goBack_151 F (sX0_goBack_44 F f) g2 x0 v1 v4 x5) (ZV ρ c) := fun T2 W2 B2 K2 => by
          unfold sX0_goBack_151
          refine s_q (fun y ey => ?_)
          have ty : y.toInt = x5.toInt + 1 := by rw [ey]; exact ny.2
          clear ey
          exact ih T2 W2 B2 B4 (mk K2) (by omega) (by omega)
        refine one s1 Tg Wg Bg i3 i8 (fun g2 T2 W2 B2 K2 => ?_)
        have l92 : ∀ (f2 : Nat) {g2 : Hp} {x8 : Int32}, TH ρ c g2 → EnW x0 b wy ks st pw ro L sq g2 → PoS sq b g2 → Kf ρ TBL g g2 → 0 ≤ x8.toInt → (13 - x8.toInt).toNat < f2 → Sat (sX0_goBack_92 F (sX0_goBack_44 F f) f2 g2 x0 v1 v4 x5 o3.1 v8 x8) (ZV ρ c) := by
          intro f2
          induction f2 with
          | zero => intros; omega
          | succ f2 ih2 =>
            intro g2 x8 T2 W2 B2 K2 a8 hf2
            rw [sX0_goBack_92]
            unfold sX0_goBack_145
            have e0g := W2.1.1
            refine s_ref e0g ?_
            refine s_br (fun _ => b151 T2 W2 B2 K2) (fun l8 => ?_)
            have l8 := nle_i l8
            have im := thI T2 rL (k := 2) (i := 3) (lo := 0) (hi := 12) rfl
            have := im.2
            have ix8 : Rg 0 11 x8 := ⟨a8, by omega⟩
            have n8 := nc_s ix8 (by decide)
            refine s_ref e0g ?_
            refine s_dI0 (zX1_isLast hF T2 rL i3 iv) (fun o4 _ q4 i4 => ?_)
            rw [q4]
            refine s_br (fun _ => b151 T2 W2 B2 K2) (fun _ => ?_)
            refine s_ref e0g ?_
            refine s_dI0 (zX1_becomesThis hF T2 rL ix8 (rg_shrk (lo := -1) (hi := 11) 1 rfl i8 (by decide))) (fun o7 _ q7 i7 => ?_)
            rw [q7]
            have nx : ∀ {g3 : Hp}, TH ρ c g3 → EnW x0 b wy ks st pw ro L sq g3 → PoS sq b g3 → Kf ρ TBL g g3 → Sat (nm (x8 + (1 : Int32)) fun v_1 => sX0_goBack_92 F (sX0_goBack_44 F f) f2 g3 x0 v1 v4 x5 o3.1 v8 v_1) (ZV ρ c) := fun T3 W3 B3 K3 => by
              refine s_q (fun y ey => ?_)
              have ty : y.toInt = x8.toInt + 1 := by rw [ey]; exact n8.2
              clear ey
              exact ih2 T3 W3 B3 K3 (by omega) (by omega)
            refine s_br (fun _ => nx T2 W2 B2 K2) (fun _ => ?_)
            have z2 : (2 : Int32).toInt = 2 := rfl
            have iv0 := iv.1
            have iv1 := iv.2
            have t1 : ((2 : Int32) * x8).toInt = 2 * x8.toInt := by rw [tm (by rw [z2]; omega), z2]
            have t2 : (((2 : Int32) * x8) + v1).toInt = 2 * x8.toInt + v1.toInt := by rw [ta (by rw [t1]; omega), t1]
            have := ix8.2
            exact one s1 T2 W2 B2 i3 ⟨by omega, by omega⟩ (fun g3 T3 W3 B3 K3 => nx T3 W3 B3 (kf_t K2 K3))
        exact l92 F T2 W2 B2 K2 (by decide) (by show (13 - 0 : Int).toNat < F; omega)
    refine lp F T W B ?_ ?_ (by decide) (by show (65 - 0 : Int).toNat < F; omega)
    · rw [e4]; exact B of _ ef (by omega)
    · rw [e4]; exact pm_start T rb ef (by omega)
  refine s_ref e0 ?_
  refine s_dI0 (zX1_has hF T rL (rg_m (rg_b rfl : Rg 4 4 (4 : Int32)) (by decide))) (fun o3 _ q3 i3 => ?_)
  refine s_br (fun _ => b31 q3) (fun _ => ?_)
  rw [q3]
  obtain ⟨rf, erf, qrf⟩ := thR T r0 (i := 2) (k2 := 6) rfl (by decide)
  refine s_ref erf (s_ref e3 ?_)
  refine s_dI0 (zX5_isRoyalHit hF T qrf rb i1) (fun o7 _ q7 i7 => ?_)
  refine s_br (fun _ => b31 q7) (fun _ => ?_)
  rw [q7]
  exact s_some T
end
