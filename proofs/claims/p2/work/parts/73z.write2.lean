/-! the whole text of a board -/
def WQ (ρ : Nat → Nat) (c : Cm) (x0 : Nat) (v : Int) (o : Hp) : Prop := TH ρ c o ∧ (hI o x0 3).toInt ≤ v
section
variable {ρ : Nat → Nat} {c : Cm} {h o g h0 : Hp} {x0 b F H s : Nat} {R : Int64} {np v : Int} {x1 x2 x3 x4 x5 : Int32}
abbrev wrF : Nat → Nat → Nat → Bool := fS [(83, 999), (16, 3)] []
theorem wr_230 (hF : 700000 ≤ F) (hA : pmA c [(83, 999), (16, 3)]) (T : TH ρ c h) (r0 : ρ x0 = 16) (rb : ρ b = 13) (hv : v ≤ 256) (u : (hI h x0 3).toInt + 7 ≤ v) : Sat (sX15_writeAll_230 F h x0 b) (WQ ρ c x0 v) := by
  unfold sX15_writeAll_230
  refine s_say hF hA T r0 (by omega) (fun o1 T1 f1 a1 b1 => ?_)
  obtain ⟨r, e, q⟩ := thR T1 rb (i := 6) (k2 := 65) rfl (by decide)
  refine s_ref e ?_
  refine s_gd (by rw [thN T1 q (k := 65) (n := 2) rfl (by decide)]; exact rg_inB (rg_b rfl : Rg 0 0 (0 : Int32)) (by decide)) ?_
  refine s_say hF hA T1 r0 (by omega) (fun o2 T2 f2 a2 b2 => ?_)
  obtain ⟨r', e', q'⟩ := thR T2 rb (i := 6) (k2 := 65) rfl (by decide)
  refine s_ref e' ?_
  refine s_gd (by rw [thN T2 q' (k := 65) (n := 2) rfl (by decide)]; exact rg_inB (rg_b rfl : Rg 1 1 (1 : Int32)) (by decide)) ?_
  refine s_say hF hA T2 r0 (by omega) (fun o3 T3 f3 a3 b3 => ?_)
  refine s_say hF hA T3 r0 (by omega) (fun o4 T4 f4 a4 b4 => ?_)
  refine s_cVq (zX15_sayNumber hF hA T4 r0 (thI T4 rb (k := 13) (i := 7) (lo := 0) (hi := 999) rfl) (by omega)) (fun o5 T5 p5 => ?_)
  exact s_some ⟨T5, by have := p5.2.1; omega⟩
theorem wr_168 {k145 : Hp → Nat → Nat → Int32 → Int32 → Option Hp} {k153 : Hp → Nat → Nat → Int32 → Int32 → Int32 → Option Hp} {Q : Hp → Prop} {rest : Int} (hF : 700000 ≤ F) (hA : pmA c [(83, 999), (16, 3)]) (r0 : ρ x0 = 16) (rb : ρ b = 13) (hv : v ≤ 256) (hr : 0 ≤ rest) (i3 : Rg 0 1 x3) (i4 : Rg 0 11 x4)
    (K : ∀ o y, TH ρ c o → WB b H R np h0 o → y.toInt = x4.toInt + 1 → (hI o x0 3).toInt + rest ≤ v → Sat (k153 o x0 b x2 x3 y) Q) :
    ∀ (f : Nat) {h : Hp} {x5 : Int32}, TH ρ c h → WB b H R np h0 h → 0 ≤ x5.toInt → x5.toInt ≤ (hI h0 H (2 * x4.toNatClampNeg + x3.toNatClampNeg)).toInt → (hI h x0 3).toInt + ((hI h0 H (2 * x4.toNatClampNeg + x3.toNatClampNeg)).toInt - x5.toInt) + rest ≤ v → (17 - x5.toInt).toNat < f → Sat (sX15_writeAll_168 F k145 k153 f h x0 b x2 x3 x4 x5) Q := by
  intro f
  induction f with
  | zero => intros; omega
  | succ f ih =>
    intro h x5 T W a5 b5 u hf
    rw [sX15_writeAll_168]
    have e2 : (2 : Int32).toInt = 2 := rfl
    have e4 : ((2 : Int32) * x4).toInt = 2 * x4.toInt := by rw [tm (by rw [e2]; have := i4.1; have := i4.2; omega), e2]
    have e5 : (((2 : Int32) * x4) + x3).toInt = 2 * x4.toInt + x3.toInt := by rw [ta (by rw [e4]; have := i4.1; have := i4.2; have := i3.1; have := i3.2; omega), e4]
    have i5 : Rg 0 23 (((2 : Int32) * x4) + x3) := ⟨by rw [e5]; have := i4.1; have := i3.1; omega, by rw [e5]; have := i4.2; have := i3.2; omega⟩
    have ei : (((2 : Int32) * x4) + x3).toNatClampNeg = 2 * x4.toNatClampNeg + x3.toNatClampNeg := by
      have := clamp_i i5.1
      have := clamp_i i4.1
      have := clamp_i i3.1
      omega
    have W' := W
    obtain ⟨w1, w2, w3, w4⟩ := W
    have rH : ρ H = 64 := rr T (thR T rb (i := 5) (k2 := 64) rfl (by decide)) w1
    refine s_ref w1 ?_
    refine s_gd (by rw [thN T rH (k := 64) (n := 24) rfl (by decide)]; exact rg_inB i5 (by decide)) ?_
    rw [ei, w4]
    have hh : Rg 0 16 (hI h0 H (2 * x4.toNatClampNeg + x3.toNatClampNeg)) := by rw [← w4]; exact thI T rH (k := 64) (lo := 0) (hi := 16) rfl
    refine s_br (fun l1 => ?_) (fun n1 => ?_)
    · have := le_i l1
      refine s_q (fun y ey => ?_)
      have ey2 : y.toInt = x4.toInt + 1 := by rw [ey]; exact (nc_s i4 (by decide)).2
      exact K h y T W' ey2 (by omega)
    · have l5 := nle_i n1
      unfold sX15_valueOf
      refine s_cl (s_some ?_)
      have ev : (((1 : Int32) + ((2 : Int32) * x4)) + x3).toInt = 1 + (2 * x4.toInt + x3.toInt) := by
        have e1 : (1 : Int32).toInt = 1 := rfl
        have e6 : ((1 : Int32) + ((2 : Int32) * x4)).toInt = 1 + 2 * x4.toInt := by rw [ta (by rw [e4, e1]; have := i4.1; have := i4.2; omega), e4, e1]
        rw [ta (by rw [e6]; have := i4.1; have := i4.2; have := i3.1; have := i3.2; omega), e6]
        omega
      refine s_cI0 (zX15_letterOf hF T r0 (x1 := ((1 : Int32) + ((2 : Int32) * x4)) + x3) ⟨by rw [ev]; have := i4.1; have := i3.1; omega, by rw [ev]; have := i4.2; have := i3.2; omega⟩) (fun o6 e6 j6 => ?_)
      rw [show o6.2 = h from e6]
      refine s_say (h := h) hF hA T r0 (by omega) (fun o7 T7 f7 a7 b7 => ?_)
      refine s_q (fun y ey => ?_)
      have ey2 : y.toInt = x5.toInt + 1 := by rw [ey]; exact (nc_s (⟨a5, by have := hh.2; omega⟩ : Rg 0 16 x5) (by decide)).2
      exact ih T7 (wb_fr T rb f7 W') (by omega) (by omega) (by omega) (by have := hh.2; omega)
theorem wr_153 {k145 : Hp → Nat → Nat → Int32 → Int32 → Option Hp} {Q : Hp → Prop} {rest : Int} (hF : 700000 ≤ F) (hA : pmA c [(83, 999), (16, 3)]) (r0 : ρ x0 = 16) (rb : ρ b = 13) (hv : v ≤ 256) (hr : 0 ≤ rest) (i3 : Rg 0 1 x3) (pz : ∀ j, 0 ≤ (hI h0 H j).toInt)
    (K : ∀ o y, TH ρ c o → WB b H R np h0 o → y.toInt = x3.toInt + 1 → (hI o x0 3).toInt + rest ≤ v → Sat (k145 o x0 b x2 y) Q) :
    ∀ (f : Nat) {h : Hp} {x4 : Int32}, TH ρ c h → WB b H R np h0 h → Rg 0 12 x4 → (hI h x0 3).toInt + (sH h0 H x3.toNatClampNeg 12 - sH h0 H x3.toNatClampNeg x4.toNatClampNeg) + rest ≤ v → (13 - x4.toInt).toNat < f → Sat (sX15_writeAll_153 F k145 f h x0 b x2 x3 x4) Q := by
  intro f
  induction f with
  | zero => intros; omega
  | succ f ih =>
    intro h x4 T W i4 u hf
    rw [sX15_writeAll_153]
    obtain ⟨r, e, q⟩ := thR T r0 (i := 4) (k2 := 15) rfl (by decide)
    have c12 := thI T q (k := 15) (i := 2) (lo := 0) (hi := 12) rfl
    have l12 : x4.toNatClampNeg ≤ 12 := rg_clamp i4 (by decide)
    refine s_ref e ?_
    refine s_br (fun _ => ?_) (fun n1 => ?_)
    · refine s_q (fun y ey => ?_)
      have ey2 : y.toInt = x3.toInt + 1 := by rw [ey]; exact (nc_s i3 (by decide)).2
      have := sH_le (d := x3.toNatClampNeg) pz _ _ l12
      exact K h y T W ey2 (by omega)
    · have l4 := nle_i n1
      have j4 : Rg 0 11 x4 := ⟨i4.1, by have := c12.2; omega⟩
      have ec := clamp_i i4.1
      have s1 : sH h0 H x3.toNatClampNeg (x4.toNatClampNeg + 1) = sH h0 H x3.toNatClampNeg x4.toNatClampNeg + (hI h0 H (2 * x4.toNatClampNeg + x3.toNatClampNeg)).toInt := rfl
      have s2 := sH_le (d := x3.toNatClampNeg) pz (x4.toNatClampNeg + 1) 12 (by have := j4.2; omega)
      have z0 : (0 : Int32).toInt = 0 := rfl
      refine wr_168 (rest := sH h0 H x3.toNatClampNeg 12 - sH h0 H x3.toNatClampNeg (x4.toNatClampNeg + 1) + rest) hF hA r0 rb hv (by omega) i3 j4 (fun o y To Wo ey uo => ?_) F T W (by decide) (by rw [z0]; exact pz _) (by rw [z0]; omega) (by rw [z0]; omega)
      have iy : Rg 0 12 y := ⟨by have := j4.1; omega, by have := j4.2; omega⟩
      have ec2 := clamp_i iy.1
      have en : y.toNatClampNeg = x4.toNatClampNeg + 1 := by omega
      exact ih To Wo iy (by rw [en]; omega) (by have := j4.2; omega)
theorem wr_145 (hF : 700000 ≤ F) (hA : pmA c [(83, 999), (16, 3)]) (r0 : ρ x0 = 16) (rb : ρ b = 13) (hv : v ≤ 256) (pz : ∀ j, 0 ≤ (hI h0 H j).toInt) :
    ∀ (f : Nat) {h : Hp} {x3 : Int32}, TH ρ c h → WB b H R np h0 h → Rg 0 2 x3 → (hI h x0 3).toInt + (if x3.toInt = 0 then sH h0 H 0 12 else 0) + (if x3.toInt ≤ 1 then sH h0 H 1 12 else 0) + 8 ≤ v → (3 - x3.toInt).toNat < f → Sat (sX15_writeAll_145 F f h x0 b x2 x3) (WQ ρ c x0 v) := by
  have q0 : 0 ≤ sH h0 H 0 12 := sH_le (d := 0) pz 0 12 (by decide)
  have q1 : 0 ≤ sH h0 H 1 12 := sH_le (d := 1) pz 0 12 (by decide)
  intro f
  induction f with
  | zero => intros; omega
  | succ f ih =>
    intro h x3 T W i3 u hf
    rw [sX15_writeAll_145]
    have a3 := i3.1
    have b3 := i3.2
    refine s_br (fun _ => ?_) (fun n1 => ?_)
    · have u8 : (hI h x0 3).toInt + 8 ≤ v := by
        split at u <;> split at u <;> omega
      refine s_br (fun _ => ?_) (fun _ => wr_230 hF hA T r0 rb hv (by omega))
      exact s_say hF hA T r0 (by omega) (fun o T1 f1 a1 b1 => wr_230 hF hA T1 r0 rb hv (by omega))
    · have l3 : x3.toInt < 2 := nle_i n1
      have ec := clamp_i a3
      have z0 : (0 : Int32).toInt = 0 := rfl
      have zc : (0 : Int32).toNatClampNeg = 0 := rfl
      by_cases zx : x3.toInt = 0
      · have e0 : x3.toNatClampNeg = 0 := by omega
        rw [if_pos zx, if_pos (by omega)] at u
        refine wr_153 (rest := sH h0 H 1 12 + 8) hF hA r0 rb hv (by omega) ⟨a3, by omega⟩ pz (fun o y To Wo ey uo => ?_) F T W (rg_b rfl) (by rw [e0, zc]; show _ + (sH h0 H 0 12 - 0) + _ ≤ v; omega) (by rw [z0]; omega)
        exact ih To Wo ⟨by omega, by omega⟩ (by rw [if_neg (by omega), if_pos (by omega)]; omega) (by omega)
      · have e1 : x3.toNatClampNeg = 1 := by omega
        rw [if_neg zx, if_pos (by omega)] at u
        refine wr_153 (rest := 8) hF hA r0 rb hv (by omega) ⟨a3, by omega⟩ pz (fun o y To Wo ey uo => ?_) F T W (rg_b rfl) (by rw [e1, zc]; show _ + (sH h0 H 1 12 - 0) + _ ≤ v; omega) (by rw [z0]; omega)
        exact ih To Wo ⟨by omega, by omega⟩ (by rw [if_neg (by omega), if_neg (by omega)]; omega) (by omega)
theorem wr_108 (hF : 700000 ≤ F) (hA : pmA c [(83, 999), (16, 3)]) (r0 : ρ x0 = 16) (rb : ρ b = 13) (hv : v ≤ 256) (pz : ∀ j, 0 ≤ (hI h0 H j).toInt) :
    ∀ (f : Nat) {h : Hp} {x2 : Int32}, TH ρ c h → WB b H R np h0 h → 0 ≤ x2.toInt → x2.toInt ≤ np → (hI h x0 3).toInt + 2 * (np - x2.toInt) + sH h0 H 0 12 + sH h0 H 1 12 + 9 ≤ v → (65 - x2.toInt).toNat < f → Sat (sX15_writeAll_108 F f h x0 b x2) (WQ ρ c x0 v) := by
  have q0 : 0 ≤ sH h0 H 0 12 := sH_le (d := 0) pz 0 12 (by decide)
  have q1 : 0 ≤ sH h0 H 1 12 := sH_le (d := 1) pz 0 12 (by decide)
  intro f
  induction f with
  | zero => intros; omega
  | succ f ih =>
    intro h x2 T W a2 b2 u hf
    rw [sX15_writeAll_108]
    have i3 := thI T rb (k := 13) (i := 3) (lo := 0) (hi := 64) rfl
    have e3 : (hI h b 3).toInt = np := W.2.2.1
    have z0 : (0 : Int32).toInt = 0 := rfl
    refine s_br (fun l1 => ?_) (fun n1 => ?_)
    · have := le_i l1
      refine s_say hF hA T r0 (by omega) (fun o T1 f1 a1 b1 => ?_)
      refine s_q (fun y _ => ?_)
      exact wr_145 hF hA r0 rb hv pz F T1 (wb_fr T rb f1 W) (rg_b rfl) (by rw [z0, if_pos rfl, if_pos (by decide)]; omega) (by rw [z0]; omega)
    · have l2 := nle_i n1
      have i2 : Rg 0 63 x2 := ⟨a2, by have := i3.2; omega⟩
      obtain ⟨r, e, q⟩ := thR T rb (i := 4) (k2 := 63) rfl (by decide)
      refine s_ref e ?_
      refine s_gd (by rw [thN T q (k := 63) (n := 64) rfl (by decide)]; exact rg_inB i2 (by decide)) ?_
      refine s_saySq hF hA T r0 (thI T q (k := 63) (lo := 0) (hi := 63) rfl) (by omega) (fun o T1 f1 a1 b1 => ?_)
      refine s_q (fun y ey => ?_)
      have ey2 : y.toInt = x2.toInt + 1 := by rw [ey]; exact (nc_s i2 (by decide)).2
      exact ih T1 (wb_fr T rb f1 W) (by omega) (by omega) (by omega) (by have := i3.2; omega)
theorem wr_55 (hF : 700000 ≤ F) (hA : pmA c [(83, 999), (16, 3)]) (r0 : ρ x0 = 16) (rb : ρ b = 13) (hv : v ≤ 256) (pz : ∀ j, 0 ≤ (hI h0 H j).toInt) (hn : 0 ≤ np) (hs : s ≤ 64) :
    ∀ (f : Nat) {h : Hp} {x2 : Int32}, TH ρ c h → WB b H R np h0 h → (hI h x0 13).toInt ≤ (s : Int) → 0 ≤ x2.toInt → x2.toNatClampNeg ≤ s → (hI h x0 3).toInt + 2 * ((cRt R s : Int) - cRt R x2.toNatClampNeg) + 2 * np + sH h0 H 0 12 + sH h0 H 1 12 + 11 ≤ v → (65 - x2.toInt).toNat < f → Sat (sX15_writeAll_55 F f h x0 b x2) (WQ ρ c x0 v) := by
  have q0 : 0 ≤ sH h0 H 0 12 := sH_le (d := 0) pz 0 12 (by decide)
  have q1 : 0 ≤ sH h0 H 1 12 := sH_le (d := 1) pz 0 12 (by decide)
  intro f
  induction f with
  | zero => intros; omega
  | succ f ih =>
    intro h x2 T W hq a2 b2 u hf
    rw [sX15_writeAll_55]
    have cl2 := cRt_le R _ _ b2
    have ec := clamp_i a2
    have z0 : (0 : Int32).toInt = 0 := rfl
    refine s_br (fun l1 => ?_) (fun n1 => ?_)
    · refine s_say hF hA T r0 (by omega) (fun o T1 f1 a1 b1 => ?_)
      have W1 := wb_fr T rb f1 W
      unfold sX15_writeAll_106
      refine s_br (fun _ => ?_) (fun _ => ?_)
      · refine s_say hF hA T1 r0 (by omega) (fun o2 T2 f2 a2' b2' => ?_)
        exact wr_108 hF hA r0 rb hv pz F T2 (wb_fr T1 rb f2 W1) (by decide) (by rw [z0]; exact hn) (by rw [z0]; omega) (by rw [z0]; omega)
      · exact wr_108 hF hA r0 rb hv pz F T1 W1 (by decide) (by rw [z0]; exact hn) (by rw [z0]; omega) (by rw [z0]; omega)
    · have l2 := nle_i n1
      have i2 : Rg 0 63 x2 := ⟨a2, by omega⟩
      have lt : x2.toNatClampNeg + 1 ≤ s := by omega
      have c1 := cRt_le R _ _ lt
      have cs : cRt R (x2.toNatClampNeg + 1) = cRt R x2.toNatClampNeg + if bitJ R x2.toNatClampNeg then 1 else 0 := rfl
      have go : ∀ {o : Hp}, TH ρ c o → WB b H R np h0 o → (hI o x0 13).toInt ≤ (s : Int) → (hI o x0 3).toInt + 2 * ((cRt R s : Int) - cRt R (x2.toNatClampNeg + 1)) + 2 * np + sH h0 H 0 12 + sH h0 H 1 12 + 11 ≤ v → Sat (sX15_writeAll_81 F (sX15_writeAll_55 F f) o x0 b x2) (WQ ρ c x0 v) := fun {o} To Wo ho uo => by
        unfold sX15_writeAll_81
        refine s_q (fun y ey => ?_)
        have ey2 : y.toInt = x2.toInt + 1 := by rw [ey]; exact (nc_s i2 (by decide)).2
        have ey3 : y.toNatClampNeg = x2.toNatClampNeg + 1 := by have := clamp_i (v := y) (by omega); omega
        exact ih To Wo ho (by omega) (by omega) (by rw [ey3]; exact uo) (by omega)
      refine s_br (fun t => ?_) (fun _ => go T W hq (by split at cs <;> omega))
      have eb : bitJ R x2.toNatClampNeg = true := by
        have := bit_test i2 t
        rw [W.2.1] at this
        exact this
      rw [eb, if_pos rfl] at cs
      refine s_saySq hF hA T r0 i2 (by omega) (fun o T1 f1 a1 b1 => ?_)
      exact go T1 (wb_fr T rb f1 W) (by rw [(fr_RI f1 r0 (by decide) (fun _ => rfl)).1]; exact hq) (by omega)
/-- a board's text is not longer than its parts -/
theorem zX15_writeAll (hF : 700000 ≤ F) (hA : pmA c [(83, 999), (16, 3)]) (T : TH ρ c h) (r0 : ρ x0 = 16) (rb : ρ b = 13) (hv : v ≤ 256) (u0 : (hI h x0 3).toInt ≤ 180) (hs : s ≤ 64) (hq : (hI h x0 13).toInt ≤ (s : Int)) (eH : hR h b 5 = some H) (u : (hI h x0 3).toInt + 2 * (cRt (hJ h b 2) s : Int) + 2 * (hI h b 3).toInt + sH h H 0 12 + sH h H 1 12 + 87 ≤ v) : Sat (sX15_writeAll F h x0 b) (WQ ρ c x0 v) := by
  have rH : ρ H = 64 := rr T (thR T rb (i := 5) (k2 := 64) rfl (by decide)) eH
  have pz : ∀ j, 0 ≤ (hI h H j).toInt := fun j => (thI T rH (k := 64) (i := j) (lo := 0) (hi := 16) rfl).1
  have q0 : 0 ≤ sH h H 0 12 := sH_le (d := 0) pz 0 12 (by decide)
  have q1 : 0 ≤ sH h H 1 12 := sH_le (d := 1) pz 0 12 (by decide)
  have hn := (thI T rb (k := 13) (i := 3) (lo := 0) (hi := 64) rfl).1
  have W : WB b H (hJ h b 2) (hI h b 3).toInt h h := ⟨eH, rfl, rfl, fun _ => rfl⟩
  have z0 : (0 : Int32).toInt = 0 := rfl
  have zc : (0 : Int32).toNatClampNeg = 0 := rfl
  unfold sX15_writeAll
  refine s_cVfq (S := wrF) T (fs_sub hA fs_n) (zX15_writeMen hF fs_a rfl (th_in _ T) r0 rb u0) (fun o1 T1 f1 p1 => ?_)
  have W1 := wb_fr T rb f1 W
  have hq1 : (hI o1 x0 13).toInt ≤ (s : Int) := by rw [(fr_RI f1 r0 (by decide) (fun _ => rfl)).1]; exact hq
  have u1 := p1.2
  refine s_say hF hA T1 r0 (by omega) (fun o2 T2 f2 a2 b2 => ?_)
  have W2 := wb_fr T1 rb f2 W1
  have hq2 : (hI o2 x0 13).toInt ≤ (s : Int) := by rw [(fr_RI f2 r0 (by decide) (fun _ => rfl)).1]; exact hq1
  have go : ∀ t : Int32, Sat (sX15_writeAll_29 F o2 x0 b t x0) (WQ ρ c x0 v) := fun t => by
    unfold sX15_writeAll_29 sX15_writeAll_53
    refine s_say hF hA T2 r0 (by omega) (fun o3 T3 f3 a3 b3 => ?_)
    have W3 := wb_fr T2 rb f3 W2
    have hq3 : (hI o3 x0 13).toInt ≤ (s : Int) := by rw [(fr_RI f3 r0 (by decide) (fun _ => rfl)).1]; exact hq2
    refine s_say hF hA T3 r0 (by omega) (fun o4 T4 f4 a4 b4 => ?_)
    have W4 := wb_fr T3 rb f4 W3
    have hq4 : (hI o4 x0 13).toInt ≤ (s : Int) := by rw [(fr_RI f4 r0 (by decide) (fun _ => rfl)).1]; exact hq3
    refine s_br (fun _ => ?_) (fun _ => ?_)
    · refine s_say hF hA T4 r0 (by omega) (fun o5 T5 f5 a5 b5 => ?_)
      have W5 := wb_fr T4 rb f5 W4
      have hq5 : (hI o5 x0 13).toInt ≤ (s : Int) := by rw [(fr_RI f5 r0 (by decide) (fun _ => rfl)).1]; exact hq4
      exact wr_55 hF hA r0 rb hv pz hn hs F T5 W5 hq5 (by decide) (by rw [zc]; exact Nat.zero_le _) (by rw [zc]; show _ + 2 * (_ - (0 : Int)) + _ + _ + _ + _ ≤ v; omega) (by rw [z0]; omega)
    · exact wr_55 hF hA r0 rb hv pz hn hs F T4 W4 hq4 (by decide) (by rw [zc]; exact Nat.zero_le _) (by rw [zc]; show _ + 2 * (_ - (0 : Int)) + _ + _ + _ + _ ≤ v; omega) (by rw [z0]; omega)
  exact s_br (fun _ => go _) (fun _ => go _)
end
