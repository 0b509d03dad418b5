/-! a key read letter by letter -/
def WiB (x o : Int) : Prop := (x ≤ 0 → o ≤ 31) ∧ (x ≤ 31 → o ≤ 1023) ∧ (x ≤ 1023 → o ≤ 32767) ∧ (x ≤ 32767 → o ≤ 1048575)
section
variable {ρ : Nat → Nat} {c : Cm} {h : Hp} {x x1 : Int32} {F : Nat}
/-- with: a key of one man more, and no larger than it must be -/
theorem with2_q (hF : 700000 ≤ F) (a : 0 ≤ x.toInt) (b : x.toInt ≤ 1048575) (K : KyX x) (i : Rg 0 23 x1) : Sat (sX0_with F h x x1) (fun o => o.2 = h ∧ Rg 0 33554431 o.1 ∧ KyX o.1 ∧ WiB x.toInt o.1.toInt) := by
  obtain ⟨d0, d1, d2, d3, d4, h0, h1, h2, h3, h4, ex⟩ := ky_dig a (by omega) ((ky_i a).mp K)
  have i0 := i.1
  have i1 := i.2
  have z1 : (1 : Int32).toInt = 1 := rfl
  have ev : (x1 + (1 : Int32)).toInt = x1.toInt + 1 := by rw [ta (by rw [z1]; omega), z1]
  have iv : Rg 0 31 (x1 + (1 : Int32)) := ⟨by omega, by omega⟩
  have fin : ∀ {z : Int32} {B : Int}, z.toInt = B → 0 ≤ B → B ≤ 33554431 → KyI B → WiB x.toInt B → Rg 0 33554431 z ∧ KyX z ∧ WiB x.toInt z.toInt := fun {z B} e b0 b1 kb wb => ⟨⟨by omega, by omega⟩, (ky_i (by omega)).mpr (by rw [e]; exact kb), by rw [e]; exact wb⟩
  have b35 : ∀ s : Int32, (s = 0 ∨ (s = 5 ∧ 1 ≤ x.toInt) ∨ (s = 10 ∧ 32 ≤ x.toInt) ∨ (s = 15 ∧ 1024 ≤ x.toInt) ∨ (s = 20 ∧ 32768 ≤ x.toInt)) → Sat (sX0_with_35 F h x x1 s) (fun o => o.2 = h ∧ Rg 0 33554431 o.1 ∧ KyX o.1 ∧ WiB x.toInt o.1.toInt) := by
    intro s hs
    unfold sX0_with_35
    refine s_q (fun v e1 => s_some ⟨rfl, ?_⟩)
    rcases hs with w | ⟨w, lx⟩ | ⟨w, lx⟩ | ⟨w, lx⟩ | ⟨w, lx⟩ <;> subst w <;> subst e1
    · have e := wi_one (x := x) (v := x1 + (1 : Int32)) (m := 0) (s := 0) (s5 := (0 : Int32) + (5 : Int32)) rfl rfl (by decide) rfl a (by omega) iv
      rw [ev] at e
      exact fin e (by show 0 ≤ x.toInt % 1 + (x1.toInt + 1) * 1 + x.toInt / 1 * 32; omega) (by show x.toInt % 1 + (x1.toInt + 1) * 1 + x.toInt / 1 * 32 ≤ _; omega) (ky_sum (e0 := x1.toInt + 1) ⟨by omega, by omega⟩ h0 h1 h2 h3 (by show x.toInt % 1 + (x1.toInt + 1) * 1 + x.toInt / 1 * 32 = _; omega)) (by show WiB x.toInt (x.toInt % 1 + (x1.toInt + 1) * 1 + x.toInt / 1 * 32); unfold WiB; omega)
    · have e := wi_one (x := x) (v := x1 + (1 : Int32)) (m := 5) (s := 5) (s5 := (5 : Int32) + (5 : Int32)) rfl rfl (by decide) rfl a (by omega) iv
      rw [ev] at e
      exact fin e (by show 0 ≤ x.toInt % 32 + (x1.toInt + 1) * 32 + x.toInt / 32 * 1024; omega) (by show x.toInt % 32 + (x1.toInt + 1) * 32 + x.toInt / 32 * 1024 ≤ _; omega) (ky_sum (e1 := x1.toInt + 1) h0 ⟨by omega, by omega⟩ h1 h2 h3 (by show x.toInt % 32 + (x1.toInt + 1) * 32 + x.toInt / 32 * 1024 = _; omega)) (by show WiB x.toInt (x.toInt % 32 + (x1.toInt + 1) * 32 + x.toInt / 32 * 1024); unfold WiB; omega)
    · have e := wi_one (x := x) (v := x1 + (1 : Int32)) (m := 10) (s := 10) (s5 := (10 : Int32) + (5 : Int32)) rfl rfl (by decide) rfl a (by omega) iv
      rw [ev] at e
      exact fin e (by show 0 ≤ x.toInt % 1024 + (x1.toInt + 1) * 1024 + x.toInt / 1024 * 32768; omega) (by show x.toInt % 1024 + (x1.toInt + 1) * 1024 + x.toInt / 1024 * 32768 ≤ _; omega) (ky_sum (e2 := x1.toInt + 1) h0 h1 ⟨by omega, by omega⟩ h2 h3 (by show x.toInt % 1024 + (x1.toInt + 1) * 1024 + x.toInt / 1024 * 32768 = _; omega)) (by show WiB x.toInt (x.toInt % 1024 + (x1.toInt + 1) * 1024 + x.toInt / 1024 * 32768); unfold WiB; omega)
    · have e := wi_one (x := x) (v := x1 + (1 : Int32)) (m := 15) (s := 15) (s5 := (15 : Int32) + (5 : Int32)) rfl rfl (by decide) rfl a (by omega) iv
      rw [ev] at e
      exact fin e (by show 0 ≤ x.toInt % 32768 + (x1.toInt + 1) * 32768 + x.toInt / 32768 * 1048576; omega) (by show x.toInt % 32768 + (x1.toInt + 1) * 32768 + x.toInt / 32768 * 1048576 ≤ _; omega) (ky_sum (e3 := x1.toInt + 1) h0 h1 h2 ⟨by omega, by omega⟩ h3 (by show x.toInt % 32768 + (x1.toInt + 1) * 32768 + x.toInt / 32768 * 1048576 = _; omega)) (by show WiB x.toInt (x.toInt % 32768 + (x1.toInt + 1) * 32768 + x.toInt / 32768 * 1048576); unfold WiB; omega)
    · have e := wi_one (x := x) (v := x1 + (1 : Int32)) (m := 20) (s := 20) (s5 := (20 : Int32) + (5 : Int32)) rfl rfl (by decide) rfl a (by omega) iv
      rw [ev] at e
      exact fin e (by show 0 ≤ x.toInt % 1048576 + (x1.toInt + 1) * 1048576 + x.toInt / 1048576 * 33554432; omega) (by show x.toInt % 1048576 + (x1.toInt + 1) * 1048576 + x.toInt / 1048576 * 33554432 ≤ _; omega) (ky_sum (e4 := x1.toInt + 1) h0 h1 h2 h3 ⟨by omega, by omega⟩ (by show x.toInt % 1048576 + (x1.toInt + 1) * 1048576 + x.toInt / 1048576 * 33554432 = _; omega)) (by show WiB x.toInt (x.toInt % 1048576 + (x1.toInt + 1) * 1048576 + x.toInt / 1048576 * 33554432); unfold WiB; omega)
  obtain ⟨F, rfl⟩ : ∃ G, F = G + 6 := ⟨F - 6, by omega⟩
  have st : ∀ (f : Nat) (s : Int32), (s = 0 ∨ (s = 5 ∧ 1 ≤ x.toInt) ∨ (s = 10 ∧ 32 ≤ x.toInt) ∨ (s = 15 ∧ 1024 ≤ x.toInt) ∨ (s = 20 ∧ 32768 ≤ x.toInt)) → (¬ ((x >>> (s &&& 31)) &&& (31 : Int32)).toInt = 0 → Sat (sX0_with_2 (F + 6) f h x x1 (s + (5 : Int32))) (fun o => o.2 = h ∧ Rg 0 33554431 o.1 ∧ KyX o.1 ∧ WiB x.toInt o.1.toInt)) → Sat (sX0_with_2 (F + 6) (f + 1) h x x1 s) (fun o => o.2 = h ∧ Rg 0 33554431 o.1 ∧ KyX o.1 ∧ WiB x.toInt o.1.toInt) := by
    intro f s hs nx
    rw [sX0_with_2]
    refine s_br (fun _ => b35 s hs) (fun _ => s_br (fun _ => b35 s hs) (fun nd => s_br (fun _ => b35 s hs) (fun _ => s_q (fun y ey => ?_))))
    rw [ey]
    exact nx (fun w => nd (Int32.toInt_inj.mp w))
  have d0 := dig_i a 0 (0 : Int32) rfl
  have d1 : ((x >>> ((5 : Int32) &&& 31)) &&& (31 : Int32)).toInt = x.toInt / 32 % 32 := dig_i a 5 (5 : Int32) rfl
  have d2 : ((x >>> ((10 : Int32) &&& 31)) &&& (31 : Int32)).toInt = x.toInt / 1024 % 32 := dig_i a 10 (10 : Int32) rfl
  have d3 : ((x >>> ((15 : Int32) &&& 31)) &&& (31 : Int32)).toInt = x.toInt / 32768 % 32 := dig_i a 15 (15 : Int32) rfl
  have d4 : ((x >>> ((20 : Int32) &&& 31)) &&& (31 : Int32)).toInt = x.toInt / 1048576 % 32 := dig_i a 20 (20 : Int32) rfl
  have e0 : x.toInt / ((2 ^ 0 : Nat) : Int) % 32 = x.toInt % 32 := by show x.toInt / 1 % 32 = _; omega
  rw [e0] at d0
  unfold sX0_with
  refine st _ 0 (Or.inl rfl) (fun n0 => ?_)
  refine st _ 5 (Or.inr (Or.inl ⟨rfl, by rw [d0] at n0; omega⟩)) (fun n1 => ?_)
  refine st _ 10 (Or.inr (Or.inr (Or.inl ⟨rfl, by rw [d1] at n1; omega⟩))) (fun n2 => ?_)
  refine st _ 15 (Or.inr (Or.inr (Or.inr (Or.inl ⟨rfl, by rw [d2] at n2; omega⟩)))) (fun n3 => ?_)
  refine st _ 20 (Or.inr (Or.inr (Or.inr (Or.inr ⟨rfl, by rw [d3] at n3; omega⟩)))) (fun n4 => ?_)
  rw [d4] at n4
  omega
/-- keys of so many letters -/
def KyN (n k : Int) : Prop := (n ≤ 0 → k ≤ 0) ∧ (n ≤ 1 → k ≤ 31) ∧ (n ≤ 2 → k ≤ 1023) ∧ (n ≤ 3 → k ≤ 32767) ∧ (n ≤ 4 → k ≤ 1048575) ∧ k ≤ 33554431
theorem readC_q {x0 x1 : Nat} (hF : 700000 ≤ F) (hA : pmA c [(1, 14)]) (T : TH ρ c h) (r0 : ρ x0 = 1) (r1 : ρ x1 = 10) (il : Rg 0 1201 (hI h x1 1)) : Sat (sX0_read F h x0 x1) (fun o => TH ρ c o.2 ∧ (o.1 = (-1 : Int32) → KyX (hI o.2 x0 14)) ∧ Kf ρ [(1, 14)] h o.2) := by
  have n01 : ¬ x1 = x0 := ne_r' r1 r0 (by decide)
  have lp : ∀ (f : Nat) {x2 x3 x4 : Int32}, 0 ≤ x4.toInt → 0 ≤ x3.toInt → KyN x4.toInt x3.toInt → KyX x3 → x4.toInt ≤ 5 → (6 - x4.toInt).toNat < f → Sat (sX0_read_7 F f h x0 x1 x2 x3 x4) (fun o => TH ρ c o.2 ∧ (o.1 = (-1 : Int32) → KyX (hI o.2 x0 14)) ∧ Kf ρ [(1, 14)] h o.2) := by
    intro f
    induction f with
    | zero => intros; omega
    | succ f ih =>
      intro x2 x3 x4 a4 a3 kn ky b4 hf
      have out : ∀ v : Int32, 0 ≤ v.toInt → TH ρ c h ∧ (v = (-1 : Int32) → KyX (hI h x0 14)) ∧ Kf ρ [(1, 14)] h h := fun v v0 => ⟨T, fun w => by rw [w] at v0; exact absurd v0 (by decide), kf_r⟩
      rw [sX0_read_7]
      unfold sX0_read_117 sX0_read_43 sX0_read_83
      refine s_br (fun _ => ?_) (fun _ => ?_)
      · refine s_hq (th_wI T r0 (k := 1) (i := 14) (lo := 0) (hi := 33554431) rfl ⟨a3, kn.2.2.2.2.2⟩ (by decide) (by decide) (pm_a hA rfl)) (fun h2 T2 w2 => ?_)
        have kh : KyX (hI h2 x0 14) := by rw [w2, r_I, if_pos ⟨rfl, rfl⟩]; exact ky
        exact s_br (fun _ => s_some ⟨T2, fun _ => kh, kf_wI w2 r0⟩) (fun _ => s_some ⟨T2, fun _ => kh, kf_wI w2 r0⟩)
      · obtain ⟨L, eL, qL⟩ := thR T r0 (i := 0) (k2 := 2) rfl (by decide)
        refine s_ref eL ?_
        refine s_cl (s_imp (zX9_byteAt hF T r1 (rg_top _)) (fun o5 w5 => ?_))
        obtain ⟨e5, i5, _⟩ := w5
        rw [e5]
        refine s_cI0q (zX1_codeOf hF T qL i5) (fun o6 e6 i6 _ => ?_)
        rw [e6]
        refine s_br (fun _ => s_some (out _ a4)) (fun n5 => ?_)
        have l5 := nle_i n5
        have z5 : (5 : Int32).toInt = 5 := rfl
        rw [z5] at l5
        have i4 : Rg 0 4 x4 := ⟨a4, by omega⟩
        refine s_br (fun _ => s_some (out _ a4)) (fun nc => ?_)
        have ic : Rg 0 23 o6.1 := rg_nlo nc i6 (rg_b rfl : Rg (-1) (-1) (-1 : Int32))
        have go : ∀ u : Int32, Sat (cl (sX0_with F h x3 o6.1) fun o_1 => nm (x4 + (1 : Int32)) fun v_2 => sX0_read_7 F f o_1.2 x0 x1 u o_1.1 v_2) (fun o => TH ρ c o.2 ∧ (o.1 = (-1 : Int32) → KyX (hI o.2 x0 14)) ∧ Kf ρ [(1, 14)] h o.2) := fun u => by
          refine s_cl (s_imp (with2_q hF a3 (kn.2.2.2.2.1 (by omega)) ky ic) (fun o1 ⟨e1, i1', k1, wb⟩ => ?_))
          rw [e1]
          refine s_q (fun y ey => ?_)
          have ey2 : y.toInt = x4.toInt + 1 := by rw [ey]; exact (nc_s i4 (by decide)).2
          clear ey
          refine ih (by omega) i1'.1 ?_ k1 (by omega) (by omega)
          obtain ⟨k0, k1', k2, k3, k4, k5⟩ := kn
          obtain ⟨w0, w1, w2, w3⟩ := wb
          have u5 := i1'.2
          rw [ey2]
          exact ⟨fun z => by omega, fun z => w0 (k0 (by omega)), fun z => w1 (k1' (by omega)), fun z => w2 (k2 (by omega)), fun z => w3 (k3 (by omega)), u5⟩
        refine s_ref eL ?_
        refine s_br (fun _ => ?_) (fun _ => go _)
        refine s_br (fun _ => ?_) (fun _ => s_some (out _ a4))
        exact s_q (fun u _ => go u)
  unfold sX0_read
  have z0 : (0 : Int32).toInt = 0 := rfl
  exact lp F (by decide) (by decide) ⟨fun _ => by decide, fun _ => by decide, fun _ => by decide, fun _ => by decide, fun _ => by decide, by decide⟩ ((ky_i (x := 0) (by decide)).mpr (ky_sum (e0 := 0) (e1 := 0) (e2 := 0) (e3 := 0) (e4 := 0) (by decide) (by decide) (by decide) (by decide) (by decide) rfl)) (by decide) (by rw [z0]; omega)
end
