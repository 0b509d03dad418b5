theorem bj_zero (s : Nat) : bitJ (0 : Int64) s = false := by
  show (0#64).getLsbD s = false
  exact BitVec.getLsbD_zero
section
variable {ρ : Nat → Nat} {c : Cm} {h : Hp}
theorem fillBx5 {F p0 on : Nat} (hw : ∀ i, cPm c 34 (cw c on) i = true) (r0 : ρ p0 = 4) (q0 : ρ on = 34) : ∀ (f : Nat) {h : Hp} {x2 : Int32}, THx ρ c p0 h → hR h p0 0 = some on → Rg 0 64 x2 → (64 - x2.toInt).toNat < f → Sat (sJ7_fill_031fb_5 F f h on (-1 : Int32) x2 (nI 64)) (fun g => THx ρ c p0 g ∧ ∀ a i, hR g a i = hR h a i) := by
  intro f
  induction f with
  | zero => intros; omega
  | succ f ih =>
    intro h x2 T ho i2 hm
    rw [sJ7_fill_031fb_5]
    refine s_br (fun c1 => ?_) (fun c1 => ?_)
    · exact s_some ⟨T, fun _ _ => rfl⟩
    · have i2' : Rg 0 63 x2 := rg_lt1 (nle_lt c1) i2 (rg_nIn (n := 64) rfl (by decide))
      refine s_gd (by rw [pxN T q0 (k := 34) (n := 64) rfl (by decide)]; exact rg_inB i2' (by decide)) ?_
      refine s_q (fun h3 e3 => ?_)
      have T3 : THx ρ c p0 h3 := by
        rw [e3]
        exact thx_wI T r0 q0 (lo := -2) (hi := 23) rfl (rg_m (rg_narb (a := -1) (b := -1) (rg_b rfl) (by decide)) (by decide)) (by decide) (fun _ => ho) (hw _)
      refine s_q (fun v ev => ?_)
      have m : v.toInt = x2.toInt + 1 := by rw [ev]; exact rg_inc i2' (by decide)
      have b1 := i2'.1
      have b2 := i2'.2
      refine s_imp (ih T3 (hr_w e3 ho) ⟨by omega, by omega⟩ (by omega)) (fun g hg => ⟨hg.1, fun a i => ?_⟩)
      rw [hg.2, e3]
      rfl
theorem fillJx6 {F p0 of : Nat} {x1 : Int64} (hw : ∀ i, cPm c 35 (cw c of) i = true) (r0 : ρ p0 = 4) (q0 : ρ of = 35) : ∀ (f : Nat) {h : Hp} {x3 : Int32}, THx ρ c p0 h → hR h p0 1 = some of → Rg 0 2 x3 → (∀ d, d < x3.toNatClampNeg → hJ h of d = x1) → (2 - x3.toInt).toNat < f → Sat (sJ7_fill_d0a16_6 F f h of x1 x3 (nI 2)) (fun g => THx ρ c p0 g ∧ (∀ d, d < 2 → hJ g of d = x1) ∧ ∀ a i, hR g a i = hR h a i) := by
  intro f
  induction f with
  | zero => intros; omega
  | succ f ih =>
    intro h x3 T ho i2 hd hm
    rw [sJ7_fill_d0a16_6]
    obtain ⟨j, ej, tj, hj⟩ := rg_nI i2 (Int.le_refl 0)
    have jx : x3.toNatClampNeg = j := by rw [ej, z_clamp hj]
    refine s_br (fun c1 => ?_) (fun c1 => ?_)
    · refine s_some ⟨T, fun d h2 => hd d ?_, fun _ _ => rfl⟩
      rw [Int32.le_iff_toInt_le, z_toInt (by decide)] at c1
      rw [jx]
      omega
    · have i2' : Rg 0 1 x3 := rg_lt1 (nle_lt c1) i2 (rg_nIn (n := 2) rfl (by decide))
      refine s_gd (by rw [pxN T q0 (k := 35) (n := 2) rfl (by decide)]; exact rg_inB i2' (by decide)) ?_
      refine s_q (fun h3 e3 => ?_)
      have T3 : THx ρ c p0 h3 := by rw [e3]; exact thx_wJ T r0 q0 (fun _ => ho) (hw _)
      refine s_q (fun v ev => ?_)
      have m : v.toInt = x3.toInt + 1 := by rw [ev]; exact rg_inc i2' (by decide)
      have mc : v.toNatClampNeg = j + 1 := by
        have e : v = nI (j + 1) := by
          rw [ev, ej]
          exact z_add j 1
        have := i2'.2
        rw [e, z_clamp (by omega)]
      have b1 := i2'.1
      have b2 := i2'.2
      refine s_imp (ih T3 (hr_j e3 ho) ⟨by omega, by omega⟩ (fun d hdd => ?_) (by omega)) (fun g hg => ⟨hg.1, hg.2.1, fun a i => ?_⟩)
      · rw [e3, r_J, jx]
        by_cases z : d = j
        · rw [if_pos ⟨rfl, z⟩]
        · rw [if_neg (fun w => z w.2)]
          exact hd d (by rw [jx]; rw [mc] at hdd; omega)
      · rw [hg.2.2, e3]
        rfl
theorem zX3_strip {F : Nat} (hF : 700000 ≤ F) {x0 : Nat} (hO : pmO c (cw c x0) [(37, 999), (38, 999), (4, 6), (4, 8), (4, 9), (4, 10)]) (T : TH ρ c h) (r0 : ρ x0 = 4) : Sat (sX3_strip F h x0) (fun o => ZV ρ c o ∧ (hI o x0 6).toInt = 0) := by
  unfold sX3_strip
  refine s_h (th_wJ T r0 (by decide) (pm_o hO rfl rfl)) (fun h1 T1 => ?_)
  refine s_h (th_wJ T1 r0 (by decide) (pm_o hO rfl rfl)) (fun h2 T2 => ?_)
  refine s_h (th_wJ T2 r0 (by decide) (pm_o hO rfl rfl)) (fun h3 T3 => ?_)
  obtain ⟨r4, e4, q4⟩ := thR T3 r0 (i := 3) (k2 := 37) rfl (by decide)
  refine s_ref e4 ?_
  refine s_cV (zJ7_fill_d0a16 hF T3 q4 (n := 2) rfl (by decide) (by decide) (by decide) (fun _ => pm_o hO (th_ih T3 r0 rfl e4 rfl) rfl)) (fun o5 T5 => ?_)
  obtain ⟨r6, e6, q6⟩ := thR T5 r0 (i := 4) (k2 := 38) rfl (by decide)
  refine s_ref e6 ?_
  refine s_cV (zJ7_fill_53178 hF T5 q6 (lo := 0) (hi := 9) (n := 2) (rg_b rfl) (fun _ => rfl) rfl (by decide) (by decide) (by decide) (by decide) (fun _ => pm_o hO (th_ih T5 r0 rfl e6 rfl) rfl)) (fun o7 T7 => ?_)
  exact s_hq (th_wI T7 r0 (k := 4) (lo := 0) (hi := 999) rfl (rg_b rfl) (by decide) (by decide) (pm_o hO rfl rfl)) (fun h8 T8 e8 => s_some ⟨T8, by rw [e8, r_I, if_pos ⟨rfl, rfl⟩]; rfl⟩)
theorem zX3_clear {F : Nat} (hF : 700000 ≤ F) {x0 : Nat} (hO : pmO c (cw c x0) [(34, 999), (35, 999), (36, 999), (37, 999), (38, 999), (4, 5), (4, 6), (4, 8), (4, 9), (4, 10)]) (T : TH ρ c h) (r0 : ρ x0 = 4) : Sat (sX3_clear F h x0) (fun o => ZV ρ c o ∧ (hI o x0 6).toInt = 0) := by
  unfold sX3_clear
  obtain ⟨on, k1, p1⟩ := thR T r0 (i := 0) (k2 := 34) rfl (by decide)
  obtain ⟨of, k2, p2⟩ := thR T r0 (i := 1) (k2 := 35) rfl (by decide)
  refine s_ref k1 ?_
  have z : (0 : Int32).toInt = 0 := rfl
  refine s_cl (s_imp (Q := fun g => THx ρ c x0 g ∧ ∀ a i, hR g a i = hR h a i) ?_ (fun o2 w2 => ?_))
  · unfold sJ7_fill_031fb
    refine s_nm ?_
    rw [thN T p1 (k := 34) (n := 64) rfl (by decide)]
    exact fillBx5 (fun _ => pm_o hO (th_ih T r0 rfl k1 rfl) rfl) r0 p1 F (thx_of T) k1 ⟨by rw [z]; omega, by rw [z]; omega⟩ (by rw [z]; omega)
  · obtain ⟨T2, g2⟩ := w2
    have k22 : hR o2 x0 1 = some of := by rw [g2]; exact k2
    refine s_ref k22 ?_
    refine s_cl (s_imp (Q := fun g => THx ρ c x0 g ∧ (∀ d, d < 2 → hJ g of d = 0) ∧ ∀ a i, hR g a i = hR o2 a i) ?_ (fun o4 w4 => ?_))
    · unfold sJ7_fill_d0a16
      refine s_nm ?_
      rw [pxN T2 p2 (k := 35) (n := 2) rfl (by decide)]
      refine fillJx6 (fun _ => pm_o hO (th_ih T r0 rfl k2 rfl) rfl) r0 p2 F T2 k22 ⟨by rw [z]; omega, by rw [z]; omega⟩ (fun d hd => ?_) (by rw [z]; omega)
      rw [show (0 : Int32).toNatClampNeg = 0 from by decide] at hd
      exact absurd hd (Nat.not_lt_zero _)
    · obtain ⟨T4x, j4, g4⟩ := w4
      have T4 : TH ρ c o4 := thx_to T4x (fun on' of' ho hf s hs d hd hb => by
        rw [g4, k22] at hf
        rw [← Option.some.inj hf, j4 d hd, bj_zero] at hb
        exact absurd hb (by decide))
      obtain ⟨r5, e5, q5⟩ := thR T4 r0 (i := 2) (k2 := 36) rfl (by decide)
      refine s_ref e5 ?_
      refine s_cV (zJ7_fill_53178 hF T4 q5 (lo := -1) (hi := 63) (n := 2) (rg_b rfl) (fun _ => rfl) rfl (by decide) (by decide) (by decide) (by decide) (fun _ => pm_o hO (th_ih T4 r0 rfl e5 rfl) rfl)) (fun o6 T6 => ?_)
      refine s_h (th_wI T6 r0 (k := 4) (lo := 0) (hi := 1) rfl (rg_b rfl) (by decide) (by decide) (pm_o hO rfl rfl)) (fun h7 T7 => ?_)
      exact s_cl (s_imp (zX3_strip hF (pmO_s hO rfl) T7 r0) (fun o8 T8 => s_some T8))
end
