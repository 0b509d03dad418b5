theorem ti_andl {x y : Int32} (hx : 0 ≤ x.toInt) : (x &&& y).toInt ≤ x.toInt := (rg_and' (c := x.toInt) (d := x.toInt) (x := x) (y := y) ⟨Int.le_refl _, Int.le_refl _⟩ hx).2
theorem ti_andr {x y : Int32} (hy : 0 ≤ y.toInt) : (x &&& y).toInt ≤ y.toInt := (rg_and (c := y.toInt) (d := y.toInt) (x := x) (y := y) ⟨Int.le_refl _, Int.le_refl _⟩ hy).2
/-- men that are not told yet have no steps -/
def RulZ (f : Nat) (h : Hp) : Prop := ∀ s, hR h f 4 = some s → ∀ i : Nat, i < 12 → (hI h f 2).toInt ≤ (i : Int) → hI h s i = 0
def FreshZ (x0 : Nat) (h : Hp) : Prop := ∀ f, hR h x0 5 = some f → RulZ f h
def MS (x0 : Nat) (m : Int32) (h : Hp) : Prop := ∀ f s, hR h x0 5 = some f → hR h f 4 = some s → m.toInt < (hI h f 2).toInt ∧ (hI h s m.toNatClampNeg).toInt ≤ 7 ∧ ∀ i : Nat, i < 12 → (hI h f 2).toInt ≤ (i : Int) → hI h s i = 0
section
variable {ρ : Nat → Nat} {c : Cm} {h h2 : Hp} {S : Nat → Nat → Nat → Bool} {x0 : Nat}
theorem th_f5 (T : TH ρ c h) (r0 : ρ x0 = 16) {f : Nat} (hf : hR h x0 5 = some f) : ρ f = 15 := by
  obtain ⟨q, e1, e2⟩ := thR T r0 (i := 5) (k2 := 15) rfl (by decide)
  rw [e1] at hf; rw [← Option.some.inj hf, e2]
theorem th_f4 (T : TH ρ c h) {f s : Nat} (r0 : ρ f = 15) (hf : hR h f 4 = some s) : ρ s = 74 := by
  obtain ⟨q, e1, e2⟩ := thR T r0 (i := 4) (k2 := 74) rfl (by decide)
  rw [e1] at hf; rw [← Option.some.inj hf, e2]
theorem fz_fr (T : TH ρ c h) (r0 : ρ x0 = 16) (f : Fr ρ (cat c S h) h h2) (s1 : ∀ w, S 16 w 5 = false) (s2 : ∀ w, S 15 w 4 = false) (s3 : ∀ w, S 15 w 2 = false) (s4 : ∀ w i, S 74 w i = false) (P : FreshZ x0 h) : FreshZ x0 h2 := fun g hg s hs i hi hm => by
  rw [(fr_RI f r0 (by decide) s1).2.2] at hg
  have rg := th_f5 T r0 hg
  rw [(fr_RI f rg (by decide) s2).2.2] at hs
  have rs := th_f4 T rg hs
  rw [(fr_RI f rg (by decide) s3).1] at hm
  rw [(fr_RI f rs (by decide) (fun w => s4 w i)).1]
  exact P g hg s hs i hi hm
theorem ms_fr {m : Int32} (T : TH ρ c h) (r0 : ρ x0 = 16) (f : Fr ρ (cat c S h) h h2) (s1 : ∀ w, S 16 w 5 = false) (s2 : ∀ w, S 15 w 4 = false) (s3 : ∀ w, S 15 w 2 = false) (s4 : ∀ w i, S 74 w i = false) (P : MS x0 m h) : MS x0 m h2 := fun g s hg hs => by
  rw [(fr_RI f r0 (by decide) s1).2.2] at hg
  have rg := th_f5 T r0 hg
  rw [(fr_RI f rg (by decide) s2).2.2] at hs
  have rs := th_f4 T rg hs
  obtain ⟨a1, a2, a3⟩ := P g s hg hs
  refine ⟨by rw [(fr_RI f rg (by decide) s3).1]; exact a1, by rw [(fr_RI f rs (by decide) (fun w => s4 w _)).1]; exact a2, fun i hi hm => ?_⟩
  rw [(fr_RI f rg (by decide) s3).1] at hm
  rw [(fr_RI f rs (by decide) (fun w => s4 w i)).1]
  exact a3 i hi hm
theorem fz_men {f : Nat} {v : Int32} (T : TH ρ c h) (r0 : ρ x0 = 16) (P : FreshZ x0 h) (hf : hR h x0 5 = some f) (ev : v = hI h f 2) (iv : Rg 0 11 v) (e : h2 = wI h f 2 (hI h f 2 + (1 : Int32))) : MS x0 v h2 := fun g s hg hs => by
  have rf := th_f5 T r0 hf
  have hg1 : hR h x0 5 = some g := by rw [e] at hg; exact hg
  have hs1 : hR h g 4 = some s := by rw [e] at hs; exact hs
  have gf : g = f := by rw [hf] at hg1; exact (Option.some.inj hg1).symm
  subst gf
  have rs := th_f4 T rf hs1
  have m2 : (hI h2 g 2).toInt = v.toInt + 1 := by
    rw [e, r_I, if_pos ⟨rfl, rfl⟩, ← ev]
    exact rg_inc iv (by decide)
  have ss : ∀ i, hI h2 s i = hI h s i := fun i => by rw [e, r_I, if_neg (ne_r rs rf (by decide))]
  obtain ⟨j, ej, tj, hj⟩ := rg_nI iv (Int.le_refl 0)
  have b2 := iv.2
  have cj : v.toNatClampNeg = j := by rw [ej, z_clamp hj]
  have z0 : hI h s j = 0 := P g hf s hs1 j (by omega) (by rw [← ev]; omega)
  refine ⟨by omega, ?_, fun i hi hm => ?_⟩
  · rw [ss, cj, z0]; decide
  · rw [ss]
    exact P g hf s hs1 i hi (by rw [← ev]; omega)
theorem ms_step {f s : Nat} {m v : Int32} (T : TH ρ c h) (r0 : ρ x0 = 16) (P : MS x0 m h) (hf : hR h x0 5 = some f) (hs : hR h f 4 = some s) (im : Rg 0 11 m) (e : h2 = wI h s m.toNatClampNeg v) : FreshZ x0 h2 ∧ (v.toInt ≤ 7 → MS x0 m h2) := by
  have rf := th_f5 T r0 hf
  have rs := th_f4 T rf hs
  obtain ⟨a1, a2, a3⟩ := P f s hf hs
  obtain ⟨j, ej, tj, hj⟩ := rg_nI im (Int.le_refl 0)
  have cj : m.toNatClampNeg = j := by rw [ej, z_clamp hj]
  have mf : hI h2 f 2 = hI h f 2 := by rw [e, r_I, if_neg (ne_r rf rs (by decide))]
  have so : ∀ i : Nat, (hI h f 2).toInt ≤ (i : Int) → hI h2 s i = hI h s i := fun i hm => by
    rw [e, r_I, if_neg (fun q => by have := q.2; omega)]
  have id1 : ∀ g, hR h2 x0 5 = some g → g = f := fun g hg => by
    have hg1 : hR h x0 5 = some g := by rw [e] at hg; exact hg
    rw [hf] at hg1; exact (Option.some.inj hg1).symm
  have id2 : ∀ t, hR h2 f 4 = some t → t = s := fun t ht => by
    have ht1 : hR h f 4 = some t := by rw [e] at ht; exact ht
    rw [hs] at ht1; exact (Option.some.inj ht1).symm
  refine ⟨fun g hg t ht i hi hm => ?_, fun hv g t hg ht => ?_⟩
  · have := id1 g hg; subst this
    have := id2 t ht; subst this
    rw [mf] at hm
    rw [so i hm]
    exact a3 i hi hm
  · have := id1 g hg; subst this
    have := id2 t ht; subst this
    refine ⟨by rw [mf]; exact a1, by rw [e, r_I, if_pos ⟨rfl, rfl⟩]; exact hv, fun i hi hm => ?_⟩
    rw [mf] at hm
    rw [so i hm]
    exact a3 i hi hm
theorem ms_fz {m : Int32} (P : MS x0 m h) : FreshZ x0 h := fun f hf s hs => (P f s hf hs).2.2
theorem ms_use {m : Int32} {f s : Nat} (P : MS x0 m h) (hf : hR h x0 5 = some f) (hs : hR h f 4 = some s) : (hI h s m.toNatClampNeg).toInt ≤ 7 := (P f s hf hs).2.1
theorem rz_fr {f0 : Nat} (T : TH ρ c h) (r0 : ρ f0 = 15) (f : Fr ρ (cat c S h) h h2) (s2 : ∀ w, S 15 w 4 = false) (s3 : ∀ w, S 15 w 2 = false) (s4 : ∀ w i, S 74 w i = false) (P : RulZ f0 h) : RulZ f0 h2 := fun s hs i hi hm => by
  rw [(fr_RI f r0 (by decide) s2).2.2] at hs
  have rs := th_f4 T r0 hs
  rw [(fr_RI f r0 (by decide) s3).1] at hm
  rw [(fr_RI f rs (by decide) (fun w => s4 w i)).1]
  exact P s hs i hi hm
theorem fz_clear {r : Nat} (f : Fr ρ (cat c S h) h h2) (r0 : ρ x0 = 16) (hr : hR h x0 5 = some r) (s1 : ∀ w, S 16 w 5 = false) (P : RulZ r h2) : FreshZ x0 h2 := fun g hg => by
  rw [(fr_RI f r0 (by decide) s1).2.2, hr] at hg
  rw [← Option.some.inj hg]
  exact P
def Kz (x0 s : Nat) (h : Hp) : Prop := hR h x0 4 = some s ∧ ∀ i : Nat, i < 12 → hI h s i = 0
theorem kz_w {s j : Nat} {v : Int32} (r0 : ρ x0 = 15) (q0 : ρ s = 74) (K : Kz x0 s h) (e : h2 = wI h x0 j v) : Kz x0 s h2 := ⟨hr_w e K.1, fun i hi => by rw [e, r_I, if_neg (ne_r q0 r0 (by decide))]; exact K.2 i hi⟩
theorem kz_j {s j : Nat} {v : Int64} (K : Kz x0 s h) (e : h2 = wJ h x0 j v) : Kz x0 s h2 := ⟨hr_j e K.1, fun i hi => by rw [e]; exact K.2 i hi⟩
theorem clr22 {F s : Nat} (hO : pmO c (cw c x0) [(74, 999), (81, 999), (15, 2), (15, 10), (15, 11), (15, 12), (15, 15), (15, 16), (15, 17), (15, 18), (15, 19), (15, 20), (15, 21), (15, 22), (15, 23)]) (r0 : ρ x0 = 15) (q0 : ρ s = 74) : ∀ (f : Nat) {h : Hp} {x1 : Int32}, TH ρ c h → hR h x0 4 = some s → Rg 0 12 x1 → (∀ i : Nat, i < x1.toNatClampNeg → hI h s i = 0) → (12 - x1.toInt).toNat < f → Sat (sX14_clear_22 F f h x0 x1) (ZQ (ZV ρ c) (fun o => RulZ x0 o)) := by
  intro f
  induction f with
  | zero => intros; omega
  | succ f ih =>
    intro h x1 T hs i1 K hm
    rw [sX14_clear_22]
    obtain ⟨j, ej, tj, hj⟩ := rg_nI i1 (Int.le_refl 0)
    have cj : x1.toNatClampNeg = j := by rw [ej, z_clamp hj]
    refine s_br (fun c1 => ?_) (fun c1 => ?_)
    · have := le_i c1
      have e12 : (12 : Int32).toInt = 12 := rfl
      have K0 : Kz x0 s h := ⟨hs, fun i hi => K i (by rw [cj]; omega)⟩
      refine s_hq (th_wI T r0 (k := 15) (lo := 0) (hi := 1) rfl (rg_b rfl) (by decide) (by decide) (pm_o hO rfl rfl)) (fun h2 T2 e2 => ?_)
      refine s_hq (th_wI T2 r0 (k := 15) (lo := 0) (hi := 1) rfl (rg_b rfl) (by decide) (by decide) (pm_o hO rfl rfl)) (fun h3 T3 e3 => ?_)
      refine s_hq (th_wI T3 r0 (k := 15) (lo := 0) (hi := 1) rfl (rg_b rfl) (by decide) (by decide) (pm_o hO rfl rfl)) (fun h4 T4 e4 => ?_)
      refine s_hq (th_wI T4 r0 (k := 15) (lo := 0) (hi := 1) rfl (rg_b rfl) (by decide) (by decide) (pm_o hO rfl rfl)) (fun h5 T5 e5 => ?_)
      refine s_hq (th_wI T5 r0 (k := 15) (lo := 0) (hi := 4095) rfl (rg_b rfl) (by decide) (by decide) (pm_o hO rfl rfl)) (fun h6 T6 e6 => ?_)
      refine s_hq (th_wI T6 r0 (k := 15) (lo := 0) (hi := 9) rfl (rg_b rfl) (by decide) (by decide) (pm_o hO rfl rfl)) (fun h7 T7 e7 => ?_)
      refine s_hq (th_wJ T7 r0 (by decide) (pm_o hO rfl rfl)) (fun h8 T8 e8 => ?_)
      refine s_hq (th_wI T8 r0 (k := 15) (lo := 0) (hi := 2) rfl (rg_b rfl) (by decide) (by decide) (pm_o hO rfl rfl)) (fun h9 T9 e9 => ?_)
      refine s_hq (th_wI T9 r0 (k := 15) (lo := 0) (hi := 2) rfl (rg_b rfl) (by decide) (by decide) (pm_o hO rfl rfl)) (fun h10 T10 e10 => ?_)
      have K10 := kz_w r0 q0 (kz_w r0 q0 (kz_j (kz_w r0 q0 (kz_w r0 q0 (kz_w r0 q0 (kz_w r0 q0 (kz_w r0 q0 (kz_w r0 q0 K0 e2) e3) e4) e5) e6) e7) e8) e9) e10
      refine s_some ⟨T10, fun t ht i hi _ => ?_⟩
      rw [K10.1] at ht
      rw [← Option.some.inj ht]
      exact K10.2 i hi
    · have ix : Rg 0 11 x1 := rg_lt1 (nle_lt c1) i1 (rg_b rfl : Rg 12 12 (12 : Int32))
      refine s_ref hs ?_
      refine s_gd (by rw [thN T q0 (k := 74) (n := 12) rfl (by decide)]; exact rg_inB ix (by decide)) ?_
      refine s_hq (th_wI T q0 (k := 74) (lo := 0) (hi := 8) rfl (rg_b rfl) (by decide) (by decide) (pm_o hO (th_ih T r0 rfl hs rfl) rfl)) (fun h13 T13 e13 => ?_)
      obtain ⟨r, er, qr⟩ := thR T13 r0 (i := 14) (k2 := 81) rfl (by decide)
      refine s_ref er ?_
      refine s_gd (by rw [thN T13 qr (k := 81) (n := 12) rfl (by decide)]; exact rg_inB ix (by decide)) ?_
      refine s_hq (th_wI T13 qr (k := 81) (lo := 0) (hi := 6) rfl (rg_b rfl) (by decide) (by decide) (pm_o hO (th_ih T13 r0 rfl er rfl) rfl)) (fun h16 T16 e16 => ?_)
      refine s_q (fun v ev => ?_)
      have m : v.toInt = x1.toInt + 1 := by rw [ev]; exact rg_inc ix (by decide)
      have b1 := ix.1
      have b2 := ix.2
      have mc : v.toNatClampNeg = j + 1 := by
        have e : v = nI (j + 1) := by rw [ev, ej]; exact z_add j 1
        rw [e, z_clamp (by omega)]
      refine ih T16 (hr_w e16 (hr_w e13 hs)) ⟨by omega, by omega⟩ (fun i hi => ?_) (by omega)
      rw [e16, r_I, if_neg (ne_r q0 qr (by decide)), e13, r_I, cj]
      by_cases z : i = j
      · rw [if_pos ⟨rfl, z⟩]
      · rw [if_neg (fun w => z w.2)]
        exact K i (by rw [cj]; rw [mc] at hi; omega)
theorem zX14_clear {F : Nat} (hF : 700000 ≤ F) (hO : pmO c (cw c x0) [(74, 999), (81, 999), (15, 2), (15, 10), (15, 11), (15, 12), (15, 15), (15, 16), (15, 17), (15, 18), (15, 19), (15, 20), (15, 21), (15, 22), (15, 23)]) (T : TH ρ c h) (r0 : ρ x0 = 15) : Sat (sX14_clear F h x0) (ZQ (ZV ρ c) (fun o => RulZ x0 o)) := by
  unfold sX14_clear
  refine s_hq (th_wI T r0 (k := 15) (lo := 0) (hi := 12) rfl (rg_b rfl) (by decide) (by decide) (pm_o hO rfl rfl)) (fun h1 T1 e1 => ?_)
  refine s_hq (th_wI T1 r0 (k := 15) (lo := -1) (hi := 11) rfl (rg_b rfl) (by decide) (by decide) (pm_o hO rfl rfl)) (fun h2 T2 e2 => ?_)
  refine s_hq (th_wI T2 r0 (k := 15) (lo := -1) (hi := 11) rfl (rg_b rfl) (by decide) (by decide) (pm_o hO rfl rfl)) (fun h3 T3 e3 => ?_)
  refine s_hq (th_wI T3 r0 (k := 15) (lo := -1) (hi := 11) rfl (rg_b rfl) (by decide) (by decide) (pm_o hO rfl rfl)) (fun h4 T4 e4 => ?_)
  obtain ⟨s, hs, qs⟩ := thR T4 r0 (i := 4) (k2 := 74) rfl (by decide)
  have z : (0 : Int32).toInt = 0 := rfl
  exact clr22 hO r0 qs F T4 hs ⟨by rw [z]; omega, by rw [z]; omega⟩ (fun i hi => absurd hi (by rw [show (0 : Int32).toNatClampNeg = 0 from by decide]; omega)) (by rw [z]; omega)
end
def Ta (x0 x1 : Nat) (h : Hp) : Prop := 97 ≤ (hI h x1 (hI h x0 7).toNatClampNeg).toInt ∧ (hI h x1 (hI h x0 7).toNatClampNeg).toInt ≤ 122
def WdP (x0 x1 : Nat) (h : Hp) : Prop := (hI h x0 6).toInt = 1 → Ta x0 x1 h
section
variable {ρ : Nat → Nat} {c : Cm} {h h2 : Hp} {S : Nat → Nat → Nat → Bool} {x0 x1 : Nat}
theorem ta_fr (T : TH ρ c h) (r0 : ρ x0 = 16) (r1 : ρ x1 = 82) (f : Fr ρ (cat c S h) h h2) (s1 : ∀ w, S 16 w 7 = false) (s2 : ∀ w i, S 82 w i = false) (P : Ta x0 x1 h) : Ta x0 x1 h2 := by
  unfold Ta at P ⊢
  rw [(fr_RI f r0 (by decide) s1).1, (fr_RI f r1 (by decide) (fun w => s2 w _)).1]
  exact P
theorem wd_fr (T : TH ρ c h) (r0 : ρ x0 = 16) (r1 : ρ x1 = 82) (f : Fr ρ (cat c S h) h h2) (s0 : ∀ w, S 16 w 6 = false) (s1 : ∀ w, S 16 w 7 = false) (s2 : ∀ w i, S 82 w i = false) (P : WdP x0 x1 h) : WdP x0 x1 h2 := fun q => by
  rw [(fr_RI f r0 (by decide) s0).1] at q
  exact ta_fr T r0 r1 f s1 s2 (P q)
theorem wd_use (P : WdP x0 x1 h) (q : (hI h x0 6).toInt = 1) : Rg 97 122 (hI h x1 (hI h x0 7).toNatClampNeg) := P q
theorem ta_in {x3 : Int32} (e : hI h x0 7 = x3) (P : 97 ≤ (hI h x1 x3.toNatClampNeg).toInt ∧ (hI h x1 x3.toNatClampNeg).toInt ≤ 122) : Ta x0 x1 h := by
  unfold Ta; rw [e]; exact P
theorem ta_wd (P : Ta x0 x1 h) : WdP x0 x1 h := fun _ => P
end
theorem gm_0 : GM (0 : Int32) := ⟨rg_b rfl, Or.inl (rg_b rfl), Or.inl (rg_b rfl)⟩
/-- a man stands on the square of the position that the moves object works on -/
def MenAt (x0 : Nat) (x1 : Int32) (h : Hp) : Prop := ∀ p on, hR h x0 4 = some p → hR h p 0 = some on → 0 ≤ (hI h on x1.toNatClampNeg).toInt
section
variable {ρ : Nat → Nat} {c : Cm} {h h2 : Hp} {S : Nat → Nat → Nat → Bool} {x0 : Nat} {x1 : Int32}
theorem ma_use {p on : Nat} (P : MenAt x0 x1 h) (e1 : hR h x0 4 = some p) (e2 : hR h p 0 = some on) : 0 ≤ (hI h on x1.toNatClampNeg).toInt := P p on e1 e2
theorem ma_fr (T : TH ρ c h) (r0 : ρ x0 = 6) (f : Fr ρ (cat c S h) h h2) (s1 : ∀ w, S 6 w 4 = false) (s2 : ∀ w, S 4 w 0 = false) (s3 : ∀ w i, S 34 w i = false) (P : MenAt x0 x1 h) : MenAt x0 x1 h2 := fun p on e1 e2 => by
  rw [(fr_RI f r0 (by decide) s1).2.2] at e1
  have hp : ρ p = 4 := thRn T r0 (i := 4) (k2 := 4) rfl (by decide) e1
  rw [(fr_RI f hp (by decide) s2).2.2] at e2
  rw [(fr_RI f (th_on T hp e2) (by decide) (fun w => s3 w _)).1]
  exact P p on e1 e2
end
theorem lt_or {x : Int32} (h : LT x) : x.toInt = 0 ∨ (97 ≤ x.toInt ∧ x.toInt ≤ 122) := by
  rcases h with h | h
  · exact Or.inl (by rw [h]; rfl)
  · exact Or.inr h
/-- a step of the man that is led comes to the square -/
def StepAt (x0 : Nat) (x3 : Int32) (h : Hp) : Prop := ∀ r, hR h x0 25 = some r → 0 ≤ (hI h r x3.toNatClampNeg).toInt
theorem sa_fr {ρ : Nat → Nat} {c : Cm} {h h2 : Hp} {S : Nat → Nat → Nat → Bool} {x0 : Nat} {x3 : Int32} (T : TH ρ c h) (r0 : ρ x0 = 16) (f : Fr ρ (cat c S h) h h2) (s1 : ∀ w, S 16 w 25 = false) (s2 : ∀ w i, S 87 w i = false) (P : StepAt x0 x3 h) : StepAt x0 x3 h2 := fun r hr => by
  rw [(fr_RI f r0 (by decide) s1).2.2] at hr
  obtain ⟨q, e1, e2⟩ := thR T r0 (i := 25) (k2 := 87) rfl (by decide)
  have : r = q := by rw [e1] at hr; exact (Option.some.inj hr).symm
  rw [(fr_RI f (this ▸ e2) (by decide) (fun w => s2 w _)).1]
  exact P r hr
