section
/-! rules of the reference -/
section
variable {ρ : Nat → Nat} {c : Cm} {x0 F : Nat} {h g : Hp} {B : Nat × Nat}
theorem ru_56 {s : Nat} {o : Int32 × Hp} (qs : ρ s = 85) (r0 : ρ x0 = 16) : ∀ (f : Nat) {h : Hp} {x2 : Int32}, (∀ r, hR h x0 39 = some r → ρ r = 94) → sX15_rules_56 F f h x0 x2 = some o → hI o.2 x0 50 = 0 ∧ hI o.2 x0 44 = 0 ∧ hI o.2 x0 65 = 0 ∧ ∀ i, hI o.2 s i = hI h s i := by
  have ne : ∀ {a d p q : Nat}, ρ a = p → ρ d = q → p ≠ q → ¬ a = d := fun ha hd hpq z => hpq (by rw [← ha, z]; exact hd)
  intro f
  induction f with
  | zero => intro h x2 _ e; exact absurd e (by simp [sX15_rules_56])
  | succ f ih =>
    intro h x2 q94 e
    unfold sX15_rules_56 at e
    replace e := br_s e; rcases e with ⟨_, e⟩ | ⟨_, e⟩
    · replace e := nm_s e; obtain ⟨h2, w2, e⟩ := e
      replace e := nm_s e; obtain ⟨h3, w3, e⟩ := e
      replace e := nm_s e; obtain ⟨h4, w4, e⟩ := e
      replace e := cl_s e; obtain ⟨_, _, e⟩ := e
      rw [← Option.some.inj e]
      refine ⟨?_, ?_, ?_, fun i => ?_⟩
      · show hI h4 x0 50 = 0
        rw [w4, rI_o (by decide), w3, rI_o (by decide), w2, rI_s]
      · show hI h4 x0 44 = 0
        rw [w4, rI_o (by decide), w3, rI_s]
      · show hI h4 x0 65 = 0
        rw [w4, rI_s]
      · show hI h4 s i = _
        rw [w4, rI_a (ne qs r0 (by decide)), w3, rI_a (ne qs r0 (by decide)), w2, rI_a (ne qs r0 (by decide))]
    replace e := cl_s e; obtain ⟨r6, e6, e⟩ := e
    replace e := (gd_s e).2
    replace e := nm_s e; obtain ⟨h8, w8, e⟩ := e
    replace e := nm_s e; obtain ⟨_, _, e⟩ := e
    obtain ⟨a1, a2, a3, a4⟩ := ih (h := h8) (fun r er => q94 r (by rw [w8] at er; exact er)) e
    exact ⟨a1, a2, a3, fun i => by rw [a4, w8, rI_a (ne qs (q94 r6 e6) (by decide))]⟩
theorem ru_35 {s : Nat} {o : Int32 × Hp} (qs : ρ s = 85) (r0 : ρ x0 = 16) : ∀ (f : Nat) {h : Hp} {x2 : Int32}, hR h x0 15 = some s → (∀ r, hR h x0 39 = some r → ρ r = 94) → 0 ≤ x2.toInt → (∀ i : Nat, (i : Int) < x2.toInt → hI h s i = 0) → sX15_rules_35 F f h x0 x2 = some o → hI o.2 x0 50 = 0 ∧ hI o.2 x0 44 = 0 ∧ hI o.2 x0 65 = 0 ∧ ∀ i, i < 60 → hI o.2 s i = 0 := by
  have z60 : (60 : Int32).toInt = 60 := rfl
  have z1 : (1 : Int32).toInt = 1 := rfl
  intro f
  induction f with
  | zero => intro h x2 _ _ _ _ e; exact absurd e (by simp [sX15_rules_35])
  | succ f ih =>
    intro h x2 es q94 a2 C e
    unfold sX15_rules_35 at e
    replace e := br_s e; rcases e with ⟨l, e⟩ | ⟨l, e⟩
    · have l := le_i l
      obtain ⟨a1, a2', a3, a4⟩ := ru_56 qs r0 F q94 e
      exact ⟨a1, a2', a3, fun i hi => by rw [a4]; exact C i (by omega)⟩
    have l := nle_i l
    replace e := cl_s e; obtain ⟨s', es', e⟩ := e
    have y : s' = s := r_eq es es'
    subst y
    replace e := (gd_s e).2
    replace e := nm_s e; obtain ⟨h4, w4, e⟩ := e
    replace e := nm_s e; obtain ⟨v5, w5, e⟩ := e
    have t5 : v5.toInt = x2.toInt + 1 := by rw [w5, ta (by rw [z1]; omega), z1]
    have c2 := nc_i a2
    refine ih (h := h4) (by rw [w4]; exact es) (fun r er => q94 r (by rw [w4] at er; exact er)) (by omega) (fun i hi => ?_) e
    rw [w4, r_I]
    by_cases z : i = x2.toNatClampNeg
    · rw [if_pos ⟨rfl, z⟩]
    · rw [if_neg (fun w => z w.2)]; exact C i (by omega)
abbrev irA : List (Nat × Nat) := [(73, 999), (74, 999), (75, 999), (76, 999), (77, 999), (78, 999), (79, 999), (80, 999), (81, 999), (15, 0), (15, 1), (15, 2), (15, 10), (15, 11), (15, 12), (15, 15), (15, 16), (15, 17), (15, 18), (15, 19), (15, 20), (15, 21), (15, 22), (15, 23), (16, 6), (16, 7), (16, 8), (16, 9), (16, 10)]
abbrev tkA : List (Nat × Nat) := [(16, 4), (16, 5), (16, 11), (16, 12), (16, 13)]
abbrev rsA : List (Nat × Nat) := [(85, 999), (94, 999), (16, 44), (16, 50), (16, 65)]
theorem rw_rules (hF : 700000 ≤ F) (hp : hpR c) (T : TH ρ c h) (r0 : ρ x0 = 16) (P : RfI x0 h) (M : RmR x0 B h) : Sat (sX15_rules F h x0) (RP ρ c x0 B (fun o => hI o x0 1 = 0)) := by
  unfold sX15_rules
  refine s_q (fun v ev => ?_)
  have iv : Rg 0 1200 v := by rw [ev]; exact thI T r0 rfl
  refine s_hq (th_wI T r0 (k := 16) (lo := 0) (hi := 1200) rfl (rg_m (rg_b rfl : Rg 0 0 (0 : Int32)) (by decide)) (by decide) (by decide) (hp 16 _ 1 rfl)) (fun h2 T2 w2 => ?_)
  obtain ⟨P2, M2, z2⟩ := tp_w hp T r0 P M T2 w2
  obtain ⟨r3, e3, q3⟩ := thR T2 r0 (i := 0) (k2 := 82) rfl (by decide)
  refine s_ref e3 ?_
  refine s_cIfq (S := fS irA []) T2 (fs_r hp rfl) (zX15_isRules hF fs_a (th_in _ T2) r0 q3 iv) (fun o4 T4 i4 f4 p4 => ?_)
  have P4 := rfi_f T2 r0 f4 (ok_bad (A := irA) (L := []) rfl) P2
  have M4 : RmR x0 B o4.2 := rmr_f T2 r0 f4 (T4.1.1.trans T2.1.1.symm) (fun _ => rfl) (fun _ => rfl) (fun _ => rfl) (fun _ => rfl) (fun _ => rfl) (fun _ _ => rfl) (fun _ _ => rfl) (fun _ _ => rfl) (fun _ _ => rfl) M2
  have t4 : hI o4.2 x0 1 = 0 := by rw [(fr_RI f4 r0 (by decide) (fun _ => rfl)).1]; exact z2
  refine s_br (fun _ => s_some ⟨ρ, c, ex_0, T4, P4, M4, t4⟩) (fun n4 => ?_)
  refine s_cVfq (S := fS tkA []) T4 (fs_r hp rfl) (zX15_take hF fs_a (th_in _ T4) r0 (p4 (fun z => n4 (Int32.toInt_inj.mp z)))) (fun o6 T6 f6 sq6 => ?_)
  have M6 : RmR x0 B o6 := rmr_f T4 r0 f6 (T6.1.1.trans T4.1.1.symm) (fun _ => rfl) (fun _ => rfl) (fun _ => rfl) (fun _ => rfl) (fun _ => rfl) (fun _ _ => rfl) (fun _ _ => rfl) (fun _ _ => rfl) (fun _ _ => rfl) M4
  have t6 : hI o6 x0 1 = 0 := by rw [(fr_RI f6 r0 (by decide) (fun _ => rfl)).1]; exact t4
  obtain ⟨_, ⟨B1, p2⟩, ⟨B2, p3⟩, p5, p6, ⟨B3, p7⟩, _, p8⟩ := P4
  obtain ⟨B1', b6⟩ := bdy_ex T4 r0 f6 ⟨fun _ => rfl, fun _ => rfl, fun _ _ => rfl, fun _ _ => rfl, fun _ _ => rfl, fun _ => rfl, fun _ => rfl, fun _ => rfl⟩ p2
  obtain ⟨B2', g6⟩ := gay_ex T4 r0 f6 ⟨fun _ => rfl, fun _ _ => rfl, fun j _ => ⟨fun _ _ => rfl, fun _ => rfl, fun _ => rfl, fun _ => rfl⟩⟩ p8 p3
  have d6 := dpp_f T4 r0 f6 ⟨fun _ => rfl, fun _ => rfl, fun _ _ => rfl, fun _ _ => rfl⟩ p5
  obtain ⟨B3', fd6⟩ := fdy_ex T4 r0 f6 ⟨fun _ => rfl, fun _ _ => rfl, fun j => ⟨fun _ _ => rfl, fun _ => rfl, fun _ => rfl, fun _ => rfl⟩⟩ ⟨fun _ => rfl, fun _ _ => rfl⟩ ⟨fun _ => rfl, fun _ _ => rfl⟩ (fun _ => rfl) p7
  have n6 := nog_f T4 r0 f6 (fun _ => rfl) (fun _ _ _ => rfl) p8
  obtain ⟨s, es, qs⟩ := thR T6 r0 (i := 15) (k2 := 85) rfl (by decide)
  have q94 : ∀ r, hR o6 x0 39 = some r → ρ r = 94 := fun r er => rr T6 (thR T6 r0 (i := 39) (k2 := 94) rfl (by decide)) er
  have m9 : Rg 0 60 (0 : Int32) := rg_m (rg_b rfl : Rg 0 0 (0 : Int32)) (by decide)
  obtain ⟨o, eo, z⟩ := zX15_rules_35 (c := cat c (fS rsA []) o6) hF fs_a F (th_in _ T6) r0 m9 (by have : (0 : Int32).toInt = 0 := rfl; rw [this]; omega)
  have T7 := th_out T6 (fs_r hp rfl) z.1
  have f := fr_u T6 z.1.2.2
  obtain ⟨x50, x44, x65, xs⟩ := ru_35 qs r0 F es q94 (by decide) (fun i hi => absurd hi (by show ¬ (i : Int) < 0; omega)) eo
  have es7 : hR o.2 x0 15 = some s := by rw [(fr_RI f r0 (by decide) (fun _ => rfl)).2.2]; exact es
  obtain ⟨ra, ea, qa⟩ := thR T6 r0 (i := 14) (k2 := 84) rfl (by decide)
  have ea7 : hR o.2 x0 14 = some ra := by rw [(fr_RI f r0 (by decide) (fun _ => rfl)).2.2]; exact ea
  obtain ⟨rf, ef, qf⟩ := thR T6 r0 (i := 40) (k2 := 95) rfl (by decide)
  have ef7 : hR o.2 x0 40 = some rf := by rw [(fr_RI f r0 (by decide) (fun _ => rfl)).2.2]; exact ef
  have z0 : (0 : Int32).toInt = 0 := rfl
  refine ⟨o, eo, ρ, c, ex_0, T7, ⟨sq_fr T6 r0 f (fun _ => rfl) (fun _ => rfl) (fun _ => rfl) sq6, ?_, ?_, dpp_f T6 r0 f ⟨fun _ => rfl, fun _ => rfl, fun _ _ => rfl, fun _ _ => rfl⟩ d6, fun n => ?_, ?_, fun n => absurd x50 n, nog_f T6 r0 f (fun _ => rfl) (fun _ _ _ => rfl) n6⟩, rmr_f T6 r0 f (T7.1.1.trans T6.1.1.symm) (fun _ => rfl) (fun _ => rfl) (fun _ => rfl) (fun _ => rfl) (fun _ => rfl) (fun _ _ => rfl) (fun _ _ => rfl) (fun _ _ => rfl) (fun _ _ => rfl) M6, by show hI o.2 x0 1 = 0; rw [(fr_RI f r0 (by decide) (fun _ => rfl)).1]; exact t6⟩
  · refine ⟨(o.2.1.1 + 5 * nuC o.2 ra 60, o.2.1.2 + 162 * nuC o.2 ra 60), fun r s' e1 e2 i hi hs => ?_, fun r e1 i j a b ne ea' eb' k hk Ma Mb m1 m2 => ?_, fun r' e' => ?_⟩
    · have y : s' = s := r_eq es7 e2
      rw [y, xs i hi] at hs
      exact absurd (by decide : (0 : Int32) ≤ 0) hs
    · have y : r = ra := r_eq ea7 e1
      subst y
      rw [(fr_RI f qa (by decide) (fun _ => rfl)).2.2] at ea' eb'
      have qa' := thRn T6 qa (k2 := 13) rfl (by decide) ea'
      have qb' := thRn T6 qa (k2 := 13) rfl (by decide) eb'
      rw [(fr_RI f qa' (by decide) (fun _ => rfl)).2.2] at m1
      rw [(fr_RI f qb' (by decide) (fun _ => rfl)).2.2] at m2
      exact b6.2.1 r ea i j a b ne ea' eb' k hk Ma Mb m1 m2
    · have y : r' = ra := r_eq ea7 e'
      subst y
      exact ⟨Nat.le_refl _, Nat.le_refl _⟩
  · exact gay_ex T6 r0 f ⟨fun _ => rfl, fun _ _ => rfl, fun j _ => ⟨fun _ _ => rfl, fun _ => rfl, fun _ => rfl, fun _ => rfl⟩⟩ n6 g6
  · rw [x65] at n
    exact absurd (by decide : (0 : Int32) ≤ 0) n
  · refine ⟨(o.2.1.1 + 5 * nuC o.2 rf 3000, o.2.1.2 + 162 * nuC o.2 rf 3000), fun r er i hi => ?_, fun k hk => ?_, ⟨fun k b Bb => ?_, fun r' e' => ?_⟩, tx_fr T6 r0 f ⟨fun _ => rfl, fun _ _ => rfl⟩ fd6.2.2.2⟩
    · rw [x44, z0] at hi; omega
    · rw [x44, z0] at hk; omega
    · have B0 := (fbo_fr T6 r0 f (fun _ => rfl) (fun _ => rfl)).mpr Bb
      obtain ⟨k1, k2⟩ := fbo_r T6 r0 B0
      exact pz_fr T6 k1 f (fun _ _ => rfl) (fun _ => rfl) (fun _ => rfl) (fun _ => rfl) (fd6.2.2.1.1 k b B0)
    · have y : r' = rf := r_eq ef7 e'
      subst y
      exact ⟨Nat.le_refl _, Nat.le_refl _⟩
end
end
section
/-! what the one side leaves of the other -/
section
variable {ρ ρ1 : Nat → Nat} {c c1 : Cm} {h o : Hp} {S : Nat → Nat → Nat → Bool} {m : Nat}
theorem exm_f (T : TH ρ c h) (X : ExM ρ (cat c S h) ρ1 c1) (T1 : TH ρ1 c1 o) : Fr ρ (cat c S h) h o := by
  have lt : ∀ a, ρ a ≠ 0 → a < h.1.1 := fun a ha => by rw [T.1.1]; exact T.2.1.2.2.1 a ha
  have g : FrG ρ1 c1 (c0 c1) o := T1.2.2
  have e0 : c0 c1 = h := by show c1.2.2.2.2 = h; rw [X.2.1]; rfl
  rw [e0] at g
  refine ⟨fun a i h0 hs => g.2.1 a i (lt a h0) (by rw [(X.1 a h0).1]; exact h0) ?_, fun a h0 => g.2.2 a (lt a h0) (by rw [(X.1 a h0).1]; exact h0)⟩
  show c1.2.2.2.1 (ρ1 a) (cw c1 a) i = false
  rw [X.2.1, (X.1 a h0).1, (X.1 a h0).2]
  exact hs
/-- what a call of the class may write -/
def clSf : Nat → Nat → Nat → Bool := fun k _ _ => clR k
/-- what a call of the reference may write -/
def rfSf : Nat → Nat → Nat → Bool := fun k _ _ => rfR k
theorem cl_bad : ∀ k w i, badR k w i = true → clSf k w i = false := fun k w i b => by
  unfold badR at b
  simp at b
  have : k = 16 ∨ k = 84 ∨ k = 85 ∨ k = 90 ∨ k = 91 ∨ k = 92 ∨ k = 95 ∨ k = 96 ∨ k = 97 ∨ k = 99 ∨ k = 100 ∨ k = 101 ∨ k = 106 ∨ k = 107 ∨ k = 13 ∨ k = 62 ∨ k = 63 ∨ k = 64 := by omega
  rcases this with z | z | z | z | z | z | z | z | z | z | z | z | z | z | z | z | z | z <;> subst z <;> rfl
/-- a call of the class leaves the reference -/
theorem x_ref {na nd ng nf : Nat} (T : TH ρ c h) (X : ExM ρ (cat c clSf h) ρ1 c1) (T1 : TH ρ1 c1 o) (r0 : ρ m = 16) (P : RfI m h) (ha : dA m h na) (hd : dD m h nd) (hg : dG m h ng) (hf : dF m h nf) : RfI m o ∧ dA m o na ∧ dD m o nd ∧ dG m o ng ∧ dF m o nf ∧ d52 m o = d52 m h ∧ TpR m h o ∧ ρ1 m = 16 := by
  have f := exm_f T X T1
  exact ⟨rfi_f T r0 f cl_bad P, da_f T r0 f (fun _ => rfl) (fun _ _ => rfl) ha, dd_f T r0 f (fun _ => rfl) (fun _ _ => rfl) hd, dg_f T r0 f (fun _ => rfl) (fun _ _ => rfl) hg, df_f T r0 f (fun _ => rfl) (fun _ _ => rfl) hf, d52_f r0 f (fun _ => rfl), (fr_RI f r0 (by decide) (fun _ => rfl)).1, by rw [(X.1 m (by rw [r0]; decide)).1]; exact r0⟩
/-- a call of the reference leaves the class -/
theorem x_cls {n : Nat} (T : TH ρ c h) (X : Ext ρ (cat c rfSf h) ρ1 c1) (T1 : TH ρ1 c1 o) (r0 : ρ n = 12) (I : ClI ρ c n h) : ClI ρ1 c1 n o ∧ Tp n h o ∧ ρ1 n = 12 := by
  have f := ex_f T X T1
  have cr : ∀ k, clS k = true → rfR k = false := fun k z => by
    have := clS_c z
    rcases this with z | z | z | z | z | z | z | z | z | z | z | z | z | z | z | z | z | z | z | z | z | z <;> subst z <;> rfl
  have I2 : ClI ρ c n o := ci_f T r0 f (fun k w i z _ _ _ => cr k z) (fun k w i z _ => cr k z) I
  have r1 : ρ1 n = 12 := by rw [(X.1 n (by rw [r0]; decide)).1]; exact r0
  refine ⟨ci_x (c := cat c rfSf h) (th_in _ T) r0 X T1 I2, fun t et => ?_, r1⟩
  have qt := rr T (thR T r0 (i := 0) (k2 := 10) rfl (by decide)) et
  exact ⟨by rw [(fr_RI f r0 (by decide) (fun _ => rfl)).2.2]; exact et, (fr_RI f qt (by decide) (fun _ => rfl)).1⟩
end
end
section
/-! the room of both sides together -/
def dP (n : Nat) (h : Hp) (k : Nat) : Prop := ∃ r, hR h n 15 = some r ∧ nuC h r 2408 = k
def dQ (n : Nat) (h : Hp) (k : Nat) : Prop := ∃ e a, hR h n 10 = some e ∧ hR h e 11 = some a ∧ (if hN h a = 600000 then 0 else 1) = k
def capC (n : Nat) (h : Hp) : Prop := ∀ t b, hR h n 0 = some t → hR h t 0 = some b → hN h b = 1200
section
variable {ρ ρ1 : Nat → Nat} {c c1 : Cm} {h o : Hp} {S : Nat → Nat → Nat → Bool} {n m : Nat} {B L : Nat × Nat}
theorem rmc_i {kp ke : Nat} (M : RmC n B h) (hp : dP n h kp) (hq : dQ n h ke) : (h.1.1 + 6 * kp + 3 * ke ≤ B.1 ∧ h.1.2 + 83 * kp + 1800000 * ke ≤ B.2) ∧ capC n h := by
  obtain ⟨r, er, qr⟩ := hp
  obtain ⟨e, a, ee, ea, qa⟩ := hq
  have := M.1 r e a er ee ea
  rw [qr] at this
  refine ⟨?_, M.2⟩
  by_cases z : hN h a = 600000
  · rw [if_pos z] at qa this; rw [if_pos z] at this; omega
  · rw [if_neg z] at qa this; rw [if_neg z] at this; omega
theorem rmc_o {kp ke : Nat} (hp : dP n h kp) (hq : dQ n h ke) (q : h.1.1 + 6 * kp + 3 * ke ≤ B.1 ∧ h.1.2 + 83 * kp + 1800000 * ke ≤ B.2) (cp : capC n h) : RmC n B h := by
  obtain ⟨r, er, qr⟩ := hp
  obtain ⟨e, a, ee, ea, qa⟩ := hq
  refine ⟨fun r' e' a' er' ee' ea' => ?_, cp⟩
  have y1 := r_eq er er'
  have y2 := r_eq ee ee'
  subst y1; subst y2
  have y3 := r_eq ea ea'
  subst y3
  rw [qr]
  by_cases z : hN h a' = 600000
  · rw [if_pos z] at qa; rw [if_pos z, if_pos z]; omega
  · rw [if_neg z] at qa; rw [if_neg z, if_neg z]; omega
theorem dp_i (T : TH ρ c h) (r0 : ρ n = 12) : ∃ k, dP n h k := by
  obtain ⟨r, er, qr⟩ := thR T r0 (i := 15) (k2 := 59) rfl (by decide)
  exact ⟨_, r, er, rfl⟩
theorem dq_i (T : TH ρ c h) (r0 : ρ n = 12) : ∃ k, dQ n h k := by
  obtain ⟨e, ee, qe⟩ := thR T r0 (i := 10) (k2 := 1) rfl (by decide)
  obtain ⟨a, ea, qa⟩ := thR T qe (i := 11) (k2 := 24) rfl (by decide)
  exact ⟨_, e, a, ee, ea, rfl⟩
theorem dp_f {k : Nat} (T : TH ρ c h) (r0 : ρ n = 12) (f : Fr ρ (cat c S h) h o) (s : ∀ w, S 12 w 15 = false) (t : ∀ w i, S 59 w i = false) (d : dP n h k) : dP n o k := by
  obtain ⟨a, ea, qa⟩ := d
  have q := rr T (thR T r0 (i := 15) (k2 := 59) rfl (by decide)) ea
  exact ⟨a, by rw [(fr_RI f r0 (by decide) s).2.2]; exact ea, by rw [nuC_eq 2408 (fun i _ => (fr_RI f q (by decide) (fun w => t w i)).2.2)]; exact qa⟩
theorem dq_f {k : Nat} (T : TH ρ c h) (r0 : ρ n = 12) (f : Fr ρ (cat c S h) h o) (s : ∀ w, S 12 w 10 = false) (t : ∀ w, S 1 w 11 = false) (d : dQ n h k) : dQ n o k := by
  obtain ⟨e, a, ee, ea, qa⟩ := d
  have qe := rr T (thR T r0 (i := 10) (k2 := 1) rfl (by decide)) ee
  have qa' := rr T (thR T qe (i := 11) (k2 := 24) rfl (by decide)) ea
  exact ⟨e, a, by rw [(fr_RI f r0 (by decide) s).2.2]; exact ee, by rw [(fr_RI f qe (by decide) t).2.2]; exact ea, by rw [f.2 a (by rw [qa']; decide)]; exact qa⟩
theorem cap_f (T : TH ρ c h) (r0 : ρ n = 12) (f : Fr ρ (cat c S h) h o) (s : ∀ w, S 12 w 0 = false) (t : ∀ w, S 10 w 0 = false) (d : capC n h) : capC n o := fun t' b et eb => by
  rw [(fr_RI f r0 (by decide) s).2.2] at et
  have qt := rr T (thR T r0 (i := 0) (k2 := 10) rfl (by decide)) et
  rw [(fr_RI f qt (by decide) t).2.2] at eb
  have qb := rr T (thR T qt (i := 0) (k2 := 49) rfl (by decide)) eb
  rw [f.2 b (by rw [qb]; decide)]
  exact d t' b et eb
/-- both sides keep to L together -/
def RmJ (n m : Nat) (L : Nat × Nat) (h : Hp) : Prop := ∃ kp ke na nd ng nf, dP n h kp ∧ dQ n h ke ∧ dA m h na ∧ dD m h nd ∧ dG m h ng ∧ dF m h nf ∧ capC n h ∧ h.1.1 + 6 * kp + 3 * ke + 5 * na + 13 * nd + 5 * ng + 5 * nf + d52 m h ≤ L.1 ∧ h.1.2 + 83 * kp + 1800000 * ke + 162 * na + 21170 * nd + 162 * ng + 162 * nf + 1500000 * d52 m h ≤ L.2
/-- for a call of the class -/
theorem j_c (T : TH ρ c h) (r0 : ρ n = 12) (rm : ρ m = 16) (P : RfI m h) (J : RmJ n m L h) : ∃ B, RmC n B h ∧ ∀ o ρ1 c1, ExM ρ (cat c clSf h) ρ1 c1 → TH ρ1 c1 o → ρ1 n = 12 → RmC n B o → RfI m o ∧ RmJ n m L o ∧ TpR m h o ∧ ρ1 m = 16 := by
  obtain ⟨kp, ke, na, nd, ng, nf, hp, hq, ha, hd, hg, hf, cp, j1, j2⟩ := J
  refine ⟨(L.1 - (5 * na + 13 * nd + 5 * ng + 5 * nf + d52 m h), L.2 - (162 * na + 21170 * nd + 162 * ng + 162 * nf + 1500000 * d52 m h)), rmc_o hp hq (by show _ ≤ L.1 - _ ∧ _ ≤ L.2 - _; omega) cp, fun o ρ1 c1 X T1 r1 M1 => ?_⟩
  obtain ⟨P1, ha', hd', hg', hf', e5, t1, m1⟩ := x_ref T X T1 rm P ha hd hg hf
  obtain ⟨kp', hp'⟩ := dp_i T1 r1
  obtain ⟨ke', hq'⟩ := dq_i T1 r1
  obtain ⟨⟨i1, i2⟩, cp'⟩ := rmc_i M1 hp' hq'
  have i1 : o.1.1 + 6 * kp' + 3 * ke' ≤ L.1 - (5 * na + 13 * nd + 5 * ng + 5 * nf + d52 m h) := i1
  have i2 : o.1.2 + 83 * kp' + 1800000 * ke' ≤ L.2 - (162 * na + 21170 * nd + 162 * ng + 162 * nf + 1500000 * d52 m h) := i2
  refine ⟨P1, ⟨kp', ke', na, nd, ng, nf, hp', hq', ha', hd', hg', hf', cp', ?_, ?_⟩, t1, m1⟩
  · rw [e5]; omega
  · rw [e5]; omega
/-- for a call of the reference -/
theorem j_r {d : Nat × Nat} (T : TH ρ c h) (r0 : ρ n = 12) (rm : ρ m = 16) (I : ClI ρ c n h) (J : RmJ n m L h) : ∃ B, RmR m B h ∧ ∀ o ρ1 c1, Ext ρ (cat c rfSf h) ρ1 c1 → TH ρ1 c1 o → RmR m (B.1 + d.1, B.2 + d.2) o → ClI ρ1 c1 n o ∧ RmJ n m (L.1 + d.1, L.2 + d.2) o ∧ Tp n h o ∧ ρ1 n = 12 ∧ ρ1 m = 16 := by
  obtain ⟨kp, ke, na, nd, ng, nf, hp, hq, ha, hd, hg, hf, cp, j1, j2⟩ := J
  refine ⟨(L.1 - (6 * kp + 3 * ke), L.2 - (83 * kp + 1800000 * ke)), rm_o ha hd hg hf (by show _ ≤ L.1 - _ ∧ _ ≤ L.2 - _; omega), fun o ρ1 c1 X T1 M1 => ?_⟩
  obtain ⟨I1, t1, r1⟩ := x_cls T X T1 r0 I
  have f := ex_f T X T1
  have m1 : ρ1 m = 16 := by rw [(X.1 m (by rw [rm]; decide)).1]; exact rm
  obtain ⟨na', ha'⟩ := da_i T1 m1
  obtain ⟨nd', hd'⟩ := dd_i T1 m1
  obtain ⟨ng', hg'⟩ := dg_i T1 m1
  obtain ⟨nf', hf'⟩ := df_i T1 m1
  obtain ⟨i1, i2⟩ := rm_i M1 ha' hd' hg' hf'
  have i1 : o.1.1 + 5 * na' + 13 * nd' + 5 * ng' + 5 * nf' + d52 m o ≤ L.1 - (6 * kp + 3 * ke) + d.1 := i1
  have i2 : o.1.2 + 162 * na' + 21170 * nd' + 162 * ng' + 162 * nf' + 1500000 * d52 m o ≤ L.2 - (83 * kp + 1800000 * ke) + d.2 := i2
  refine ⟨I1, ⟨kp, ke, na', nd', ng', nf', dp_f T r0 f (fun _ => rfl) (fun _ _ => rfl) hp, dq_f T r0 f (fun _ => rfl) (fun _ => rfl) hq, ha', hd', hg', hf', cap_f T r0 f (fun _ => rfl) (fun _ => rfl) cp, ?_, ?_⟩, t1, r1, m1⟩
  · show _ ≤ L.1 + d.1; omega
  · show _ ≤ L.2 + d.2; omega
end
end
section
/-! a pair of calls: class, then reference -/
/-- what holds between calls -/
def SI (n m : Nat) (L : Nat × Nat) (h : Hp) : Prop := ∃ ρ c, TH ρ c h ∧ ρ n = 12 ∧ ρ m = 16 ∧ ClI ρ c n h ∧ RfI m h ∧ RmJ n m L h ∧ ∀ t, hR h n 0 = some t → hI h t 1 = hI h m 1
/-- both calls end, whatever they answer -/
def Sf (A B : Hp → Option (Int32 × Hp)) (h : Hp) (Q : Hp → Prop) : Prop := ∃ (a b : Int32) (h1 h2 : Hp), A h = some (a, h1) ∧ B h1 = some (b, h2) ∧ Q h2
section
variable {n m : Nat} {L d : Nat × Nat} {h : Hp} {A R : Hp → Option (Int32 × Hp)}
theorem hpC_cl {c : Cm} {h : Hp} : hpC (cat c clSf h) := fun _ _ _ z => z
theorem hpR_rf {c : Cm} {h : Hp} : hpR (cat c rfSf h) := fun _ _ _ z => z
theorem st_tt (I : SI n m L h) (hc : ∀ {ρ : Nat → Nat} {c : Cm} {B : Nat × Nat}, hpC c → TH ρ c h → ρ n = 12 → ClI ρ c n h → RmC n B h → Sat (A h) (CP ρ c n B (Tp n h))) (hr : ∀ {h1 : Hp} {ρ : Nat → Nat} {c : Cm} {B : Nat × Nat}, hpR c → TH ρ c h1 → ρ m = 16 → RfI m h1 → RmR m B h1 → Sat (R h1) (RP ρ c m (B.1 + d.1, B.2 + d.2) (TpR m h1))) : Sf A R h (SI n m (L.1 + d.1, L.2 + d.2)) := by
  obtain ⟨ρ, c, T, r0, rm, I1, P, J, tp⟩ := I
  obtain ⟨B, M, back⟩ := j_c T r0 rm P J
  obtain ⟨o, eo, ρ1, c1, X, T1, I2, M2, tq⟩ := hc hpC_cl (th_in clSf T) r0 I1 M
  have r1 : ρ1 n = 12 := by rw [(X.1 n (by rw [r0]; decide)).1]; exact r0
  obtain ⟨P2, J2, t2, m1⟩ := back o.2 ρ1 c1 X T1 r1 M2
  obtain ⟨B3, M3, back3⟩ := j_r (d := d) T1 r1 m1 I2 J2
  obtain ⟨v, ev, ρ4, c4, X4, T4, P4, M4, t4⟩ := hr hpR_rf (th_in rfSf T1) m1 P2 M3
  obtain ⟨I5, J5, t5, r5, m5⟩ := back3 v.2 ρ4 c4 X4 T4 M4
  refine ⟨o.1, v.1, o.2, v.2, eo, ev, ρ4, c4, T4, r5, m5, I5, P4, J5, fun t et => ?_⟩
  obtain ⟨t0, et0, _⟩ := thR T r0 (i := 0) (k2 := 10) rfl (by decide)
  obtain ⟨a1, a2⟩ := tq t0 et0
  obtain ⟨b1, b2⟩ := t5 t0 a1
  have y : t = t0 := r_eq b1 et
  subst y
  have t4' : hI v.2 m 1 = hI o.2 m 1 := t4
  have t2' : hI o.2 m 1 = hI h m 1 := t2
  rw [b2, a2, t4', t2']
  exact tp t et0
/-- both tapes are empty behind it -/
theorem st_zz (I : SI n m L h) (hc : ∀ {ρ : Nat → Nat} {c : Cm} {B : Nat × Nat}, hpC c → TH ρ c h → ρ n = 12 → ClI ρ c n h → RmC n B h → Sat (A h) (CP ρ c n B (TpZ n))) (hr : ∀ {h1 : Hp} {ρ : Nat → Nat} {c : Cm} {B : Nat × Nat}, hpR c → TH ρ c h1 → ρ m = 16 → RfI m h1 → RmR m B h1 → Sat (R h1) (RP ρ c m B (fun o => hI o m 1 = 0))) : Sf A R h (SI n m L) := by
  obtain ⟨ρ, c, T, r0, rm, I1, P, J, tp⟩ := I
  obtain ⟨B, M, back⟩ := j_c T r0 rm P J
  obtain ⟨o, eo, ρ1, c1, X, T1, I2, M2, tq⟩ := hc hpC_cl (th_in clSf T) r0 I1 M
  have r1 : ρ1 n = 12 := by rw [(X.1 n (by rw [r0]; decide)).1]; exact r0
  obtain ⟨P2, J2, t2, m1⟩ := back o.2 ρ1 c1 X T1 r1 M2
  obtain ⟨B3, M3, back3⟩ := j_r (d := (0, 0)) T1 r1 m1 I2 J2
  obtain ⟨v, ev, ρ4, c4, X4, T4, P4, M4, t4⟩ := hr hpR_rf (th_in rfSf T1) m1 P2 M3
  obtain ⟨I5, J5, t5, r5, m5⟩ := back3 v.2 ρ4 c4 X4 T4 M4
  refine ⟨o.1, v.1, o.2, v.2, eo, ev, ρ4, c4, T4, r5, m5, I5, P4, J5, fun t et => ?_⟩
  obtain ⟨t0, et0, _⟩ := thR T1 r1 (i := 0) (k2 := 10) rfl (by decide)
  obtain ⟨b1, b2⟩ := t5 t0 et0
  have y : t = t0 := r_eq b1 et
  subst y
  have t4' : hI v.2 m 1 = 0 := t4
  rw [b2, t4']
  exact tq t et0
end
end
section
/-! the pairs of calls of the law -/
section
variable {n m F : Nat} {L : Nat × Nat} {h : Hp} {a1 a2 a3 a4 a5 : Int32}
theorem pr_rules (hF : 2000000 ≤ F) (I : SI n m L h) : Sf (fun h => sX11_rules F h n) (fun h => sX15_rules F h m) h (SI n m L) := by
  have hF7 : 700000 ≤ F := by omega
  exact st_zz I (fun hp T r I M => by first | exact cw_rules hF7 hp T r I M | exact cw_rules hF7 T r I M | exact cw_rules hp T r I M | exact cw_rules T r I M | exact cw_rules hF hp T r I M) (fun hp T r P M => by first | exact rw_rules hF7 hp T r P M | exact rw_rules hF7 T r P M | exact rw_rules hF hp T r P M)
theorem pr_told (hF : 2000000 ≤ F) (I : SI n m L h) : Sf (fun h => sX11_told F h n a1) (fun h => sX15_told F h m a1) h (SI n m (L.1 + 1, L.2 + 8)) := by
  have hF7 : 700000 ≤ F := by omega
  exact st_tt (d := (1, 8)) I (fun hp T r I M => by first | exact cw_told hF7 hp T r I M | exact cw_told hF7 T r I M | exact cw_told hp T r I M | exact cw_told T r I M | exact cw_told hF hp T r I M) (fun hp T r P M => by first | exact rw_told hF7 hp T r P M | exact rw_told hF7 T r P M | exact rw_told hF hp T r P M)
theorem pr_out (hF : 2000000 ≤ F) (I : SI n m L h) : Sf (fun h => sX11_out h n a1) (fun h => sX15_out h m a1) h (SI n m L) := by
  have hF7 : 700000 ≤ F := by omega
  exact st_tt (d := (0, 0)) I (fun hp T r I M => by first | exact cw_out hF7 hp T r I M | exact cw_out hF7 T r I M | exact cw_out hp T r I M | exact cw_out T r I M | exact cw_out hF hp T r I M) (fun hp T r P M => by first | exact rw_out hF7 hp T r P M | exact rw_out hF7 T r P M | exact rw_out hF hp T r P M)
theorem pr_position (hF : 2000000 ≤ F) (I : SI n m L h) : Sf (fun h => sX11_position F h n) (fun h => sX15_position F h m) h (SI n m L) := by
  have hF7 : 700000 ≤ F := by omega
  exact st_zz I (fun hp T r I M => by first | exact cw_position hF7 hp T r I M | exact cw_position hF7 T r I M | exact cw_position hp T r I M | exact cw_position T r I M | exact cw_position hF hp T r I M) (fun hp T r P M => by first | exact rw_position hF7 hp T r P M | exact rw_position hF7 T r P M | exact rw_position hF hp T r P M)
theorem pr_drop (hF : 2000000 ≤ F) (I : SI n m L h) : Sf (fun h => sX11_drop h n a1) (fun h => sX15_drop h m a1) h (SI n m L) := by
  have hF7 : 700000 ≤ F := by omega
  exact st_tt (d := (0, 0)) I (fun hp T r I M => by first | exact cw_drop hF7 hp T r I M | exact cw_drop hF7 T r I M | exact cw_drop hp T r I M | exact cw_drop T r I M | exact cw_drop hF hp T r I M) (fun hp T r P M => by first | exact rw_drop hF7 hp T r P M | exact rw_drop hF7 T r P M | exact rw_drop hF hp T r P M)
theorem pr_write (hF : 2000000 ≤ F) (I : SI n m L h) : Sf (fun h => sX11_write F h n a1) (fun h => sX15_write F h m a1) h (SI n m L) := by
  have hF7 : 700000 ≤ F := by omega
  exact st_tt (d := (0, 0)) I (fun hp T r I M => by first | exact cw_write hF7 hp T r I M | exact cw_write hF7 T r I M | exact cw_write hp T r I M | exact cw_write T r I M | exact cw_write hF hp T r I M) (fun hp T r P M => by first | exact rw_write hF7 hp T r P M | exact rw_write hF7 T r P M | exact rw_write hF hp T r P M)
theorem pr_same (hF : 2000000 ≤ F) (I : SI n m L h) : Sf (fun h => sX11_same F h n a1 a2) (fun h => sX15_same F h m a1 a2) h (SI n m L) := by
  have hF7 : 700000 ≤ F := by omega
  exact st_tt (d := (0, 0)) I (fun hp T r I M => by first | exact cw_same hF7 hp T r I M | exact cw_same hF7 T r I M | exact cw_same hp T r I M | exact cw_same T r I M | exact cw_same hF hp T r I M) (fun hp T r P M => by first | exact rw_same hF7 hp T r P M | exact rw_same hF7 T r P M | exact rw_same hF hp T r P M)
theorem pr_at (hF : 2000000 ≤ F) (I : SI n m L h) : Sf (fun h => sX11_at h n a1 a2) (fun h => sX15_at h m a1 a2) h (SI n m L) := by
  have hF7 : 700000 ≤ F := by omega
  exact st_tt (d := (0, 0)) I (fun hp T r I M => by first | exact cw_at hF7 hp T r I M | exact cw_at hF7 T r I M | exact cw_at hp T r I M | exact cw_at T r I M | exact cw_at hF hp T r I M) (fun hp T r P M => by first | exact rw_at hF7 hp T r P M | exact rw_at hF7 T r P M | exact rw_at hF hp T r P M)
theorem pr_figure (hF : 2000000 ≤ F) (I : SI n m L h) : Sf (fun h => sX11_figure F h n a1 a2) (fun h => sX15_figure F h m a1 a2) h (SI n m (L.1 + 1, L.2 + 8)) := by
  have hF7 : 700000 ≤ F := by omega
  exact st_tt (d := (1, 8)) I (fun hp T r I M => by first | exact cw_figure hF7 hp T r I M | exact cw_figure hF7 T r I M | exact cw_figure hp T r I M | exact cw_figure T r I M | exact cw_figure hF hp T r I M) (fun hp T r P M => by first | exact rw_figure hF7 hp T r P M | exact rw_figure hF7 T r P M | exact rw_figure hF hp T r P M)
theorem pr_attacked (hF : 2000000 ≤ F) (I : SI n m L h) : Sf (fun h => sX11_attacked F h n a1 a2 a3) (fun h => sX15_attacked F h m a1 a2 a3) h (SI n m L) := by
  have hF7 : 700000 ≤ F := by omega
  exact st_tt (d := (0, 0)) I (fun hp T r I M => by first | exact cw_attacked hF7 hp T r I M | exact cw_attacked hF7 T r I M | exact cw_attacked hp T r I M | exact cw_attacked T r I M | exact cw_attacked hF hp T r I M) (fun hp T r P M => by first | exact rw_attacked hF7 hp T r P M | exact rw_attacked hF7 T r P M | exact rw_attacked hF hp T r P M)
theorem pr_moves (hF : 2000000 ≤ F) (I : SI n m L h) : Sf (fun h => sX11_moves F h n a1) (fun h => sX15_moves F h m a1) h (SI n m L) := by
  have hF7 : 700000 ≤ F := by omega
  exact st_tt (d := (0, 0)) I (fun hp T r I M => by first | exact cw_moves hF7 hp T r I M | exact cw_moves hF7 T r I M | exact cw_moves hp T r I M | exact cw_moves T r I M | exact cw_moves hF hp T r I M) (fun hp T r P M => by first | exact rw_moves hF7 hp T r P M | exact rw_moves hF7 T r P M | exact rw_moves hF hp T r P M)
theorem pr_move (hF : 2000000 ≤ F) (I : SI n m L h) : Sf (fun h => sX11_move F h n a1 a2 a3) (fun h => sX15_move F h m a1 a2 a3) h (SI n m L) := by
  have hF7 : 700000 ≤ F := by omega
  exact st_tt (d := (0, 0)) I (fun hp T r I M => by first | exact cw_move hF7 hp T r I M | exact cw_move hF7 T r I M | exact cw_move hp T r I M | exact cw_move T r I M | exact cw_move hF hp T r I M) (fun hp T r P M => by first | exact rw_move hF7 hp T r P M | exact rw_move hF7 T r P M | exact rw_move hF hp T r P M)
theorem pr_go (hF : 2000000 ≤ F) (I : SI n m L h) : Sf (fun h => sX11_go F h n a1 a2) (fun h => sX15_go F h m a1 a2) h (SI n m L) := by
  have hF7 : 700000 ≤ F := by omega
  exact st_tt (d := (0, 0)) I (fun hp T r I M => by first | exact cw_go hF7 hp T r I M | exact cw_go hF7 T r I M | exact cw_go hp T r I M | exact cw_go T r I M | exact cw_go hF hp T r I M) (fun hp T r P M => by first | exact rw_go hF7 hp T r P M | exact rw_go hF7 T r P M | exact rw_go hF hp T r P M)
theorem pr_rows (hF : 2000000 ≤ F) (I : SI n m L h) : Sf (fun h => sX11_rows F h n a1 a2) (fun h => sX15_rows F h m a1 a2) h (SI n m L) := by
  have hF7 : 700000 ≤ F := by omega
  exact st_tt (d := (0, 0)) I (fun hp T r I M => by first | exact cw_rows hF7 hp T r I M | exact cw_rows hF7 T r I M | exact cw_rows hp T r I M | exact cw_rows T r I M | exact cw_rows hF hp T r I M) (fun hp T r P M => by first | exact rw_rows hF7 hp T r P M | exact rw_rows hF7 T r P M | exact rw_rows hF hp T r P M)
theorem pr_ended (hF : 2000000 ≤ F) (I : SI n m L h) : Sf (fun h => sX11_ended F h n a1) (fun h => sX15_ended F h m a1) h (SI n m L) := by
  have hF7 : 700000 ≤ F := by omega
  exact st_tt (d := (0, 0)) I (fun hp T r I M => by first | exact cw_ended hF7 hp T r I M | exact cw_ended hF7 T r I M | exact cw_ended hp T r I M | exact cw_ended T r I M | exact cw_ended hF hp T r I M) (fun hp T r P M => by first | exact rw_ended hF7 hp T r P M | exact rw_ended hF7 T r P M | exact rw_ended hF hp T r P M)
theorem pr_result (hF : 2000000 ≤ F) (I : SI n m L h) : Sf (fun h => sX11_result F h n a1) (fun h => sX15_result F h m a1) h (SI n m L) := by
  have hF7 : 700000 ≤ F := by omega
  exact st_tt (d := (0, 0)) I (fun hp T r I M => by first | exact cw_result hF7 hp T r I M | exact cw_result hF7 T r I M | exact cw_result hp T r I M | exact cw_result T r I M | exact cw_result hF hp T r I M) (fun hp T r P M => by first | exact rw_result hF7 hp T r P M | exact rw_result hF7 T r P M | exact rw_result hF hp T r P M)
theorem pr_say (hF : 2000000 ≤ F) (I : SI n m L h) : Sf (fun h => sX11_say F h n a1 a2) (fun h => sX15_say_ F h m a1 a2) h (SI n m L) := by
  have hF7 : 700000 ≤ F := by omega
  exact st_tt (d := (0, 0)) I (fun hp T r I M => by first | exact cw_say hF7 hp T r I M | exact cw_say hF7 T r I M | exact cw_say hp T r I M | exact cw_say T r I M | exact cw_say hF hp T r I M) (fun hp T r P M => by first | exact rw_say hF7 hp T r P M | exact rw_say hF7 T r P M | exact rw_say hF hp T r P M)
theorem pr_hear (hF : 2000000 ≤ F) (I : SI n m L h) : Sf (fun h => sX11_hear F h n a1) (fun h => sX15_hear F h m a1) h (SI n m L) := by
  have hF7 : 700000 ≤ F := by omega
  exact st_zz I (fun hp T r I M => by first | exact cw_hear hF7 hp T r I M | exact cw_hear hF7 T r I M | exact cw_hear hp T r I M | exact cw_hear T r I M | exact cw_hear hF hp T r I M) (fun hp T r P M => by first | exact rw_hear hF7 hp T r P M | exact rw_hear hF7 T r P M | exact rw_hear hF hp T r P M)
theorem pr_start (hF : 2000000 ≤ F) (I : SI n m L h) : Sf (fun h => sX11_start F h n a1 a2) (fun h => sX15_start h m a1 a2) h (SI n m L) := by
  have hF7 : 700000 ≤ F := by omega
  exact st_tt (d := (0, 0)) I (fun hp T r I M => by first | exact cw_start hF7 hp T r I M | exact cw_start hF7 T r I M | exact cw_start hp T r I M | exact cw_start T r I M | exact cw_start hF hp T r I M) (fun hp T r P M => by first | exact rw_start hF7 hp T r P M | exact rw_start hF7 T r P M | exact rw_start hF hp T r P M)
theorem pr_add (hF : 2000000 ≤ F) (I : SI n m L h) : Sf (fun h => sX11_add F h n a1 a2) (fun h => sX15_add F h m a1 a2) h (SI n m L) := by
  have hF7 : 700000 ≤ F := by omega
  exact st_tt (d := (0, 0)) I (fun hp T r I M => by first | exact cw_add hF7 hp T r I M | exact cw_add hF7 T r I M | exact cw_add hp T r I M | exact cw_add T r I M | exact cw_add hF hp T r I M) (fun hp T r P M => by first | exact rw_add hF7 hp T r P M | exact rw_add hF7 T r P M | exact rw_add hF hp T r P M)
theorem pr_back (hF : 2000000 ≤ F) (I : SI n m L h) : Sf (fun h => sX11_back h n a1) (fun h => sX15_back h m a1) h (SI n m L) := by
  have hF7 : 700000 ≤ F := by omega
  exact st_tt (d := (0, 0)) I (fun hp T r I M => by first | exact cw_back hF7 hp T r I M | exact cw_back hF7 T r I M | exact cw_back hp T r I M | exact cw_back T r I M | exact cw_back hF hp T r I M) (fun hp T r P M => by first | exact rw_back hF7 hp T r P M | exact rw_back hF7 T r P M | exact rw_back hF hp T r P M)
theorem pr_game (hF : 2000000 ≤ F) (I : SI n m L h) : Sf (fun h => sX11_game F h n a1 a2) (fun h => sX15_game F h m a1 a2) h (SI n m L) := by
  have hF7 : 700000 ≤ F := by omega
  exact st_tt (d := (0, 0)) I (fun hp T r I M => by first | exact cw_game hF7 hp T r I M | exact cw_game hF7 T r I M | exact cw_game hp T r I M | exact cw_game T r I M | exact cw_game hF hp T r I M) (fun hp T r P M => by first | exact rw_game hF7 hp T r P M | exact rw_game hF7 T r P M | exact rw_game hF hp T r P M)
theorem pr_played (hF : 2000000 ≤ F) (I : SI n m L h) : Sf (fun h => sX11_played h n a1 a2) (fun h => sX15_played h m a1 a2) h (SI n m L) := by
  have hF7 : 700000 ≤ F := by omega
  exact st_tt (d := (0, 0)) I (fun hp T r I M => by first | exact cw_played hF7 hp T r I M | exact cw_played hF7 T r I M | exact cw_played hp T r I M | exact cw_played T r I M | exact cw_played hF hp T r I M) (fun hp T r P M => by first | exact rw_played hF7 hp T r P M | exact rw_played hF7 T r P M | exact rw_played hF hp T r P M)
theorem pr_now (hF : 2000000 ≤ F) (I : SI n m L h) : Sf (fun h => sX11_now F h n a1) (fun h => sX15_now F h m a1) h (SI n m L) := by
  have hF7 : 700000 ≤ F := by omega
  exact st_tt (d := (0, 0)) I (fun hp T r I M => by first | exact cw_now hF7 hp T r I M | exact cw_now hF7 T r I M | exact cw_now hp T r I M | exact cw_now T r I M | exact cw_now hF hp T r I M) (fun hp T r P M => by first | exact rw_now hF7 hp T r P M | exact rw_now hF7 T r P M | exact rw_now hF hp T r P M)
theorem pr_book (hF : 2000000 ≤ F) (I : SI n m L h) : Sf (fun h => sX11_book F h n a1 a2) (fun h => sX15_book F h m a1 a2) h (SI n m L) := by
  have hF7 : 700000 ≤ F := by omega
  exact st_tt (d := (0, 0)) I (fun hp T r I M => by first | exact cw_book hF7 hp T r I M | exact cw_book hF7 T r I M | exact cw_book hp T r I M | exact cw_book T r I M | exact cw_book hF hp T r I M) (fun hp T r P M => by first | exact rw_book hF7 hp T r P M | exact rw_book hF7 T r P M | exact rw_book hF hp T r P M)
theorem pr_sees (hF : 2000000 ≤ F) (I : SI n m L h) : Sf (fun h => sX11_sees F h n a1 a2 a3) (fun h => sX15_sees F h m a1 a2 a3) h (SI n m L) := by
  have hF7 : 700000 ≤ F := by omega
  exact st_tt (d := (0, 0)) I (fun hp T r I M => by first | exact cw_sees hF7 hp T r I M | exact cw_sees hF7 T r I M | exact cw_sees hp T r I M | exact cw_sees T r I M | exact cw_sees hF hp T r I M) (fun hp T r P M => by first | exact rw_sees hF7 hp T r P M | exact rw_sees hF7 T r P M | exact rw_sees hF hp T r P M)
theorem pr_view (hF : 2000000 ≤ F) (I : SI n m L h) : Sf (fun h => sX11_view F h n a1 a2) (fun h => sX15_view F h m a1 a2) h (SI n m L) := by
  have hF7 : 700000 ≤ F := by omega
  exact st_tt (d := (0, 0)) I (fun hp T r I M => by first | exact cw_view hF7 hp T r I M | exact cw_view hF7 T r I M | exact cw_view hp T r I M | exact cw_view T r I M | exact cw_view hF hp T r I M) (fun hp T r P M => by first | exact rw_view hF7 hp T r P M | exact rw_view hF7 T r P M | exact rw_view hF hp T r P M)
theorem pr_before (hF : 2000000 ≤ F) (I : SI n m L h) : Sf (fun h => sX11_before F h n a1) (fun h => sX15_before F h m a1) h (SI n m L) := by
  have hF7 : 700000 ≤ F := by omega
  exact st_tt (d := (0, 0)) I (fun hp T r I M => by first | exact cw_before hF7 hp T r I M | exact cw_before hF7 T r I M | exact cw_before hp T r I M | exact cw_before T r I M | exact cw_before hF hp T r I M) (fun hp T r P M => by first | exact rw_before hF7 hp T r P M | exact rw_before hF7 T r P M | exact rw_before hF hp T r P M)
theorem pr_beforeAt (hF : 2000000 ≤ F) (I : SI n m L h) : Sf (fun h => sX11_beforeAt F h n a1) (fun h => sX15_beforeAt F h m a1) h (SI n m L) := by
  have hF7 : 700000 ≤ F := by omega
  exact st_tt (d := (0, 0)) I (fun hp T r I M => by first | exact cw_beforeAt hF7 hp T r I M | exact cw_beforeAt hF7 T r I M | exact cw_beforeAt hp T r I M | exact cw_beforeAt T r I M | exact cw_beforeAt hF hp T r I M) (fun hp T r P M => by first | exact rw_beforeAt hF7 hp T r P M | exact rw_beforeAt hF7 T r P M | exact rw_beforeAt hF hp T r P M)
theorem pr_solve (hF : 2000000 ≤ F) (I : SI n m L h) : Sf (fun h => sX11_solve F h n) (fun h => sX15_solve F h m) h (SI n m L) := by
  have hF7 : 700000 ≤ F := by omega
  exact st_zz I (fun hp T r I M => by first | exact cw_solve hF7 hp T r I M | exact cw_solve hF7 T r I M | exact cw_solve hp T r I M | exact cw_solve T r I M | exact cw_solve hF hp T r I M) (fun hp T r P M => by first | exact rw_solve hF7 hp T r P M | exact rw_solve hF7 T r P M | exact rw_solve hF hp T r P M)
theorem pr_worth (hF : 2000000 ≤ F) (I : SI n m L h) : Sf (fun h => sX11_worth F h n a1) (fun h => sX15_worth F h m a1) h (SI n m L) := by
  have hF7 : 700000 ≤ F := by omega
  exact st_tt (d := (0, 0)) I (fun hp T r I M => by first | exact cw_worth hF7 hp T r I M | exact cw_worth hF7 T r I M | exact cw_worth hp T r I M | exact cw_worth T r I M | exact cw_worth hF hp T r I M) (fun hp T r P M => by first | exact rw_worth hF7 hp T r P M | exact rw_worth hF7 T r P M | exact rw_worth hF hp T r P M)
theorem pr_tally (hF : 2000000 ≤ F) (I : SI n m L h) : Sf (fun h => sX11_tally F h n a1 a2) (fun h => sX15_tally F h m a1 a2) h (SI n m L) := by
  have hF7 : 700000 ≤ F := by omega
  exact st_tt (d := (0, 0)) I (fun hp T r I M => by first | exact cw_tally hF7 hp T r I M | exact cw_tally hF7 T r I M | exact cw_tally hp T r I M | exact cw_tally T r I M | exact cw_tally hF hp T r I M) (fun hp T r P M => by first | exact rw_tally hF7 hp T r P M | exact rw_tally hF7 T r P M | exact rw_tally hF hp T r P M)
theorem pr_problem (hF : 2000000 ≤ F) (I : SI n m L h) : Sf (fun h => sX11_problem F h n a1 a2 a3 a4) (fun h => sX15_problem F h m a1 a2 a3 a4) h (SI n m L) := by
  have hF7 : 700000 ≤ F := by omega
  exact st_tt (d := (0, 0)) I (fun hp T r I M => by first | exact cw_problem hF7 hp T r I M | exact cw_problem hF7 T r I M | exact cw_problem hp T r I M | exact cw_problem T r I M | exact cw_problem hF hp T r I M) (fun hp T r P M => by first | exact rw_problem hF7 hp T r P M | exact rw_problem hF7 T r P M | exact rw_problem hF hp T r P M)
theorem pr_key (hF : 2000000 ≤ F) (I : SI n m L h) : Sf (fun h => sX11_key h n a1) (fun h => sX15_key h m a1) h (SI n m L) := by
  have hF7 : 700000 ≤ F := by omega
  exact st_tt (d := (0, 0)) I (fun hp T r I M => by first | exact cw_key hF7 hp T r I M | exact cw_key hF7 T r I M | exact cw_key hp T r I M | exact cw_key T r I M | exact cw_key hF hp T r I M) (fun hp T r P M => by first | exact rw_key hF7 hp T r P M | exact rw_key hF7 T r P M | exact rw_key hF hp T r P M)
theorem pr_refutes (hF : 2000000 ≤ F) (I : SI n m L h) : Sf (fun h => sX11_refutes h n a1) (fun h => sX15_refutes F h m a1) h (SI n m L) := by
  have hF7 : 700000 ≤ F := by omega
  exact st_tt (d := (0, 0)) I (fun hp T r I M => by first | exact cw_refutes hF7 hp T r I M | exact cw_refutes hF7 T r I M | exact cw_refutes hp T r I M | exact cw_refutes T r I M | exact cw_refutes hF hp T r I M) (fun hp T r P M => by first | exact rw_refutes hF7 hp T r P M | exact rw_refutes hF7 T r P M | exact rw_refutes hF hp T r P M)
end
end
section
/-! feed and end: equal answers -/
section
variable {n m F : Nat} {L : Nat × Nat} {h : Hp} {a1 a2 a3 a4 a5 : Int32}
theorem pr_feed (hF : 2000000 ≤ F) (I : SI n m L h) : St (fun h => sX11_feed h n a1 a2 a3 a4 a5) (fun h => sX15_feed F h m a1 a2 a3 a4 a5) h (SI n m L) := by
  have hF7 : 700000 ≤ F := by omega
  obtain ⟨ρ, c, T, r0, rm, I1, P, J, tp⟩ := I
  obtain ⟨B, M, back⟩ := j_c T r0 rm P J
  obtain ⟨t, et, qt⟩ := thR T r0 (i := 0) (k2 := 10) rfl (by decide)
  obtain ⟨o, eo, ⟨ρ1, c1, X, T1, I2, M2, _⟩, q1⟩ := cw_feed (F := F) (x1 := a1) (x2 := a2) (x3 := a3) (x4 := a4) (x5 := a5) hF7 hpC_cl (th_in clSf T) r0 I1 M et
  have r1 : ρ1 n = 12 := by rw [(X.1 n (by rw [r0]; decide)).1]; exact r0
  obtain ⟨P2, J2, t2, m1⟩ := back o.2 ρ1 c1 X T1 r1 M2
  obtain ⟨B3, M3, back3⟩ := j_r (d := (0, 0)) T1 r1 m1 I2 J2
  obtain ⟨v, ev, ⟨ρ4, c4, X4, T4, P4, M4, _⟩, q2⟩ := rw_feed (x1 := a1) (x2 := a2) (x3 := a3) (x4 := a4) (x5 := a5) hF7 hpR_rf (th_in rfSf T1) m1 P2 M3
  obtain ⟨I5, J5, t5, r5, m5⟩ := back3 v.2 ρ4 c4 X4 T4 M4
  obtain ⟨t', et', _⟩ := thR T1 r1 (i := 0) (k2 := 10) rfl (by decide)
  have q1 := q1 t' et'
  have t2' : hI o.2 m 1 = hI h m 1 := t2
  rw [t2', ← tp t et] at q2
  unfold FdR at q2
  obtain ⟨b1, b2⟩ := t5 t' et'
  have ans : o.1 = v.1 ∧ (hI o.2 t' 1).toInt = (hI v.2 m 1).toInt := by
    rcases q1 with ⟨x1, x2, x3⟩ | ⟨x1, x2, x3⟩
    · rcases q2 with ⟨y1, y2, y3⟩ | ⟨y1, y2, y3⟩
      · exact ⟨Int32.toInt_inj.mp (by rw [x2, y2]), by rw [x3, y3]⟩
      · omega
    · rcases q2 with ⟨y1, y2, y3⟩ | ⟨y1, y2, y3⟩
      · omega
      · exact ⟨by rw [x2, y2], by rw [x3, y3]⟩
  refine ⟨o.1, o.2, v.2, eo, by rw [ans.1]; exact ev, ρ4, c4, T4, r5, m5, I5, P4, J5, fun u eu => ?_⟩
  have y : u = t' := r_eq b1 eu
  subst y
  rw [b2]
  exact Int32.toInt_inj.mp ans.2
theorem pr_end (hF : 2000000 ≤ F) (I : SI n m L h) : St (fun h => sX11_end h n a1) (fun h => sX15_end h m a1) h (SI n m L) := by
  have hF7 : 700000 ≤ F := by omega
  obtain ⟨ρ, c, T, r0, rm, I1, P, J, tp⟩ := I
  obtain ⟨B, M, back⟩ := j_c T r0 rm P J
  obtain ⟨t, et, qt⟩ := thR T r0 (i := 0) (k2 := 10) rfl (by decide)
  obtain ⟨o, eo, ⟨ρ1, c1, X, T1, I2, M2, _⟩, q1⟩ := cw_end (F := F) (x1 := a1) hF7 hpC_cl (th_in clSf T) r0 I1 M et
  have r1 : ρ1 n = 12 := by rw [(X.1 n (by rw [r0]; decide)).1]; exact r0
  obtain ⟨P2, J2, t2, m1⟩ := back o.2 ρ1 c1 X T1 r1 M2
  obtain ⟨B3, M3, back3⟩ := j_r (d := (0, 0)) T1 r1 m1 I2 J2
  obtain ⟨v, ev, ⟨ρ4, c4, X4, T4, P4, M4, _⟩, q2⟩ := rw_end (F := F) (x1 := a1) hF7 hpR_rf (th_in rfSf T1) m1 P2 M3
  obtain ⟨I5, J5, t5, r5, m5⟩ := back3 v.2 ρ4 c4 X4 T4 M4
  obtain ⟨t', et', _⟩ := thR T1 r1 (i := 0) (k2 := 10) rfl (by decide)
  have q1 := q1 t' et'
  have t2' : hI o.2 m 1 = hI h m 1 := t2
  rw [t2', ← tp t et] at q2
  unfold EdR at q2
  obtain ⟨b1, b2⟩ := t5 t' et'
  have ans : o.1 = v.1 ∧ (hI o.2 t' 1).toInt = (hI v.2 m 1).toInt := by
    rcases q1 with ⟨x1, x1', x2, x3⟩ | ⟨x1, x2, x3⟩
    · rcases q2 with ⟨y1, y1', y2, y3⟩ | ⟨y1, y2, y3⟩
      · exact ⟨by rw [x2, y2], by rw [x3, y3]⟩
      · exact absurd ⟨x1, x1'⟩ y1
    · rcases q2 with ⟨y1, y1', y2, y3⟩ | ⟨y1, y2, y3⟩
      · exact absurd ⟨y1, y1'⟩ x1
      · exact ⟨by rw [x2, y2], by rw [x3, y3]⟩
  refine ⟨o.1, o.2, v.2, eo, by rw [ans.1]; exact ev, ρ4, c4, T4, r5, m5, I5, P4, J5, fun u eu => ?_⟩
  have y : u = t' := r_eq b1 eu
  subst y
  rw [b2]
  exact Int32.toInt_inj.mp ans.2
end
end
