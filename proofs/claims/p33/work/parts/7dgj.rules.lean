/-! rules: both answers are equal where the tapes are -/
section
variable {ρ ρ1 : Nat → Nat} {c c1 : Cm} {h h1 hc : Hp} {x0 F : Nat}
/-- nothing of a law of the class is written; of the reference -/
def LK (ρ : Nat → Nat) (g o : Hp) : Prop := ∀ a, lwK (ρ a) = true → ∀ i, hI o a i = hI g a i ∧ hJ o a i = hJ g a i ∧ hR o a i = hR g a i
def RK (ρ : Nat → Nat) (g o : Hp) : Prop := ∀ a, rwK (ρ a) = true → ∀ i, hI o a i = hI g a i ∧ hJ o a i = hJ g a i ∧ hR o a i = hR g a i
theorem lw_c {k : Nat} (z : lwK k = true) : k = 2 ∨ k = 27 ∨ k = 28 ∨ k = 29 ∨ k = 30 ∨ k = 31 ∨ k = 32 ∨ k = 33 := by
  unfold lwK at z
  simp at z
  omega
theorem rw_c {k : Nat} (z : rwK k = true) : k = 15 ∨ k = 73 ∨ k = 74 ∨ k = 75 ∨ k = 76 ∨ k = 77 ∨ k = 78 ∨ k = 79 ∨ k = 80 ∨ k = 81 := by
  unfold rwK at z
  simp at z
  omega
theorem lk_f {S : Nat → Nat → Nat → Bool} {o : Hp} (f : Fr ρ (cat c S h) h o) (s : ∀ k w i, lwK k = true → S k w i = false) : LK ρ h o := fun a z i => f.1 a i (fun q => by rw [q] at z; exact absurd z (by decide)) (show S (ρ a) (cw c a) i = false from s _ _ _ z)
theorem lk_t {g o v : Hp} (a : LK ρ g o) (b : LK ρ o v) : LK ρ g v := fun x z i => ⟨(b x z i).1.trans (a x z i).1, (b x z i).2.1.trans (a x z i).2.1, (b x z i).2.2.trans (a x z i).2.2⟩
/-- what the class answers -/
theorem cru_q {rd tp L3 L : Nat} {o : Int32 × Hp} (hF : 700000 ≤ F) (hA : pmA c RUC) (T : TH ρ c h) (r0 : ρ x0 = 12) (I : ClI ρ c x0 h) (e1 : hR h x0 4 = some rd) (e2 : hR h x0 0 = some tp) (e3 : hR h x0 3 = some L3) (eL : hR h x0 2 = some L) (e : sX11_rules F h x0 = some o) : ∃ o4, sX2_read F h rd tp L3 = some o4 ∧ ((o4.1 = 0 ∧ o.1 = (-1 : Int32) - hI o4.2 rd 2 ∧ Fr ρ (cat c (rdS 2103) h) h o4.2 ∧ LK ρ o4.2 o.2) ∨ (¬ o4.1 = 0 ∧ TH ρ c o4.2 ∧ Fr ρ (cat c (rdS 2103) h) h o4.2 ∧ ∃ o12, sX2_read F o4.2 rd tp L = some o12 ∧ o.1 = hI o12.2 L 3 ∧ TH ρ c o12.2 ∧ hR o12.2 x0 2 = some L ∧ LK ρ o12.2 o.2)) := by
  have q1 : ρ rd = 3 := rr T (thR T r0 (i := 4) (k2 := 3) rfl (by decide)) e1
  have q2 : ρ tp = 10 := rr T (thR T r0 (i := 0) (k2 := 10) rfl (by decide)) e2
  have q3 : ρ L3 = 2 := rr T (thR T r0 (i := 3) (k2 := 2) rfl (by decide)) e3
  have qL : ρ L = 2 := rr T (thR T r0 (i := 2) (k2 := 2) rfl (by decide)) eL
  have w3 : cw c L3 = 2103 := kid_w T r0 (i := 3) (w := 2103) rfl (by decide) e3
  have wL : cw c L = 2102 := kid_w T r0 (i := 2) (w := 2102) rfl (by decide) eL
  obtain ⟨p1, p2, p3, p4, p5, p6, p7⟩ := I
  have fin : ∀ {g : Hp} {x : Int32}, hR g x0 0 = some tp → sX11_rules_69 F g x0 x = some o → o.1 = x ∧ LK ρ g o.2 := fun {g x} eg e => by
    unfold sX11_rules_69 at e
    replace e := cl_s e
    obtain ⟨t, et, e⟩ := e
    have yt : t = tp := r_eq eg et
    replace e := cl_s e
    obtain ⟨u, eu, e⟩ := e
    unfold sX9_clear at eu
    rw [← Option.some.inj e]
    refine ⟨rfl, fun a z i => ?_⟩
    have yu : u = wI g t 1 (0 : Int32) := (Option.some.inj eu).symm
    show hI u a i = _ ∧ hJ u a i = _ ∧ hR u a i = _
    rw [yu]
    refine ⟨rI_a (fun q => ?_), rfl, rfl⟩
    rw [q, yt, q2] at z
    exact absurd z (by decide)
  unfold sX11_rules at e
  replace e := cl_s e
  obtain ⟨r1, g1, e⟩ := e
  rw [r_eq e1 g1] at e
  replace e := cl_s e
  obtain ⟨r2, g2, e⟩ := e
  rw [r_eq e2 g2] at e
  replace e := cl_s e
  obtain ⟨r3, g3, e⟩ := e
  rw [r_eq e3 g3] at e
  replace e := cl_s e
  obtain ⟨o4, e4, e⟩ := e
  obtain ⟨T4, i4, z4, s4, f4⟩ := sat_e (read_r hF (pmA_s hA rfl) T q1 q2 q3 w3 (p6 L3 e3)) e4
  have K4 : ∀ i, hR o4.2 x0 i = hR h x0 i := fun i => (frx f4 r0 (by decide) rfl rfl).2.2
  refine ⟨o4, e4, ?_⟩
  replace e := cl_s e
  obtain ⟨r5, g5, e⟩ := e
  have y5 : r5 = rd := r_eq (by rw [K4]; exact e1) g5
  rw [y5] at e
  replace e := cl_s e
  obtain ⟨o6, e6, e⟩ := e
  unfold sX2_faultPlace at e6
  rw [← Option.some.inj e6] at e
  replace e := nm_s e
  obtain ⟨v7, w7, e⟩ := e
  replace e := br_s e
  rcases e with ⟨b, e⟩ | ⟨b, e⟩
  · obtain ⟨f1, f2⟩ := fin (by show hR o4.2 x0 0 = some tp; rw [K4]; exact e2) e
    exact Or.inl ⟨b, by rw [f1, w7], f4, f2⟩
  refine Or.inr ⟨b, T4, f4, ?_⟩
  replace e := cl_s e
  obtain ⟨r9, g9, e⟩ := e
  have y9 : r9 = rd := r_eq (by rw [K4]; exact e1) g9
  rw [y9] at e
  replace e := cl_s e
  obtain ⟨r10, g10, e⟩ := e
  have y10 : r10 = tp := r_eq (by rw [K4]; exact e2) g10
  rw [y10] at e
  replace e := cl_s e
  obtain ⟨r11, g11, e⟩ := e
  have y11 : r11 = L := r_eq (by rw [K4]; exact eL) g11
  rw [y11] at e
  replace e := cl_s e
  obtain ⟨o12, e12, e⟩ := e
  have lwc : LWc (rdS 2103) := fun _ => rfl
  have gs : GeoS L o4.2 := gem_f T r0 f4 (fun _ _ => rfl) (fun _ => rfl) lwc p5 L (by rw [K4]; exact eL)
  obtain ⟨T12, i12, z12, s12, f12⟩ := sat_e (read_r hF (pmA_s hA rfl) T4 q1 q2 qL wL gs) e12
  have K12 : ∀ i, hR o12.2 x0 i = hR o4.2 x0 i := fun i => (frx f12 r0 (by decide) rfl rfl).2.2
  refine ⟨o12, e12, ?_, T12, by rw [K12, K4]; exact eL, ?_⟩
  rotate_left
  · replace e := cl_s e
    obtain ⟨W, eW, e⟩ := e
    replace e := cl_s e
    obtain ⟨r14, g14, e⟩ := e
    have y14 : r14 = L := r_eq (by rw [K12, K4]; exact eL) g14
    rw [y14] at e
    have rW : ρ W = 11 := rr T12 (thR T12 r0 (i := 5) (k2 := 11) rfl (by decide)) eW
    obtain ⟨c', hc, T', lw⟩ := lw_mk1 T12 qL wL s12
    have cwe : cw c' = cw c := by
      rcases hc with z | z
      · rw [z]
      · rw [z]; rfl
    have w' : cw c' L = 2102 := by rw [cwe]; exact wL
    have hA' : pmA c' RUC := by rcases hc with z | z <;> (rw [z]; exact hA)
    replace e := cl_s e
    obtain ⟨o15, e15, e⟩ := e
    have Z15 := sat_e (zX10_lay (c := cat c' (fS [(50, 999), (51, 999), (52, 999), (53, 999), (54, 999), (55, 999), (56, 999), (11, 7), (11, 8)] []) o12.2) hF fs_a rfl (th_in _ T') rW qL w' lw) e15
    have T15 := th_out T' (fs_sub (pmA_s hA' rfl) fs_n) Z15
    have f15 := fr_u T' Z15.2.2
    replace e := cl_s e
    obtain ⟨o16, e16, e⟩ := e
    have Z16 := sat_e (zX11_forgetAll (c := cat c' (fS [(58, 999), (61, 999), (1, 10), (5, 14), (5, 15), (5, 16), (7, 6)] []) o15) hF fs_a (th_in _ T15) r0) e16
    have f16 := fr_u T15 Z16.2.2
    replace e := cl_s e
    obtain ⟨r17, g17, e⟩ := e
    replace e := nm_s e
    obtain ⟨v18, w18, e⟩ := e
    have e0 : hR o16 x0 0 = some tp := by rw [(frx f16 r0 (by decide) rfl rfl).2.2, (frx f15 r0 (by decide) rfl rfl).2.2, K12, K4]; exact e2
    refine lk_t (lk_t (lk_f f15 (fun k w i z => ?_)) (lk_f f16 (fun k w i z => ?_))) (fin e0 e).2
    · rcases lw_c z with z | z | z | z | z | z | z | z <;> subst z <;> rfl
    · rcases lw_c z with z | z | z | z | z | z | z | z <;> subst z <;> rfl
  replace e := cl_s e
  obtain ⟨W, eW, e⟩ := e
  replace e := cl_s e
  obtain ⟨r14, g14, e⟩ := e
  have y14 : r14 = L := r_eq (by rw [K12, K4]; exact eL) g14
  rw [y14] at e
  have rW : ρ W = 11 := rr T12 (thR T12 r0 (i := 5) (k2 := 11) rfl (by decide)) eW
  obtain ⟨c', hc, T', lw⟩ := lw_mk1 T12 qL wL s12
  have cwe : cw c' = cw c := by
    rcases hc with z | z
    · rw [z]
    · rw [z]; rfl
  have w' : cw c' L = 2102 := by rw [cwe]; exact wL
  have hA' : pmA c' RUC := by rcases hc with z | z <;> (rw [z]; exact hA)
  replace e := cl_s e
  obtain ⟨o15, e15, e⟩ := e
  have Z15 := sat_e (zX10_lay (c := cat c' (fS [(50, 999), (51, 999), (52, 999), (53, 999), (54, 999), (55, 999), (56, 999), (11, 7), (11, 8)] []) o12.2) hF fs_a rfl (th_in _ T') rW qL w' lw) e15
  have T15 := th_out T' (fs_sub (pmA_s hA' rfl) fs_n) Z15
  have f15 := fr_u T' Z15.2.2
  replace e := cl_s e
  obtain ⟨o16, e16, e⟩ := e
  have Z16 := sat_e (zX11_forgetAll (c := cat c' (fS [(58, 999), (61, 999), (1, 10), (5, 14), (5, 15), (5, 16), (7, 6)] []) o15) hF fs_a (th_in _ T15) r0) e16
  have f16 := fr_u T15 Z16.2.2
  have e0 : hR o16 x0 0 = some tp := by rw [(frx f16 r0 (by decide) rfl rfl).2.2, (frx f15 r0 (by decide) rfl rfl).2.2, K12, K4]; exact e2
  have K16 : hR o16 x0 2 = some L := by
    rw [(frx f16 r0 (by decide) rfl rfl).2.2, (frx f15 r0 (by decide) rfl rfl).2.2, K12, K4]; exact eL
  replace e := cl_s e
  obtain ⟨r17, g17, e⟩ := e
  have y17 : r17 = L := r_eq K16 g17
  rw [y17] at e
  replace e := nm_s e
  obtain ⟨v18, w18, e⟩ := e
  rw [(fin e0 e).1, w18, (frx f16 qL (by decide) rfl rfl).1, (frx f15 qL (by decide) rfl rfl).1]
theorem rr_56 {lw s : Nat} {o : Int32 × Hp} (qw : ρ lw = 15) (r0 : ρ x0 = 16) : ∀ (f : Nat) {h : Hp} {x2 : Int32}, hR h x0 4 = some lw → (∀ r, hR h x0 39 = some r → ρ r = 94) → sX15_rules_56 F f h x0 x2 = some o → o.1 = hI h lw 2 ∧ RK ρ h o.2 ∧ ∀ i, hR o.2 x0 i = hR h x0 i ∧ ((i = 11 ∨ i = 12) → hI o.2 x0 i = hI h x0 i) := by
  have ne : ∀ {a b i j : Nat}, ρ a = i → ρ b = j → ¬ i = j → ¬ a = b := fun ha hb n z => n (by rw [← ha, z]; exact hb)
  intro f
  induction f with
  | zero => intro h x2 _ _ e; exact absurd e (by simp [sX15_rules_56])
  | succ f ih =>
    intro h x2 ew q94 e
    unfold sX15_rules_56 at e
    replace e := br_s e
    rcases e with ⟨_, e⟩ | ⟨_, e⟩
    · replace e := nm_s e
      obtain ⟨h2, w2, e⟩ := e
      replace e := nm_s e
      obtain ⟨h3, w3, e⟩ := e
      replace e := nm_s e
      obtain ⟨h4, w4, e⟩ := e
      replace e := cl_s e
      obtain ⟨r5, e5, e⟩ := e
      have y5 : r5 = lw := r_eq (by rw [w4, w3, w2]; exact ew) e5
      rw [← Option.some.inj e, y5]
      refine ⟨?_, fun a z i => ?_, fun i => ⟨by show hR h4 x0 i = _; rw [w4, w3, w2]; rfl, fun z => by show hI h4 x0 i = _; rw [w4, rI_o (by omega), w3, rI_o (by omega), w2, rI_o (by omega)]⟩⟩
      · show hI h4 lw 2 = _
        rw [w4, rI_a (ne qw r0 (by decide)), w3, rI_a (ne qw r0 (by decide)), w2, rI_a (ne qw r0 (by decide))]
      · have na : ¬ a = x0 := fun q => by rw [q, r0] at z; exact absurd z (by decide)
        refine ⟨?_, by show hJ h4 a i = _; rw [w4, w3, w2]; rfl, by show hR h4 a i = _; rw [w4, w3, w2]; rfl⟩
        show hI h4 a i = _
        rw [w4, rI_a na, w3, rI_a na, w2, rI_a na]
    replace e := cl_s e
    obtain ⟨r6, e6, e⟩ := e
    replace e := (gd_s e).2
    replace e := nm_s e
    obtain ⟨h8, w8, e⟩ := e
    replace e := nm_s e
    obtain ⟨_, _, e⟩ := e
    obtain ⟨i1, i2, i3⟩ := ih (h := h8) (by rw [w8]; exact ew) (fun r er => q94 r (by rw [w8] at er; exact er)) e
    refine ⟨by rw [i1, w8, rI_a (ne qw (q94 r6 e6) (by decide))], fun a z i => ?_, fun i => ⟨by rw [(i3 i).1, w8]; rfl, fun z => by rw [(i3 i).2 z, w8, rI_a (ne r0 (q94 r6 e6) (by decide))]⟩⟩
    have na : ¬ a = r6 := fun q => by rw [q, q94 r6 e6] at z; exact absurd z (by decide)
    obtain ⟨j1, j2, j3⟩ := i2 a z i
    exact ⟨by rw [j1, w8, rI_a na], by rw [j2, w8]; rfl, by rw [j3, w8]; rfl⟩
theorem rr_35 {lw : Nat} {o : Int32 × Hp} (qw : ρ lw = 15) (r0 : ρ x0 = 16) : ∀ (f : Nat) {h : Hp} {x2 : Int32}, hR h x0 4 = some lw → (∀ r, hR h x0 15 = some r → ρ r = 85) → (∀ r, hR h x0 39 = some r → ρ r = 94) → sX15_rules_35 F f h x0 x2 = some o → o.1 = hI h lw 2 ∧ RK ρ h o.2 ∧ ∀ i, hR o.2 x0 i = hR h x0 i ∧ ((i = 11 ∨ i = 12) → hI o.2 x0 i = hI h x0 i) := by
  have ne : ∀ {a b i j : Nat}, ρ a = i → ρ b = j → ¬ i = j → ¬ a = b := fun ha hb n z => n (by rw [← ha, z]; exact hb)
  intro f
  induction f with
  | zero => intro h x2 _ _ _ e; exact absurd e (by simp [sX15_rules_35])
  | succ f ih =>
    intro h x2 ew q85 q94 e
    unfold sX15_rules_35 at e
    replace e := br_s e
    rcases e with ⟨_, e⟩ | ⟨_, e⟩
    · exact rr_56 (s := 0) qw r0 F ew q94 e
    replace e := cl_s e
    obtain ⟨s, es, e⟩ := e
    replace e := (gd_s e).2
    replace e := nm_s e
    obtain ⟨h4, w4, e⟩ := e
    replace e := nm_s e
    obtain ⟨_, _, e⟩ := e
    obtain ⟨i1, i2, i3⟩ := ih (h := h4) (by rw [w4]; exact ew) (fun r er => q85 r (by rw [w4] at er; exact er)) (fun r er => q94 r (by rw [w4] at er; exact er)) e
    refine ⟨by rw [i1, w4, rI_a (ne qw (q85 s es) (by decide))], fun a z i => ?_, fun i => ⟨by rw [(i3 i).1, w4]; rfl, fun z => by rw [(i3 i).2 z, w4, rI_a (ne r0 (q85 s es) (by decide))]⟩⟩
    have na : ¬ a = s := fun q => by rw [q, q85 s es] at z; exact absurd z (by decide)
    obtain ⟨j1, j2, j3⟩ := i2 a z i
    exact ⟨by rw [j1, w4, rI_a na], by rw [j2, w4]; rfl, by rw [j3, w4]; rfl⟩
/-- what the reference answers -/
theorem rru_q {tp lw l4 : Nat} {o : Int32 × Hp} (hF : 700000 ≤ F) (hp : hpR c) (hl : hlR c) (T : TH ρ c h) (r0 : ρ x0 = 16) (e0 : hR h x0 0 = some tp) (e4' : hR h x0 4 = some l4) (e5 : hR h x0 5 = some lw) (e : sX15_rules F h x0 = some o) : ∃ o', sX15_isRules F (wI h x0 1 (0 : Int32)) x0 tp (hI h x0 1) = some o' ∧ ((o'.1 = 0 ∧ o.1 = (-1 : Int32) - hI o'.2 x0 7 ∧ o.2 = o'.2 ∧ (hI o.2 x0 11 = hI h x0 11 ∧ hI o.2 x0 12 = hI h x0 12)) ∨ (¬ o'.1 = 0 ∧ o.1 = hI o'.2 lw 2 ∧ hR o.2 x0 4 = some lw ∧ hR o.2 x0 5 = some l4 ∧ RK ρ o'.2 o.2 ∧ (hI o.2 x0 11 = hI o.2 lw 0 ∧ hI o.2 x0 12 = hI o.2 lw 1))) := by
  unfold sX15_rules at e
  replace e := nm_s e
  obtain ⟨v, wv, e⟩ := e
  replace e := nm_s e
  obtain ⟨h2, w2, e⟩ := e
  have iv : Rg 0 1200 v := by rw [wv]; exact thI T r0 rfl
  have T2 : TH ρ c h2 := by rw [w2]; exact th_wI T r0 (k := 16) (lo := 0) (hi := 1200) rfl (rg_m (rg_b rfl : Rg 0 0 (0 : Int32)) (by decide)) (by decide) (by decide) (hp 16 _ 1 rfl (fun z => absurd z.2 (by decide)))
  replace e := cl_s e
  obtain ⟨r3, g3, e⟩ := e
  have y3 : r3 = tp := r_eq (by rw [w2]; exact e0) g3
  rw [y3] at e
  have qt : ρ tp = 82 := rr T (thR T r0 (i := 0) (k2 := 82) rfl (by decide)) e0
  have qw : ρ lw = 15 := rr T (thR T r0 (i := 5) (k2 := 15) rfl (by decide)) e5
  have nw : ¬ lw = x0 := fun z => by rw [z, r0] at qw; exact absurd qw (by decide)
  replace e := cl_s e
  obtain ⟨o4, e4, e⟩ := e
  have Z4 := sat_e (zX15_isRules (c := cat c (fS irA []) h2) hF fs_a (th_in _ T2) r0 qt iv) e4
  have T4 := th_out T2 (fs_rl hp hl rfl) Z4.1.1
  have f4 := fr_u T2 Z4.1.1.2.2
  have e44 : hR o4.2 x0 4 = some l4 := by
    rw [(fr_RI f4 r0 (by decide) (fun _ => rfl)).2.2, w2]; exact e4'
  have e54 : hR o4.2 x0 5 = some lw := by
    rw [(fr_RI f4 r0 (by decide) (fun _ => rfl)).2.2, w2]; exact e5
  refine ⟨o4, by rw [← w2, ← wv]; exact e4, ?_⟩
  replace e := br_s e
  rcases e with ⟨b, e⟩ | ⟨b, e⟩
  · refine Or.inl ⟨b, by rw [← Option.some.inj e], by rw [← Option.some.inj e], ?_, ?_⟩
    · rw [← Option.some.inj e]
      show hI o4.2 x0 11 = _
      rw [(fr_RI f4 r0 (by decide) (fun _ => rfl)).1, w2, rI_o (by decide)]
    · rw [← Option.some.inj e]
      show hI o4.2 x0 12 = _
      rw [(fr_RI f4 r0 (by decide) (fun _ => rfl)).1, w2, rI_o (by decide)]
  refine Or.inr ⟨b, ?_⟩
  replace e := cl_s e
  obtain ⟨o6, e6, e⟩ := e
  have q85 : ∀ r, hR o4.2 x0 15 = some r → ρ r = 85 := fun r er => rr T4 (thR T4 r0 (i := 15) (k2 := 85) rfl (by decide)) er
  have q94 : ∀ r, hR o4.2 x0 39 = some r → ρ r = 94 := fun r er => rr T4 (thR T4 r0 (i := 39) (k2 := 94) rfl (by decide)) er
  unfold sX15_take at e6
  replace e6 := cl_s e6
  obtain ⟨k1, g1, e6⟩ := e6
  replace e6 := cl_s e6
  obtain ⟨k2, g2, e6⟩ := e6
  have y1 : k1 = l4 := r_eq e44 g1
  have y2 : k2 = lw := r_eq e54 g2
  rw [y2] at e6
  replace e6 := nm_s e6
  obtain ⟨m3, v3, e6⟩ := e6
  replace e6 := nm_s e6
  obtain ⟨m4, v4, e6⟩ := e6
  replace e6 := cl_s e6
  obtain ⟨k5, g5, e6⟩ := e6
  replace e6 := nm_s e6
  obtain ⟨m6, v6, e6⟩ := e6
  replace e6 := cl_s e6
  obtain ⟨k7, g7, e6⟩ := e6
  replace e6 := nm_s e6
  obtain ⟨m8, v8, e6⟩ := e6
  replace e6 := nm_s e6
  obtain ⟨m9, v9, e6⟩ := e6
  have z6 : m9 = o6 := Option.some.inj e6
  rw [← z6] at e
  have R9 : ∀ i, hR m9 x0 i = hR m4 x0 i := fun i => by rw [v9, hR_wI, v8, hR_wI, v6, hR_wI]
  have A4 : hR m9 x0 4 = some lw := by rw [R9, v4, r_R, if_neg (fun z => absurd z.2 (by decide)), v3, r_R, if_pos ⟨rfl, rfl⟩]
  have A15 : hR m9 x0 15 = hR o4.2 x0 15 := by rw [R9, v4, r_R, if_neg (fun z => absurd z.2 (by decide)), v3, r_R, if_neg (fun z => absurd z.2 (by decide))]
  have A39 : hR m9 x0 39 = hR o4.2 x0 39 := by rw [R9, v4, r_R, if_neg (fun z => absurd z.2 (by decide)), v3, r_R, if_neg (fun z => absurd z.2 (by decide))]
  have A5 : hR m9 x0 5 = some l4 := by rw [R9, v4, r_R, if_pos ⟨rfl, rfl⟩, y1]
  obtain ⟨i1, i2, i3⟩ := rr_35 qw r0 F A4 (fun r er => q85 r (by rw [← A15]; exact er)) (fun r er => q94 r (by rw [← A39]; exact er)) e
  have y5 : k5 = lw := r_eq (by rw [v4, r_R, if_neg (fun z => absurd z.2 (by decide)), v3, r_R, if_pos ⟨rfl, rfl⟩]) g5
  have y7 : k7 = lw := r_eq (by rw [v6, hR_wI, v4, r_R, if_neg (fun z => absurd z.2 (by decide)), v3, r_R, if_pos ⟨rfl, rfl⟩]) g7
  have zw : rwK (ρ lw) = true := by rw [qw]; rfl
  have F1 : hI o.2 x0 11 = hI o.2 lw 0 := by
    rw [(i3 11).2 (Or.inl rfl), (i2 lw zw 0).1, v9, rI_o (by decide), rI_a nw, v8, rI_o (by decide), rI_a nw, v6, rI_s, rI_a nw, y5]
  have F2 : hI o.2 x0 12 = hI o.2 lw 1 := by
    rw [(i3 12).2 (Or.inr rfl), (i2 lw zw 1).1, v9, rI_o (by decide), rI_a nw, v8, rI_s, rI_a nw, y7]
  refine ⟨by rw [i1, v9, rI_a nw, v8, rI_a nw, v6, rI_a nw, v4, v3]; rfl, by rw [(i3 _).1]; exact A4, by rw [(i3 _).1]; exact A5, fun a z i => ?_, F1, F2⟩
  have na : ¬ a = x0 := fun q => by rw [q, r0] at z; exact absurd z (by decide)
  obtain ⟨j1, j2, j3⟩ := i2 a z i
  refine ⟨by rw [j1, v9, rI_a na, v8, rI_a na, v6, rI_a na, v4, v3]; rfl, by rw [j2, v9, v8, v6, v4, v3]; rfl, ?_⟩
  rw [j3, v9, hR_wI, v8, hR_wI, v6, hR_wI, v4, r_R, if_neg (fun z => na z.1), v3, r_R, if_neg (fun z => na z.1)]
/-- addresses by role, out of a list -/
def zmk : List (Nat × Nat) → Nat → Nat
  | [], _ => 0
  | p :: q, k => bif Nat.beq k p.1 then p.2 else zmk q k
/-- both readings, addresses by roles -/
theorem rd_p {rd t L m x1 lw : Nat} {x2 v : Int32} {o o' : Int32 × Hp} (T : TH ρ c hc) (qrd : ρ rd = 3) (qt : ρ t = 10) (qL : ρ L = 2) (T1 : TH ρ1 c1 h1) (X : ∀ a, ρ a ≠ 0 → ρ1 a = ρ a) (m1 : ρ1 m = 16) (ex1 : hR h1 m 0 = some x1) (elw : hR h1 m 5 = some lw) (tl : (hI hc t 1).toInt = x2.toInt) (i2 : Rg 0 1200 x2) (tb : ∀ bt, hR hc t 0 = some bt → ∀ i : Nat, (i : Int) < x2.toInt → (hI h1 x1 i).toInt = sg (hI hc bt i).toInt) (e : sX2_read F hc rd t L = some o) (e' : sX15_isRules F (wI h1 m 1 v) m x1 x2 = some o') : (o.1 = 0 ∧ o'.1 = 0 ∧ hI o.2 rd 2 = hI o'.2 m 7) ∨ (¬ o.1 = 0 ∧ ¬ o'.1 = 0 ∧ LawR L lw o.2 o'.2) := by
  obtain ⟨bt, ebt, qbt⟩ := thR T qt (i := 0) (k2 := 49) rfl (by decide)
  obtain ⟨l27, e27, q27⟩ := thR T qL (i := 14) (k2 := 27) rfl (by decide)
  obtain ⟨l28, e28, q28⟩ := thR T qL (i := 15) (k2 := 28) rfl (by decide)
  obtain ⟨l29, e29, q29⟩ := thR T qL (i := 16) (k2 := 29) rfl (by decide)
  obtain ⟨l30, e30, q30⟩ := thR T qL (i := 17) (k2 := 30) rfl (by decide)
  obtain ⟨l31, e31, q31⟩ := thR T qL (i := 18) (k2 := 31) rfl (by decide)
  obtain ⟨l32, e32, q32⟩ := thR T qL (i := 19) (k2 := 32) rfl (by decide)
  obtain ⟨l33, e33, q33⟩ := thR T qL (i := 20) (k2 := 33) rfl (by decide)
  have qx1 : ρ1 x1 = 82 := rr T1 (thR T1 m1 (i := 0) (k2 := 82) rfl (by decide)) ex1
  have qlw : ρ1 lw = 15 := rr T1 (thR T1 m1 (i := 5) (k2 := 15) rfl (by decide)) elw
  obtain ⟨k73, e73, q73⟩ := thR T1 qlw (i := 3) (k2 := 73) rfl (by decide)
  obtain ⟨k74, e74, q74⟩ := thR T1 qlw (i := 4) (k2 := 74) rfl (by decide)
  obtain ⟨k75, e75, q75⟩ := thR T1 qlw (i := 5) (k2 := 75) rfl (by decide)
  obtain ⟨k76, e76, q76⟩ := thR T1 qlw (i := 6) (k2 := 76) rfl (by decide)
  obtain ⟨k77, e77, q77⟩ := thR T1 qlw (i := 7) (k2 := 77) rfl (by decide)
  obtain ⟨k78, e78, q78⟩ := thR T1 qlw (i := 8) (k2 := 78) rfl (by decide)
  obtain ⟨k79, e79, q79⟩ := thR T1 qlw (i := 9) (k2 := 79) rfl (by decide)
  obtain ⟨k80, e80, q80⟩ := thR T1 qlw (i := 13) (k2 := 80) rfl (by decide)
  obtain ⟨k81, e81, q81⟩ := thR T1 qlw (i := 14) (k2 := 81) rfl (by decide)
  have up : ∀ {a k : Nat}, ρ a = k → ¬ k = 0 → ρ1 a = k := fun {a k} q n => by rw [X a (by rw [q]; exact n)]; exact q
  let Z : Nat → Nat := zmk [(3, rd), (10, t), (49, bt), (2, L), (27, l27), (28, l28), (29, l29), (30, l30), (31, l31), (16, m), (15, lw), (82, x1), (73, k73), (74, k74), (75, k75), (76, k76), (77, k77), (78, k78), (79, k79), (80, k80), (81, k81)]
  have RZ1 : ∀ i, i ∈ zl → ρ1 (Z i) = i := fun i hi => by
    simp only [List.mem_cons, List.not_mem_nil, or_false] at hi
    rcases hi with rfl | rfl | rfl | rfl | rfl | rfl | rfl | rfl | rfl | rfl | rfl | rfl | rfl | rfl | rfl | rfl | rfl | rfl | rfl | rfl | rfl
    · exact up qrd (by decide)
    · exact up qt (by decide)
    · exact up qbt (by decide)
    · exact up qL (by decide)
    · exact up q27 (by decide)
    · exact up q28 (by decide)
    · exact up q29 (by decide)
    · exact up q30 (by decide)
    · exact up q31 (by decide)
    · exact m1
    · exact qlw
    · exact qx1
    · exact q73
    · exact q74
    · exact q75
    · exact q76
    · exact q77
    · exact q78
    · exact q79
    · exact q80
    · exact q81
  have D : ZD Z := fun i hi j hj z => by rw [← RZ1 i hi, z]; exact RZ1 j hj
  have n1 : ¬ x1 = m := fun z => by rw [z, m1] at qx1; exact absurd qx1 (by decide)
  have f := rd_r (T := fun i => (hI hc bt i).toInt) (N := x2.toInt) (Z := Z) (x2 := x2) (a := l32) (b := l33) (hc := hc) (hr := wI h1 m 1 v) i2.2 (fun j _ => thI T qbt rfl) D rfl i2.1 rfl rfl rfl rfl ebt e27 e28 e29 e30 e31 (thN T q29 (k := 29) (n := 12) rfl (by decide)) (thN T q31 (k := 31) (n := 12) rfl (by decide)) tl (fun i _ => rfl) e32 e33 (fun i hi z => by
    have a1 := RZ1 i hi
    rw [z, up q32 (by decide)] at a1
    rw [← a1] at hi
    exact absurd hi (by decide)) (fun i hi z => by
    have a1 := RZ1 i hi
    rw [z, up q33 (by decide)] at a1
    rw [← a1] at hi
    exact absurd hi (by decide)) ⟨elw, e73, e74, e75, e76, e77, e78, e79, e80, e81⟩ (fun i hi => by
    show (hI (wI h1 m 1 v) x1 i).toInt = _
    rw [rI_a n1]
    exact tb bt ebt i hi) e e'
  rcases f with f | ⟨f1, f2, zc, zr, ls⟩
  · exact Or.inl f
  · exact Or.inr ⟨f1, f2, Z, ⟨⟨rfl, zc.2.2.2.1, zc.2.2.2.2.1, zc.2.2.2.2.2.1, zc.2.2.2.2.2.2.1, zc.2.2.2.2.2.2.2⟩, ⟨rfl, zr.2⟩, rfl, rfl, rfl⟩, lwq_s ls⟩
end
