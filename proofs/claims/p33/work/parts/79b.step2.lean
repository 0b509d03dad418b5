/-! calls of the class that write what others stand on -/
section
variable {ρ ρ1 : Nat → Nat} {c c1 : Cm} {h o g : Hp} {S : Nat → Nat → Nat → Bool} {x0 a b k w i F L : Nat} {B : Nat × Nat} {lo hi : Int} {x1 x2 x3 x4 : Int32}
theorem ci_f2 (T : TH ρ c h) (r0 : ρ x0 = 12) (f : Fr ρ (cat c S h) h o) (s1 : ∀ k w i, clS k = true → k ≠ 1 → k ≠ 4 → k ≠ 34 → k ≠ 36 → S k w i = false) (s2 : ∀ k w i, (k = 4 ∨ k = 34 ∨ k = 36) → (w = 3200 ∨ 8000 ≤ w ∨ w = 1603) → S k w i = false) (se : ∀ w j, ¬ j = 14 → ¬ j = 8 → ¬ j = 17 → ¬ j = 16 → S 1 w j = false) (P : ClI ρ c x0 h) : ClI ρ c x0 o := by
  obtain ⟨p1, p2, p3, p4, p5, p6, p7, p8, p9, p10, p11, p12, p13⟩ := P
  have s : ∀ k w i, clS k = true → k ≠ 1 → k ≠ 4 → k ≠ 34 → k ≠ 36 → S k w i = false := s1
  have lw : LWc S := fun i => s _ _ _ rfl (by decide) (by decide) (by decide) (by decide)
  have a12 : ∀ w i, S 12 w i = false := fun _ _ => s _ _ _ rfl (by decide) (by decide) (by decide) (by decide)
  refine ⟨lwr_f f lw p1, plp_f T r0 f a12 (fun _ _ => s _ _ _ rfl (by decide) (by decide) (by decide) (by decide)) (fun _ _ => s _ _ _ rfl (by decide) (by decide) (by decide) (by decide)) (s2 _ _ _ (by decide) (Or.inl rfl)) (fun _ => s2 _ _ _ (by decide) (Or.inl rfl)) lw p2, plx_f T r0 f a12 (fun _ _ => s _ _ _ rfl (by decide) (by decide) (by decide) (by decide)) (fun _ _ => s _ _ _ rfl (by decide) (by decide) (by decide) (by decide)) (s2 _ _ _ (by decide) (Or.inl rfl)) (fun _ => s2 _ _ _ (by decide) (Or.inl rfl)) lw p3, pgx_f T r0 f a12 (fun _ _ => s _ _ _ rfl (by decide) (by decide) (by decide) (by decide)) (fun _ _ => s _ _ _ rfl (by decide) (by decide) (by decide) (by decide)) (fun _ => s2 _ _ _ (by decide) (Or.inr (Or.inl (by omega)))) (fun _ => s2 _ _ _ (by decide) (Or.inr (Or.inl (by omega)))) (fun _ _ => s2 _ _ _ (by decide) (Or.inr (Or.inl (by omega)))) (fun _ _ => s2 _ _ _ (by decide) (Or.inr (Or.inl (by omega)))) lw p4, gem_f T r0 f a12 (fun _ => s _ _ _ rfl (by decide) (by decide) (by decide) (by decide)) lw p5, get_f T r0 f a12 (fun _ => s _ _ _ rfl (by decide) (by decide) (by decide) (by decide)) (fun i => s _ _ _ rfl (by decide) (by decide) (by decide) (by decide)) p6, fmm_f T f (fun _ => s _ _ _ rfl (by decide) (by decide) (by decide) (by decide)) (fun _ _ => s _ _ _ rfl (by decide) (by decide) (by decide) (by decide)) p7, rex_f T r0 f a12 (fun _ => s _ _ _ rfl (by decide) (by decide) (by decide) (by decide)) (fun _ => s _ _ _ rfl (by decide) (by decide) (by decide) (by decide)) (fun _ => s _ _ _ rfl (by decide) (by decide) (by decide) (by decide)) (fun _ _ => s _ _ _ rfl (by decide) (by decide) (by decide) (by decide)) (s2 _ _ _ (by decide) (Or.inr (Or.inr rfl))) (s2 _ _ _ (by decide) (Or.inr (Or.inr rfl))) (fun _ => s2 _ _ _ (by decide) (Or.inr (Or.inr rfl))) (fun _ => s2 _ _ _ (by decide) (Or.inr (Or.inr rfl))) lw p8, ena_f T r0 f a12 se (fun _ _ => s _ _ _ rfl (by decide) (by decide) (by decide) (by decide)) (fun _ _ => s _ _ _ rfl (by decide) (by decide) (by decide) (by decide)) (fun _ _ => s _ _ _ rfl (by decide) (by decide) (by decide) (by decide)) lw p9, fmy_f T f (fun _ => s _ _ _ rfl (by decide) (by decide) (by decide) (by decide)) (fun _ _ => s _ _ _ rfl (by decide) (by decide) (by decide) (by decide)) lw p10, lwx_f T f lw (fun _ => s _ _ _ rfl (by decide) (by decide) (by decide) (by decide)) (fun _ => s _ _ _ rfl (by decide) (by decide) (by decide) (by decide)) p11, wya_f T f (fun _ => s _ _ _ rfl (by decide) (by decide) (by decide) (by decide)) (fun _ => s _ _ _ rfl (by decide) (by decide) (by decide) (by decide)) (fun _ => s _ _ _ rfl (by decide) (by decide) (by decide) (by decide)) (fun _ _ => s _ _ _ rfl (by decide) (by decide) (by decide) (by decide)) (fun _ _ => s _ _ _ rfl (by decide) (by decide) (by decide) (by decide)) lw p12, sqa_f f lw p13⟩
theorem plp_g (T : TH ρ c h) (r0 : ρ x0 = 12) (f : Fr ρ (cat c S h) h o) (s12 : ∀ w i, S 12 w i = false) (s57 : ∀ w i, S 57 w i = false) (n58 : ∀ u i, ρ u = 58 → ¬ hI o u i = 0 → ¬ hI h u i = 0) (s4 : S 4 3200 2 = false) (s36 : ∀ i, S 36 3200 i = false) (s : LWc S) (P : PlP ρ c x0 h) : PlP ρ c x0 o := fun r u er eu i hi nu b eb => by
  rw [(frx f r0 (by decide) rfl (s12 _ _)).2.2] at er eu
  have rr' : ρ r = 57 := rr T (thR T r0 (i := 13) (k2 := 57) rfl (by decide)) er
  have ru : ρ u = 58 := rr T (thR T r0 (i := 14) (k2 := 58) rfl (by decide)) eu
  rw [(frx f rr' (by decide) rfl (s57 _ _)).2.2] at eb
  exact ryp_f T (pl_b T rr' hi eb) (kid_w T rr' (i := i) (w := 3200) rfl (by decide) eb) f s4 s36 s (P r u er eu i hi (n58 u i ru nu) b eb)
theorem plx_g (T : TH ρ c h) (r0 : ρ x0 = 12) (f : Fr ρ (cat c S h) h o) (s12 : ∀ w i, S 12 w i = false) (s57 : ∀ w i, S 57 w i = false) (n58 : ∀ u i, ρ u = 58 → ¬ hI o u i = 0 → ¬ hI h u i = 0) (s4 : S 4 3200 0 = false) (s34 : ∀ i, S 34 3200 i = false) (s : LWc S) (P : PlX ρ c x0 h) : PlX ρ c x0 o := fun r u er eu i hi nu b eb => by
  rw [(frx f r0 (by decide) rfl (s12 _ _)).2.2] at er eu
  have rr' : ρ r = 57 := rr T (thR T r0 (i := 13) (k2 := 57) rfl (by decide)) er
  have ru : ρ u = 58 := rr T (thR T r0 (i := 14) (k2 := 58) rfl (by decide)) eu
  rw [(frx f rr' (by decide) rfl (s57 _ _)).2.2] at eb
  exact pox_f T (pl_b T rr' hi eb) (kid_w T rr' (i := i) (w := 3200) rfl (by decide) eb) f s4 s34 s (P r u er eu i hi (n58 u i ru nu) b eb)
theorem pgx_g (T : TH ρ c h) (r0 : ρ x0 = 12) (f : Fr ρ (cat c S h) h o) (s12 : ∀ w i, S 12 w i = false) (s59 : ∀ w i, S 59 w i = false) (n61 : ∀ rl n, ρ rl = 61 → (hI o rl n).toInt ≤ (hI h rl n).toInt) (s4 : ∀ j, S 4 (8000 + j) 0 = false) (s42 : ∀ j, S 4 (8000 + j) 2 = false) (s34 : ∀ j i, S 34 (8000 + j) i = false) (s36 : ∀ j i, S 36 (8000 + j) i = false) (s : LWc S) (P : PgX ρ c x0 h) : PgX ρ c x0 o := fun rl el n k hn hk b Bp => by
  rw [(frx f r0 (by decide) rfl (s12 _ _)).2.2] at el
  have rl' : ρ rl = 61 := rr T (thR T r0 (i := 17) (k2 := 61) rfl (by decide)) el
  have hk' := Int.le_trans hk (n61 rl n rl')
  have B0 : Pg x0 (301 * n + k) b h := by
    obtain ⟨r, e1, e2⟩ := Bp
    rw [(frx f r0 (by decide) rfl (s12 _ _)).2.2] at e1
    have r59 : ρ r = 59 := rr T (thR T r0 (i := 15) (k2 := 59) rfl (by decide)) e1
    rw [(frx f r59 (by decide) rfl (s59 _ _)).2.2] at e2
    exact ⟨r, e1, e2⟩
  obtain ⟨k1, k2⟩ := pg_r T r0 B0
  have Q := P rl el n k hn hk' b B0
  exact ⟨ryp_f T k1 k2 f (s42 _) (s36 _) s Q.1, pox_f T k1 k2 f (s4 _) (s34 _) s Q.2⟩
theorem fs_w {A : List (Nat × Nat)} (hA : mS A k i = false) : fS A [] k w i = false := by
  unfold fS
  rw [hA]; rfl
theorem cw_worth (hF : 700000 ≤ F) (hp : hpC c) (T : TH ρ c h) (r0 : ρ x0 = 12) (I : ClI ρ c x0 h) (R : RmC x0 B h) : Sat (sX11_worth F h x0 x1) (CP ρ c x0 B (Tp x0 h)) := s_imp (zX11_worth (c := cat c (fS RWL []) h) hF fs_a (th_in _ T) r0 I.2.2.2.2.2.2.2.2.1 I.2.2.1) fun o ho => by
  have T' := th_out T (fs_c1 hp rfl) ho.1
  have f := fr_u T ho.1.2.2
  refine ⟨ρ, c, exm_0, T', ci_f2 T r0 f (fun k w i hk n1 n4 n34 n36 => ?_) (fun k w i hk hw => ?_) (fun w j n14 n8 n17 n16 => ?_) I, rmc_f T r0 f T' (fun _ _ => rfl) (fun _ _ => rfl) (fun _ => rfl) (fun _ => rfl) R, tp_f T r0 f (fun _ => rfl) rfl⟩
  · rcases clS_c hk with z | z | z | z | z | z | z | z | z | z | z | z | z | z | z | z | z | z | z | z | z | z <;> subst z <;> first | rfl | exact absurd rfl n1
  · rcases hk with z | z | z <;> subst z <;> rfl
  · refine fs_w ?_
    show ((23 == 1 && (999 == 999 || 999 == j)) || ((1 == 1 && (8 == 999 || 8 == j)) || false)) = false
    rw [bq_ne (show 8 ≠ j from fun z => n8 z.symm)]; rfl
/-- out of what was made -/
theorem mk_out {P : Hp → Prop} {o : Int32 × Hp} (T : TH ρ c h) (hs : ∀ k w i, S k w i = true → cPm c k w i = true) (Z : MkI ρ (cat c S h) lo hi P o) : ∃ ρ' c', Ext ρ c ρ' c' ∧ TH ρ' c' o.2 ∧ Fr ρ (cat c S h) h o.2 ∧ P o.2 := by
  obtain ⟨ρ', c', X, T1, _, p⟩ := Z
  obtain ⟨X2, T2⟩ := ex_o T hs X T1
  exact ⟨ρ', _, X2, T2, ex_f T X T1, p⟩
/-- pages' room, the endings' set aside -/
theorem rm_pay (T : TH ρ c h) (r0 : ρ x0 = 12) (R : RmC x0 B h) : ∃ B', Pay 15 2408 6 83 B' x0 h ∧ ∀ g : Hp, Pay 15 2408 6 83 B' x0 g → (∀ i, ¬ i = 15 → hR g x0 i = hR h x0 i) → (∀ e, ρ e = 1 → hR g e 11 = hR h e 11) → (∀ t, ρ t = 10 → hR g t 0 = hR h t 0) → (∀ a, ρ a ≠ 0 → hN g a = hN h a) → RmC x0 B g := by
  obtain ⟨e, ee, re⟩ := thR T r0 (i := 10) (k2 := 1) rfl (by decide)
  obtain ⟨a, ea, ra⟩ := thR T re (i := 11) (k2 := 24) rfl (by decide)
  obtain ⟨p, hp⟩ : ∃ p : Nat, p = if hN h a = 600000 then 0 else 3 := ⟨_, rfl⟩
  obtain ⟨q, hq⟩ : ∃ q : Nat, q = if hN h a = 600000 then 0 else 1800000 := ⟨_, rfl⟩
  refine ⟨(B.1 - p, B.2 - q), fun r er => ?_, fun g P e10 e11 e0 N => ⟨fun r e' a' er ee' ea' => ?_, fun t b et eb => ?_⟩⟩
  · have := R.1 r e a er ee ea
    rw [← hp, ← hq] at this
    show h.1.1 + 6 * nuC h r 2408 ≤ B.1 - p ∧ h.1.2 + 83 * nuC h r 2408 ≤ B.2 - q
    omega
  · rw [e10 10 (by decide)] at ee'
    have y1 : e' = e := r_eq ee ee'
    subst y1
    rw [e11 e' re] at ea'
    have y2 : a' = a := r_eq ea ea'
    subst y2
    rw [N a' (by rw [ra]; decide), ← hp, ← hq]
    obtain ⟨r1, er1, _⟩ := thR T r0 (i := 15) (k2 := 59) rfl (by decide)
    have h0 := R.1 r1 e' a' er1 ee ea
    rw [← hp, ← hq] at h0
    have h1 : g.1.1 + 6 * nuC g r 2408 ≤ B.1 - p ∧ g.1.2 + 83 * nuC g r 2408 ≤ B.2 - q := P r er
    omega
  · rw [e10 0 (by decide)] at et
    have rt : ρ t = 10 := rr T (thR T r0 (i := 0) (k2 := 10) rfl (by decide)) et
    rw [e0 t rt] at eb
    have rb : ρ b = 49 := rr T (thR T rt (i := 0) (k2 := 49) rfl (by decide)) eb
    rw [N b (by rw [rb]; decide)]
    exact R.2 t b et eb
/-- the class's state, behind a call that makes pages -/
theorem pg_step {E : Nat → Nat → Bool} {wp : Nat → Bool} {P : Hp → Prop} {m : Option (Int32 × Hp)} (hp : hpC c) (hE : ∀ k w i, SZ E wp k w i = true → clR k = true) (T : TH ρ c h) (r0 : ρ x0 = 12) (Z : Sat m (MkI ρ (cat c (SZ E wp) h) lo hi P)) (tp : SZ E wp 10 2100 1 = false) (t12 : ∀ w i, SZ E wp 12 w i = false) (H : ∀ o, Fr ρ (cat c (SZ E wp) h) h o → P o → ClI ρ c x0 o ∧ RmC x0 B o) : Sat m (CP ρ c x0 B (Tp x0 h)) := s_imp Z fun o ho => by
  obtain ⟨ρ', c', X, T1, f, p⟩ := mk_out T (fun k w i z => hp.1 k w i (hE k w i z)) ho
  obtain ⟨a, b⟩ := H o.2 f p
  exact ⟨ρ', c', exm_x X, T1, ci_x T r0 X T1 a, b, tp_f T r0 f (fun _ => t12 _ _) tp⟩
theorem sz_clR {E : Nat → Nat → Bool} {wp : Nat → Bool} (hE : ∀ k i, E k i = true → clR k = true) : ∀ k w i, SZ E wp k w i = true → clR k = true := fun k w i z => by
  unfold SZ at z
  rw [Bool.or_eq_true, Bool.or_eq_true, Bool.and_eq_true] at z
  have L : ∀ (A : List (Nat × Nat)), (A.all fun p => clR p.1) = true → mS A k i = true → clR k = true := fun A hA m => by
    unfold mS at m
    rw [List.any_eq_true] at m
    obtain ⟨p, hp', hm⟩ := m
    rw [Bool.and_eq_true, beq_iff_eq] at hm
    rw [← hm.1]
    exact List.all_eq_true.mp hA p hp'
  rcases z with (z | z) | ⟨z, _⟩
  · exact hE k i z
  · exact L saC rfl z
  · exact L ppL rfl z
theorem pgE_c : ∀ k i, pgE k i = true → clR k = true := fun k i z => by
  unfold pgE at z
  rw [Bool.or_eq_true, Bool.or_eq_true, beq_iff_eq, beq_iff_eq, beq_iff_eq] at z
  rcases z with (z | z) | z <;> (rw [z]; rfl)
theorem stE_c : ∀ k i, stE k i = true → clR k = true := fun k i z => by
  unfold stE at z
  rw [Bool.or_eq_true, beq_iff_eq, beq_iff_eq] at z
  rcases z with z | z <;> (rw [z]; rfl)
theorem pgW_n {w : Nat} (h : w = 3200 ∨ w = 1603) : pgW w = false := by rcases h with z | z <;> (rw [z]; rfl)
/-- what calls over pages leave -/
theorem pg_rest (T : TH ρ c h) (r0 : ρ x0 = 12) (f : Fr ρ (cat c (SZ pgE pgW) h) h o) (I : ClI ρ c x0 h) (pg : PgX ρ c x0 o) : ClI ρ c x0 o := by
  obtain ⟨p1, p2, p3, p4, p5, p6, p7, p8, p9, p10, p11, p12, p13⟩ := I
  have lw : LWc (SZ pgE pgW) := fun _ => rfl
  exact ⟨lwr_f f lw p1, plp_f T r0 f (fun _ _ => rfl) (fun _ _ => rfl) (fun _ _ => rfl) rfl (fun _ => rfl) lw p2, plx_f T r0 f (fun _ _ => rfl) (fun _ _ => rfl) (fun _ _ => rfl) rfl (fun _ => rfl) lw p3, pg, gem_f T r0 f (fun _ _ => rfl) (fun _ => rfl) lw p5, get_f T r0 f (fun _ _ => rfl) (fun _ => rfl) (fun _ => rfl) p6, fmm_f T f (fun _ => rfl) (fun _ _ => rfl) p7, rex_f T r0 f (fun _ _ => rfl) (fun _ => rfl) (fun _ => rfl) (fun _ => rfl) (fun _ _ => rfl) rfl rfl (fun _ => rfl) (fun _ => rfl) lw p8, ena_f T r0 f (fun _ _ => rfl) (fun _ _ _ _ _ _ => rfl) (fun _ _ => rfl) (fun _ _ => rfl) (fun _ _ => rfl) lw p9, fmy_f T f (fun _ => rfl) (fun _ _ => rfl) lw p10, lwx_f T f lw (fun _ => rfl) (fun _ => rfl) p11, wya_f T f (fun _ => rfl) (fun _ => rfl) (fun _ => rfl) (fun _ _ => rfl) (fun _ _ => rfl) lw p12, sqa_f f lw p13⟩
theorem pg_fin {E : Nat → Nat → Bool} {wp : Nat → Bool} (T : TH ρ c h) (r0 : ρ x0 = 12) (f : Fr ρ (cat c (SZ E wp) h) h o) (s12 : ∀ w i, SZ E wp 12 w i = false) (s1 : ∀ w i, SZ E wp 1 w i = false) (s10 : ∀ w, SZ E wp 10 w 0 = false) {B' : Nat × Nat} (K : ∀ g : Hp, Pay 15 2408 6 83 B' x0 g → (∀ i, ¬ i = 15 → hR g x0 i = hR h x0 i) → (∀ e, ρ e = 1 → hR g e 11 = hR h e 11) → (∀ t, ρ t = 10 → hR g t 0 = hR h t 0) → (∀ a, ρ a ≠ 0 → hN g a = hN h a) → RmC x0 B g) (P : Pay 15 2408 6 83 B' x0 o) : RmC x0 B o := K o P (fun i _ => (frx f r0 (by decide) rfl (s12 _ i)).2.2) (fun e re => (frx f re (by decide) rfl (s1 _ 11)).2.2) (fun t rt => (frx f rt (by decide) rfl (s10 _)).2.2) f.2
theorem cw_start (hF : 700000 ≤ F) (hp : hpC c) (T : TH ρ c h) (r0 : ρ x0 = 12) (I : ClI ρ c x0 h) (R : RmC x0 B h) : Sat (sX11_start F h x0 x1 x2) (CP ρ c x0 B (Tp x0 h)) := by
  obtain ⟨B', P, K⟩ := rm_pay T r0 R
  exact pg_step hp (sz_clR pgE_c) T r0 (start_y (c := cat c (SZ pgE pgW) h) hF (sx_c _) (th_in _ T) r0 I.2.1 I.2.2.1 ⟨I.2.2.2.1, P⟩) rfl (fun _ _ => rfl) (fun o f p => ⟨pg_rest T r0 f I p.1, pg_fin T r0 f (fun _ _ => rfl) (fun _ _ => rfl) (fun _ => rfl) K p.2⟩)
theorem cw_add (hF : 700000 ≤ F) (hp : hpC c) (T : TH ρ c h) (r0 : ρ x0 = 12) (I : ClI ρ c x0 h) (R : RmC x0 B h) : Sat (sX11_add F h x0 x1 x2) (CP ρ c x0 B (Tp x0 h)) := by
  obtain ⟨B', P, K⟩ := rm_pay T r0 R
  exact pg_step hp (sz_clR pgE_c) T r0 (add_y (c := cat c (SZ pgE pgW) h) hF (sx_c _) (th_in _ T) r0 I.1 I.2.2.2.2.2.2.2.2.2.2.1 I.2.2.2.2.2.2.2.2.2.2.2.1 ⟨I.2.2.2.1, P⟩) rfl (fun _ _ => rfl) (fun o f p => ⟨pg_rest T r0 f I p.1, pg_fin T r0 f (fun _ _ => rfl) (fun _ _ => rfl) (fun _ => rfl) K p.2⟩)
theorem cw_game (hF : 700000 ≤ F) (hp : hpC c) (T : TH ρ c h) (r0 : ρ x0 = 12) (I : ClI ρ c x0 h) (R : RmC x0 B h) : Sat (sX11_game F h x0 x1 x2) (CP ρ c x0 B (Tp x0 h)) := by
  obtain ⟨B', P, K⟩ := rm_pay T r0 R
  exact pg_step hp (sz_clR pgE_c) T r0 (game_y (c := cat c (SZ pgE pgW) h) hF (sx_c _) (th_in _ T) r0 I.1 ⟨I.2.2.2.1, P⟩) rfl (fun _ _ => rfl) (fun o f p => ⟨pg_rest T r0 f I p.1, pg_fin T r0 f (fun _ _ => rfl) (fun _ _ => rfl) (fun _ => rfl) K p.2⟩)
theorem cw_book (hF : 700000 ≤ F) (hp : hpC c) (T : TH ρ c h) (r0 : ρ x0 = 12) (I : ClI ρ c x0 h) (R : RmC x0 B h) : Sat (sX11_book F h x0 x1 x2) (CP ρ c x0 B (Tp x0 h)) := by
  obtain ⟨B', P, K⟩ := rm_pay T r0 R
  exact pg_step hp (sz_clR pgE_c) T r0 (book_y (c := cat c (SZ pgE pgW) h) hF (sx_c _) (th_in _ T) r0 I.1 I.2.1 I.2.2.1 ⟨I.2.2.2.1, P⟩) rfl (fun _ _ => rfl) (fun o f p => ⟨pg_rest T r0 f I p.1, pg_fin T r0 f (fun _ _ => rfl) (fun _ _ => rfl) (fun _ => rfl) K p.2⟩)
theorem cw_now (hF : 700000 ≤ F) (hp : hpC c) (T : TH ρ c h) (r0 : ρ x0 = 12) (I : ClI ρ c x0 h) (R : RmC x0 B h) : Sat (sX11_now F h x0 x1) (CP ρ c x0 B (Tp x0 h)) := by
  obtain ⟨B', P, K⟩ := rm_pay T r0 R
  refine pg_step hp (sz_clR stE_c) T r0 (now_y (c := cat c (SZ stE stW) h) hF (sx_c _) (th_in _ T) r0 I.2.1 I.2.2.1 ⟨I.2.2.2.1, P⟩) rfl (fun _ _ => rfl) (fun o f p => ⟨?_, pg_fin T r0 f (fun _ _ => rfl) (fun _ _ => rfl) (fun _ => rfl) K p.2.2.2⟩)
  obtain ⟨p1, p2, p3, p4, p5, p6, p7, p8, p9, p10, p11, p12, p13⟩ := I
  have lw : LWc (SZ stE stW) := fun _ => rfl
  exact ⟨lwr_f f lw p1, p.1, p.2.1, p.2.2.1, gem_f T r0 f (fun _ _ => rfl) (fun _ => rfl) lw p5, get_f T r0 f (fun _ _ => rfl) (fun _ => rfl) (fun _ => rfl) p6, fmm_f T f (fun _ => rfl) (fun _ _ => rfl) p7, rex_f T r0 f (fun _ _ => rfl) (fun _ => rfl) (fun _ => rfl) (fun _ => rfl) (fun _ _ => rfl) rfl rfl (fun _ => rfl) (fun _ => rfl) lw p8, ena_f T r0 f (fun _ _ => rfl) (fun _ _ _ _ _ _ => rfl) (fun _ _ => rfl) (fun _ _ => rfl) (fun _ _ => rfl) lw p9, fmy_f T f (fun _ => rfl) (fun _ _ => rfl) lw p10, lwx_f T f lw (fun _ => rfl) (fun _ => rfl) p11, wya_f T f (fun _ => rfl) (fun _ => rfl) (fun _ => rfl) (fun _ _ => rfl) (fun _ _ => rfl) lw p12, sqa_f f lw p13⟩
end
