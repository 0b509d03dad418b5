section
/-! calls of the class that read the tape -/
section
variable {ρ ρ1 : Nat → Nat} {c c1 : Cm} {h o g : Hp} {S : Nat → Nat → Nat → Bool} {x0 a b k w i F L t : Nat} {B : Nat × Nat} {lo hi : Int} {x1 x2 x3 x4 x5 : Int32}
theorem app_1 {o : Hp} {b : Nat} (eb : hR h t 0 = some b) (nb : ¬ b = t) (N : hN h b = 1200) (l : (hI h t 1).toInt < 1200) (l0 : 0 ≤ (hI h t 1).toInt) (e : sX9_append h t x1 = some o) : (hI o t 1).toInt = (hI h t 1).toInt + 1 ∧ (∀ a i, hR o a i = hR h a i) ∧ ∀ a, hN o a = hN h a := by
  unfold sX9_append sX9_append_36 at e
  replace e := cl_s e
  obtain ⟨r1, e1, e⟩ := e
  have y1 : r1 = b := r_eq eb e1
  subst y1
  have z12 : (nI 1200).toInt = 1200 := rfl
  have z1 : (1 : Int32).toInt = 1 := rfl
  replace e := br_s e
  rcases e with ⟨q, e⟩ | ⟨_, e⟩
  · have q := le_i q
    rw [N, z12] at q
    omega
  replace e := cl_s e
  obtain ⟨r3, e3, e⟩ := e
  have y3 : r3 = r1 := r_eq eb e3
  subst y3
  replace e := (gd_s e).2
  replace e := nm_s e
  obtain ⟨h5, w5, e⟩ := e
  replace e := nm_s e
  obtain ⟨h6, w6, e⟩ := e
  have zz := Option.some.inj e
  subst zz
  refine ⟨?_, fun a i => by rw [w6, w5]; rfl, fun a => by rw [w6, w5]; rfl⟩
  rw [w6, rI_s, w5, rI_a (fun z => nb z.symm), ta (by rw [z1]; omega), z1]
theorem appn_1 {o : Hp} {b : Nat} (eb : hR h t 0 = some b) (nb : ¬ b = t) (N : hN h b = 1200) (l : (hI h t 1).toInt ≤ 1196) (l0 : 0 ≤ (hI h t 1).toInt) (e : sX9_appendNumber h t x1 = some o) : (hI o t 1).toInt = (hI h t 1).toInt + 4 ∧ (∀ a i, hR o a i = hR h a i) ∧ ∀ a, hN o a = hN h a := by
  unfold sX9_appendNumber at e
  replace e := cl_s e
  obtain ⟨o1, e1, e⟩ := e
  obtain ⟨a1, b1, c1⟩ := app_1 eb nb N (by omega) l0 e1
  replace e := cl_s e
  obtain ⟨o2, e2, e⟩ := e
  obtain ⟨a2, b2, c2⟩ := app_1 (by rw [b1]; exact eb) nb (by rw [c1]; exact N) (by omega) (by omega) e2
  replace e := cl_s e
  obtain ⟨o3, e3, e⟩ := e
  obtain ⟨a3, b3, c3⟩ := app_1 (by rw [b2, b1]; exact eb) nb (by rw [c2, c1]; exact N) (by omega) (by omega) e3
  replace e := cl_s e
  obtain ⟨o4, e4, e⟩ := e
  obtain ⟨a4, b4, c4⟩ := app_1 (by rw [b3, b2, b1]; exact eb) nb (by rw [c3, c2, c1]; exact N) (by omega) (by omega) e4
  rw [← Option.some.inj e]
  exact ⟨by omega, fun a i => by rw [b4, b3, b2, b1], fun a => by rw [c4, c3, c2, c1]⟩
/-- feed: twenty bytes more, or none -/
theorem feed_l {o : Int32 × Hp} {b : Nat} (et : hR h x0 0 = some t) (eb : hR h t 0 = some b) (nb : ¬ b = t) (N : hN h b = 1200) (i0 : Rg 0 1200 (hI h t 1)) (e : sX11_feed h x0 x1 x2 x3 x4 x5 = some o) : ((hI h t 1).toInt + 20 ≤ 1200 ∧ o.1.toInt = (hI h t 1).toInt + 20 ∧ (hI o.2 t 1).toInt = (hI h t 1).toInt + 20 ∧ hR o.2 x0 0 = some t) ∨ (1200 < (hI h t 1).toInt + 20 ∧ o.1 = -104 ∧ o.2 = h) := by
  have l0 := i0.1
  have l1 := i0.2
  have z20 : (20 : Int32).toInt = 20 := rfl
  have z12 : (1200 : Int32).toInt = 1200 := rfl
  have t20 : ((hI h t 1) + (20 : Int32)).toInt = (hI h t 1).toInt + 20 := by rw [ta (by rw [z20]; omega), z20]
  unfold sX11_feed at e
  replace e := cl_s e
  obtain ⟨r1, e1, e⟩ := e
  have y1 : r1 = t := r_eq et e1
  subst y1
  replace e := br_s e
  rcases e with ⟨q, e⟩ | ⟨q, e⟩
  · have q := le_i q
    rw [t20, z12] at q
    refine Or.inl ⟨q, ?_⟩
    replace e := cl_s e
    obtain ⟨s1, f1, e⟩ := e
    have y : s1 = r1 := r_eq et f1
    subst y
    replace e := cl_s e
    obtain ⟨o1, g1, e⟩ := e
    obtain ⟨a1, b1, c1⟩ := appn_1 eb nb N (by omega) l0 g1
    replace e := cl_s e
    obtain ⟨s2, f2, e⟩ := e
    have y : s2 = s1 := by rw [b1] at f2; exact r_eq et f2
    subst y
    replace e := cl_s e
    obtain ⟨o2, g2, e⟩ := e
    obtain ⟨a2, b2, c2⟩ := appn_1 (by rw [b1]; exact eb) nb (by rw [c1]; exact N) (by omega) (by omega) g2
    replace e := cl_s e
    obtain ⟨s3, f3, e⟩ := e
    have y : s3 = s2 := by rw [b2, b1] at f3; exact r_eq et f3
    subst y
    replace e := cl_s e
    obtain ⟨o3, g3, e⟩ := e
    obtain ⟨a3, b3, c3⟩ := appn_1 (by rw [b2, b1]; exact eb) nb (by rw [c2, c1]; exact N) (by omega) (by omega) g3
    replace e := cl_s e
    obtain ⟨s4, f4, e⟩ := e
    have y : s4 = s3 := by rw [b3, b2, b1] at f4; exact r_eq et f4
    subst y
    replace e := cl_s e
    obtain ⟨o4, g4, e⟩ := e
    obtain ⟨a4, b4, c4⟩ := appn_1 (by rw [b3, b2, b1]; exact eb) nb (by rw [c3, c2, c1]; exact N) (by omega) (by omega) g4
    replace e := cl_s e
    obtain ⟨s5, f5, e⟩ := e
    have y : s5 = s4 := by rw [b4, b3, b2, b1] at f5; exact r_eq et f5
    subst y
    replace e := cl_s e
    obtain ⟨o5, g5, e⟩ := e
    obtain ⟨a5, b5, c5⟩ := appn_1 (by rw [b4, b3, b2, b1]; exact eb) nb (by rw [c4, c3, c2, c1]; exact N) (by omega) (by omega) g5
    replace e := cl_s e
    obtain ⟨s6, f6, e⟩ := e
    have f6' : hR h x0 0 = some s6 := by rw [b5, b4, b3, b2, b1] at f6; exact f6
    have y : s6 = s5 := r_eq et f6'
    subst y
    rw [← Option.some.inj e]
    exact ⟨by show (hI o5 s6 1).toInt = _; omega, by show (hI o5 s6 1).toInt = _; omega, f6⟩
  · have q := nle_i q
    rw [t20, z12] at q
    rw [← Option.some.inj e]
    exact Or.inr ⟨q, rfl, rfl⟩
theorem end_l {o : Int32 × Hp} (et : hR h x0 0 = some t) (e : sX11_end h x0 x1 = some o) : (0 ≤ x1.toInt ∧ x1.toInt ≤ (hI h t 1).toInt ∧ o.1 = x1 ∧ hI o.2 t 1 = x1 ∧ hR o.2 x0 0 = some t) ∨ (¬ (0 ≤ x1.toInt ∧ x1.toInt ≤ (hI h t 1).toInt) ∧ o.1 = -101 ∧ o.2 = h) := by
  unfold sX11_end sX11_end_15 at e
  replace e := br_s e
  rcases e with ⟨q, e⟩ | ⟨q, e⟩
  · have q := lt_i q
    have z0 : (0 : Int32).toInt = 0 := rfl
    rw [← Option.some.inj e]
    exact Or.inr ⟨by omega, rfl, rfl⟩
  have q := nlt_i q
  replace e := cl_s e
  obtain ⟨r2, e2, e⟩ := e
  have y : r2 = t := r_eq et e2
  subst y
  replace e := br_s e
  rcases e with ⟨l, e⟩ | ⟨l, e⟩
  · have l := le_i l
    replace e := cl_s e
    obtain ⟨r4, e4, e⟩ := e
    have y : r4 = r2 := r_eq et e4
    subst y
    replace e := nm_s e
    obtain ⟨h5, w5, e⟩ := e
    rw [← Option.some.inj e]
    exact Or.inl ⟨q, l, rfl, by show hI h5 r4 1 = x1; rw [w5, rI_s], by show hR h5 x0 0 = _; rw [w5]; exact et⟩
  · have l := nle_i l
    rw [← Option.some.inj e]
    exact Or.inr ⟨by omega, rfl, rfl⟩
/-- what feed and end answer, and leave: n the tape's length before -/
def FdQ (x0 : Nat) (n : Int) (o : Int32 × Hp) : Prop := ∀ t, hR o.2 x0 0 = some t → (n + 20 ≤ 1200 ∧ o.1.toInt = n + 20 ∧ (hI o.2 t 1).toInt = n + 20) ∨ (1200 < n + 20 ∧ o.1 = -104 ∧ (hI o.2 t 1).toInt = n)
def EdQ (x0 : Nat) (x1 : Int32) (n : Int) (o : Int32 × Hp) : Prop := ∀ t, hR o.2 x0 0 = some t → (0 ≤ x1.toInt ∧ x1.toInt ≤ n ∧ o.1 = x1 ∧ (hI o.2 t 1).toInt = x1.toInt) ∨ (¬ (0 ≤ x1.toInt ∧ x1.toInt ≤ n) ∧ o.1 = -101 ∧ (hI o.2 t 1).toInt = n)
theorem cw_feed (hF : 700000 ≤ F) (hp : hpC c) (T : TH ρ c h) (r0 : ρ x0 = 12) (I : ClI ρ c x0 h) (R : RmC x0 B h) (et : hR h x0 0 = some t) : Sat (sX11_feed h x0 x1 x2 x3 x4 x5) (fun o => CP ρ c x0 B (fun _ => True) o ∧ FdQ x0 (hI h t 1).toInt o) := sat_and (zX11_feed (c := cat c (fS [] [(2100, TXL)]) h) hF (fs_o (.head _)) (th_in _ T) r0 (rg_top _) (rg_top _) (rg_top _) (rg_top _) (rg_top _)) fun o e ho => by
  have T' := th_out T (fs_c1 hp rfl) ho.1
  have f := fr_u T ho.1.2.2
  obtain ⟨a, b⟩ := st_A rfl rfl T r0 f T' I R
  refine ⟨⟨ρ, c, exm_0, T', a, b, trivial⟩, fun t' et' => ?_⟩
  have y : t' = t := by
    rw [(frx f r0 (by decide) rfl rfl).2.2] at et'
    exact r_eq et et'
  subst y
  have rt : ρ t' = 10 := rr T (thR T r0 (i := 0) (k2 := 10) rfl (by decide)) et
  obtain ⟨bb, eb, rb⟩ := thR T rt (i := 0) (k2 := 49) rfl (by decide)
  rcases feed_l et eb (fun z => by rw [z, rt] at rb; exact absurd rb (by decide)) (R.2 t' bb et eb) (thI T rt (k := 10) (i := 1) rfl) e with ⟨q1, q2, q3, _⟩ | ⟨q1, q2, q3⟩
  · exact Or.inl ⟨q1, q2, q3⟩
  · exact Or.inr ⟨q1, q2, by rw [q3]⟩
theorem cw_end (hF : 700000 ≤ F) (hp : hpC c) (T : TH ρ c h) (r0 : ρ x0 = 12) (I : ClI ρ c x0 h) (R : RmC x0 B h) (et : hR h x0 0 = some t) : Sat (sX11_end h x0 x1) (fun o => CP ρ c x0 B (fun _ => True) o ∧ EdQ x0 x1 (hI h t 1).toInt o) := sat_and (zX11_end (c := cat c (fS [] [(2100, [(10, 1)])]) h) hF (fs_o (.head _)) (th_in _ T) r0 (rg_top _)) fun o e ho => by
  have T' := th_out T (fs_c1 hp rfl) ho.1
  have f := fr_u T ho.1.2.2
  obtain ⟨a, b⟩ := st_A rfl rfl T r0 f T' I R
  refine ⟨⟨ρ, c, exm_0, T', a, b, trivial⟩, fun t' et' => ?_⟩
  have y : t' = t := by
    rw [(frx f r0 (by decide) rfl rfl).2.2] at et'
    exact r_eq et et'
  subst y
  rcases end_l et e with ⟨q1, q2, q3, q4, _⟩ | ⟨q1, q2, q3⟩
  · exact Or.inl ⟨q1, q2, q3, by rw [q4]⟩
  · exact Or.inr ⟨q1, q2, by rw [q3]⟩
theorem hear_z {o : Int32 × Hp} (e : sX11_hear F h x0 x1 = some o) : TpZ x0 o.2 := by
  have z105 : ∀ {g : Hp} {v : Int32}, sX11_hear_105 F g x0 v = some o → TpZ x0 o.2 := fun {g v} e => by
    unfold sX11_hear_105 at e
    replace e := cl_s e
    obtain ⟨r1, e1, e⟩ := e
    replace e := cl_s e
    obtain ⟨o2, e2, e⟩ := e
    obtain ⟨q1, q2⟩ := clear_z e2
    rw [← Option.some.inj e]
    intro t' et'
    have : hR g x0 0 = some t' := by rw [← q2]; exact et'
    rw [r_eq e1 this]; exact q1
  have z94 : ∀ {g : Hp} {v u : Int32}, sX11_hear_94 F g x0 v u = some o → TpZ x0 o.2 := fun {g v u} e => by
    unfold sX11_hear_94 sX11_hear_104 at e
    replace e := br_s e
    rcases e with ⟨_, e⟩ | ⟨_, e⟩
    · exact z105 e
    · exact z105 e
  unfold sX11_hear at e
  replace e := cl_s e
  obtain ⟨o1, _, e⟩ := e
  replace e := br_s e
  rcases e with ⟨_, e⟩ | ⟨_, e⟩
  · exact z105 e
  replace e := cl_s e
  obtain ⟨_, _, e⟩ := e
  replace e := cl_s e
  obtain ⟨_, _, e⟩ := e
  replace e := cl_s e
  obtain ⟨_, _, e⟩ := e
  replace e := cl_s e
  obtain ⟨_, _, e⟩ := e
  replace e := cl_s e
  obtain ⟨_, _, e⟩ := e
  replace e := br_s e
  rcases e with ⟨_, e⟩ | ⟨_, e⟩
  · exact z105 e
  replace e := cl_s e
  obtain ⟨_, _, e⟩ := e
  replace e := cl_s e
  obtain ⟨_, _, e⟩ := e
  replace e := cl_s e
  obtain ⟨_, _, e⟩ := e
  replace e := br_s e
  rcases e with ⟨_, e⟩ | ⟨_, e⟩
  · replace e := cl_s e
    obtain ⟨_, _, e⟩ := e
    replace e := cl_s e
    obtain ⟨_, _, e⟩ := e
    replace e := cl_s e
    obtain ⟨_, _, e⟩ := e
    replace e := cl_s e
    obtain ⟨_, _, e⟩ := e
    replace e := cl_s e
    obtain ⟨_, _, e⟩ := e
    replace e := (gd_s e).2
    replace e := cl_s e
    obtain ⟨_, _, e⟩ := e
    replace e := cl_s e
    obtain ⟨_, _, e⟩ := e
    replace e := (gd_s e).2
    replace e := cl_s e
    obtain ⟨_, _, e⟩ := e
    replace e := br_s e
    rcases e with ⟨_, e⟩ | ⟨_, e⟩
    · exact z94 e
    · exact z94 e
  · exact z105 e
theorem cw_hear (hF : 700000 ≤ F) (hp : hpC c) (T : TH ρ c h) (r0 : ρ x0 = 12) (I : ClI ρ c x0 h) (R : RmC x0 B h) : Sat (sX11_hear F h x0 x1) (CP ρ c x0 B (TpZ x0)) := sat_and (zX11_hear (c := cat c (fS COL [(1503, SHL), (1802, SHL), (1803, TXL), (2100, [(10, 1)])]) h) hF fs_a (fs_o (.head _)) (fs_o (.tail _ (.head _))) (fs_o (.tail _ (.tail _ (.head _)))) (fs_o (.tail _ (.tail _ (.tail _ (.head _))))) (th_in _ T) r0 (rg_top _) I.1 I.2.1) fun o e ho => by
  have T' := th_out T (fs_c1 hp rfl) ho.1
  have f := fr_u T ho.1.2.2
  obtain ⟨a, b⟩ := st_A rfl rfl T r0 f T' I R
  exact ⟨ρ, c, exm_0, T', a, b, hear_z e⟩
end
end
section
/-! calls of the class: position, solve, rules, before, rows, problem -/
section
variable {ρ ρ1 : Nat → Nat} {c c1 : Cm} {h o g : Hp} {S : Nat → Nat → Nat → Bool} {x0 a b k w i F L t : Nat} {B : Nat × Nat} {lo hi : Int} {x1 x2 x3 x4 x5 : Int32}
theorem clr_z {o : Int32 × Hp} {v : Int32} (e : (cl (hR g x0 0) fun r_1 => cl (sX9_clear g r_1) fun o_2 => some (v, o_2)) = some o) : TpZ x0 o.2 := by
  replace e := cl_s e
  obtain ⟨r1, e1, e⟩ := e
  replace e := cl_s e
  obtain ⟨o2, e2, e⟩ := e
  obtain ⟨q1, q2⟩ := clear_z e2
  rw [← Option.some.inj e]
  intro t' et'
  have : hR g x0 0 = some t' := by rw [← q2]; exact et'
  rw [r_eq e1 this]; exact q1
theorem pos_z {o : Int32 × Hp} (e : sX11_position F h x0 = some o) : TpZ x0 o.2 := by
  have z104 : ∀ {g : Hp} {v : Int32}, sX11_position_104 F g x0 v = some o → TpZ x0 o.2 := fun e => clr_z e
  have z75 : ∀ {g : Hp} {a b d e' f : Int32} {r : Nat}, sX11_position_75 F g x0 a b d e' f r = some o → TpZ x0 o.2 := fun e => by
    unfold sX11_position_75 sX11_position_103 at e
    replace e := (gd_s e).2
    replace e := nm_s e
    obtain ⟨h2, _, e⟩ := e
    replace e := br_s e
    rcases e with ⟨_, e⟩ | ⟨_, e⟩
    · replace e := br_s e
      rcases e with ⟨_, e⟩ | ⟨_, e⟩
      · exact z104 e
      · exact z104 e
    · exact z104 e
  have z52 : ∀ {g : Hp} {a b d : Int32}, sX11_position_52 F g x0 a b d = some o → TpZ x0 o.2 := fun e => by
    unfold sX11_position_52 sX11_position_74 at e
    replace e := cl_s e
    obtain ⟨_, _, e⟩ := e
    replace e := br_s e
    rcases e with ⟨_, e⟩ | ⟨_, e⟩
    · replace e := br_s e
      rcases e with ⟨_, e⟩ | ⟨_, e⟩
      · exact z75 e
      · exact z75 e
    · exact z75 e
  unfold sX11_position at e
  replace e := cl_s e
  obtain ⟨o1, _, e⟩ := e
  replace e := br_s e
  rcases e with ⟨_, e⟩ | ⟨_, e⟩
  · exact z104 e
  replace e := cl_s e
  obtain ⟨_, _, e⟩ := e
  replace e := (gd_s e).2
  replace e := cl_s e
  obtain ⟨_, _, e⟩ := e
  replace e := cl_s e
  obtain ⟨_, _, e⟩ := e
  replace e := cl_s e
  obtain ⟨_, _, e⟩ := e
  replace e := cl_s e
  obtain ⟨_, _, e⟩ := e
  replace e := br_s e
  rcases e with ⟨_, e⟩ | ⟨_, e⟩
  · replace e := cl_s e
    obtain ⟨_, _, e⟩ := e
    replace e := cl_s e
    obtain ⟨_, _, e⟩ := e
    exact z52 e
  · exact z52 e
theorem psE_c : ∀ k i, psE k i = true → clR k = true := fun k i z => by
  unfold psE at z
  rw [Bool.or_eq_true, Bool.and_eq_true, beq_iff_eq, beq_iff_eq] at z
  rcases z with z | ⟨z, _⟩ <;> (rw [z]; rfl)
theorem cw_position (hF : 700000 ≤ F) (hp : hpC c) (T : TH ρ c h) (r0 : ρ x0 = 12) (I : ClI ρ c x0 h) (R : RmC x0 B h) : Sat (sX11_position F h x0) (CP ρ c x0 B (TpZ x0)) := sat_and (zX11_position (c := cat c (fS [(58, 999), (8, 1), (8, 2)] [(2100, [(10, 1)]), (3200, SHL)]) h) hF fs_a (fs_o (.head _)) (fs_o (.tail _ (.head _))) (th_in _ T) r0 I.1) fun o e ho => by
  have T' := th_out T (fs_c1 hp rfl) ho.1
  have f := fr_u T ho.1.2.2
  have pl := (sat_e (zX11_positionP hF (fun k w i z => hp k w i (sz_clR psE_c k w i z)) (pmO_c hp rfl) T r0 I.1 I.2.1) e).2
  have px := position_x hF (pmA_c hp rfl) (pmO_c hp rfl) (pmO_c hp rfl) T r0 I.1 I.2.2.2.2.2.2.2.2.2.2.2.2 I.2.2.1 e
  exact ⟨ρ, c, exm_0, T', ci_pl T r0 f (fun k w i z a b d e => clS_k (P := fun k => fS [(58, 999), (8, 1), (8, 2)] [(2100, [(10, 1)]), (3200, SHL)] k w i = false) z a b d e ⟨rfl, rfl, rfl, rfl, rfl, rfl, rfl, rfl, rfl, rfl, rfl, rfl, rfl, rfl, rfl, rfl, rfl, rfl⟩) (fun k w i hk hw => by rcases hk with z | z | z <;> subst z <;> exact big_w rfl rfl hw) pl px I, rmc_f T r0 f T' (fun _ _ => rfl) (fun _ _ => rfl) (fun _ => rfl) (ok10 rfl) R, pos_z e⟩
theorem solve_z {o : Int32 × Hp} (e : sX11_solve F h x0 = some o) : TpZ x0 o.2 := by
  have z71 : ∀ {g : Hp} {v : Int32}, sX11_solve_71 F g x0 v = some o → TpZ x0 o.2 := fun e => by
    unfold sX11_solve_71 sX11_solve_78 at e
    exact clr_z e
  unfold sX11_solve at e
  replace e := cl_s e
  obtain ⟨_, _, e⟩ := e
  replace e := cl_s e
  obtain ⟨_, _, e⟩ := e
  unfold sX11_solve_10 at e
  replace e := br_s e
  rcases e with ⟨_, e⟩ | ⟨_, e⟩
  · exact z71 e
  replace e := cl_s e
  obtain ⟨_, _, e⟩ := e
  replace e := cl_s e
  obtain ⟨_, _, e⟩ := e
  unfold sX11_solve_20 at e
  replace e := br_s e
  rcases e with ⟨_, e⟩ | ⟨_, e⟩
  rotate_left
  · exact z71 e
  replace e := cl_s e
  obtain ⟨_, _, e⟩ := e
  replace e := cl_s e
  obtain ⟨_, _, e⟩ := e
  replace e := cl_s e
  obtain ⟨_, _, e⟩ := e
  unfold sX11_solve_34 sX11_solve_70 at e
  replace e := br_s e
  rcases e with ⟨_, e⟩ | ⟨_, e⟩
  rotate_left
  · exact z71 e
  replace e := cl_s e
  obtain ⟨_, _, e⟩ := e
  replace e := cl_s e
  obtain ⟨_, _, e⟩ := e
  unfold sX11_solve_55 sX11_solve_70 at e
  replace e := br_s e
  rcases e with ⟨_, e⟩ | ⟨_, e⟩
  · exact z71 e
  replace e := cl_s e
  obtain ⟨_, _, e⟩ := e
  exact z71 e
abbrev SVF : Nat → Nat → Nat → Bool := fS SVL [(1003, BOL), (2100, [(10, 1)])]
theorem cw_solve (hF : 700000 ≤ F) (hp : hpC c) (T : TH ρ c h) (r0 : ρ x0 = 12) (I : ClI ρ c x0 h) (R : RmC x0 B h) : Sat (sX11_solve F h x0) (CP ρ c x0 B (TpZ x0)) := by
  obtain ⟨r, er, rr'⟩ := thR T r0 (i := 15) (k2 := 59) rfl (by decide)
  obtain ⟨nu, hnu⟩ : ∃ n, n = nuC h r 2408 := ⟨_, rfl⟩
  have py : PayA x0 (B.1 - 6 * nu, B.2 - 83 * nu) h := fun e ee a ea => by
    have q := R.1 r e a er ee ea
    rw [← hnu] at q
    show (hN h a = 600000 ∧ h.1.1 ≤ B.1 - 6 * nu ∧ h.1.2 ≤ B.2 - 83 * nu) ∨ (h.1.1 + 3 ≤ B.1 - 6 * nu ∧ h.1.2 + 1800000 ≤ B.2 - 83 * nu)
    by_cases z : hN h a = 600000
    · rw [if_pos z, if_pos z] at q
      exact Or.inl ⟨z, by omega, by omega⟩
    · rw [if_neg z, if_neg z] at q
      exact Or.inr ⟨by omega, by omega⟩
  refine sat_and (solve_y (c := cat c SVF h) (Bq := (B.1 - 6 * nu, B.2 - 83 * nu)) hF fs_a (fs_o (.head _)) (fs_o (.tail _ (.head _))) (th_in _ T) r0 I.1 ⟨I.2.2.2.2.2.2.2.2.1, py⟩ I.2.2.2.2.2.2.2.2.2.1) (fun o e ho => ?_)
  obtain ⟨ρ', c', X, T1, f, ⟨en, py'⟩, _⟩ := mk_out T (fs_c1 hp rfl) ho
  have big : ∀ k w i, (k = 4 ∨ k = 34 ∨ k = 36) → (8000 ≤ w ∨ w = 1603) → SVF k w i = false := fun k w i hk hw => by rcases hk with z | z | z <;> subst z <;> exact big_w rfl rfl hw
  have CI : ClI ρ c x0 o.2 := by
    obtain ⟨p1, p2, p3, p4, p5, p6, p7, p8, p9, p10, p11, p12, p13⟩ := I
    have lw : LWc SVF := fun _ => rfl
    exact ⟨lwr_f f lw p1, plp_f T r0 f (fun _ _ => rfl) (fun _ _ => rfl) (fun _ _ => rfl) rfl (fun _ => rfl) lw p2, plx_f T r0 f (fun _ _ => rfl) (fun _ _ => rfl) (fun _ _ => rfl) rfl (fun _ => rfl) lw p3, pgx_f T r0 f (fun _ _ => rfl) (fun _ _ => rfl) (fun _ _ => rfl) (fun _ => big _ _ _ (by decide) (Or.inl (by omega))) (fun _ => big _ _ _ (by decide) (Or.inl (by omega))) (fun _ _ => big _ _ _ (by decide) (Or.inl (by omega))) (fun _ _ => big _ _ _ (by decide) (Or.inl (by omega))) lw p4, gem_f T r0 f (fun _ _ => rfl) (fun _ => rfl) lw p5, get_f T r0 f (fun _ _ => rfl) (fun _ => rfl) (fun _ => rfl) p6, fmm_f T f (fun _ => rfl) (fun _ _ => rfl) p7, rex_f T r0 f (fun _ _ => rfl) (fun _ => rfl) (fun _ => rfl) (fun _ => rfl) (fun _ _ => rfl) rfl rfl (fun _ => rfl) (fun _ => rfl) lw p8, en, fmy_f T f (fun _ => rfl) (fun _ _ => rfl) lw p10, lwx_f T f lw (fun _ => rfl) (fun _ => rfl) p11, wya_f T f (fun _ => rfl) (fun _ => rfl) (fun _ => rfl) (fun _ _ => rfl) (fun _ _ => rfl) lw p12, sqa_f f lw p13⟩
  refine ⟨ρ', c', exm_x X, T1, ci_x T r0 X T1 CI, ⟨fun r' e' a' er' ee' ea' => ?_, fun t b et eb => ?_⟩, solve_z e⟩
  · rw [(frx f r0 (by decide) rfl rfl).2.2] at er'
    have y : r' = r := r_eq er er'
    subst y
    rw [nuC_eq (h := h) 2408 (fun i _ => (frx f rr' (by decide) rfl rfl).2.2), ← hnu]
    have q : (hN o.2 a' = 600000 ∧ o.2.1.1 ≤ B.1 - 6 * nu ∧ o.2.1.2 ≤ B.2 - 83 * nu) ∨ (o.2.1.1 + 3 ≤ B.1 - 6 * nu ∧ o.2.1.2 + 1800000 ≤ B.2 - 83 * nu) := py' e' ee' a' ea'
    obtain ⟨e, ee, re⟩ := thR T r0 (i := 10) (k2 := 1) rfl (by decide)
    obtain ⟨a, ea, ra⟩ := thR T re (i := 11) (k2 := 24) rfl (by decide)
    have q0 := R.1 r' e a er ee ea
    rw [← hnu] at q0
    rcases q with ⟨q1, q2, q3⟩ | ⟨q2, q3⟩
    · rw [if_pos q1, if_pos q1]
      omega
    · by_cases z : hN o.2 a' = 600000
      · rw [if_pos z, if_pos z]; omega
      · rw [if_neg z, if_neg z]; omega
  · rw [(frx f r0 (by decide) rfl rfl).2.2] at et
    have rt : ρ t = 10 := rr T (thR T r0 (i := 0) (k2 := 10) rfl (by decide)) et
    rw [(frx f rt (by decide) rfl (ok10 rfl _)).2.2] at eb
    have rb : ρ b = 49 := rr T (thR T rt (i := 0) (k2 := 49) rfl (by decide)) eb
    rw [f.2 b (by rw [rb]; decide)]
    exact R.2 t b et eb
theorem th_outM {c' : Cm} (hc : c' = cat c S h ∨ c' = nst (cat c S h) 50) (T : TH ρ c h) (hs : ∀ k w i, S k w i = true → cPm c k w i = true) (T2 : TH ρ c' o) : ∃ c2, (c2 = c ∨ c2 = nst c 50) ∧ (c2.2.1 = c'.2.1 ∧ cw c2 = cw c') ∧ TH ρ c2 o ∧ Fr ρ (cat c S h) h o := by
  have lt : ∀ a, ρ a ≠ 0 → a < h.1.1 := fun a ha => by rw [T.1.1]; exact T.2.1.2.2.1 a ha
  rcases hc with z | z
  · subst z
    exact ⟨c, Or.inl rfl, ⟨rfl, rfl⟩, th_out T hs T2, fr_u T T2.2.2⟩
  · subst z
    refine ⟨nst c 50, Or.inr rfl, ⟨rfl, rfl⟩, ⟨T2.1, T2.2.1, ?_⟩, fun a i h0 hz => T2.2.2.2.1 a i (lt a h0) h0 hz, fun a h0 => T2.2.2.2.2 a (lt a h0) h0⟩
    exact fr_t (c := nst c 50) (g1 := c0 c) (g2 := h) T.2.2 ⟨T2.2.2.1, fun a i l h0 h1 => T2.2.2.2.1 a i l h0 (by
      cases q : S (ρ a) (cw c a) i with
      | false => exact q
      | true =>
        have h1' : cPm c (ρ a) (cw c a) i = false := h1
        exact absurd (hs _ _ _ q) (by rw [h1']; decide)), T2.2.2.2.2⟩
theorem cw_rules (hF : 700000 ≤ F) (hp : hpC c) (T : TH ρ c h) (r0 : ρ x0 = 12) (I : ClI ρ c x0 h) (R : RmC x0 B h) : Sat (sX11_rules F h x0) (CP ρ c x0 B (TpZ x0)) := s_imp (rules_x (c := cat c (fS RUC [(2100, [(10, 1)])]) h) hF fs_a (fs_o (.head _)) (th_in _ T) r0 I) fun o ho => by
  obtain ⟨c', hc, T1, I1, tz⟩ := ho
  obtain ⟨c2, hc2, ⟨e1, e2⟩, T2, f⟩ := th_outM hc T (fs_c1 hp rfl) T1
  refine ⟨ρ, c2, ?_, T2, ?_, ?_, tz⟩
  · rcases hc2 with z | z <;> (rw [z]; exact exm_0)
  · rcases hc with z | z <;> rcases hc2 with z2 | z2
    · rw [z] at I1; rw [z2]; exact I1
    · rw [z] at e1; rw [z2] at e1
      have I2 : ClI ρ c x0 o.2 := by rw [z] at I1; exact I1
      obtain ⟨p1, p2, p3, p4, p5, p6, p7, p8, p9, p10, p11, p12, p13⟩ := I2
      have e1' : (nst c 50).2.1 = c.2.1 := e1
      rw [z2]
      refine ⟨fun L rL wL hc => by rw [e1']; exact p1 L rL wL hc, p2, p3, p4, p5, p6, fun W rW => by show FmT ((nst c 50).2.1 50) W o.2; rw [e1']; exact p7 W rW, p8, p9, p10, p11, p12, p13⟩
    · rw [z] at e1; rw [z2] at e1
      have I2 : ClI ρ (nst c 50) x0 o.2 := by rw [z] at I1; exact I1
      obtain ⟨p1, p2, p3, p4, p5, p6, p7, p8, p9, p10, p11, p12, p13⟩ := I2
      have e1' : c.2.1 = (nst c 50).2.1 := e1
      rw [z2]
      refine ⟨fun L rL wL hc => by rw [e1']; exact p1 L rL wL hc, p2, p3, p4, p5, p6, fun W rW => by show FmT (c.2.1 50) W o.2; rw [e1']; exact p7 W rW, p8, p9, p10, p11, p12, p13⟩
    · rw [z] at I1; rw [z2]; exact I1
  · exact rmc_k T r0 (by
      have a1 := T2.1.1
      rcases hc2 with z | z
      · rw [z] at a1; exact a1.trans T.1.1.symm
      · rw [z] at a1; exact a1.trans T.1.1.symm) (fun i => (frx f r0 (by decide) rfl rfl).2.2) (fun r i rr' => (frx f rr' (by decide) rfl rfl).2.2) (fun e re => (frx f re (by decide) rfl rfl).2.2) (fun t rt => (frx f rt (by decide) rfl (ok10 rfl _)).2.2) f.2 R
theorem rE_c : ∀ k i, rE k i = true → clR k = true := fun k i z => by
  unfold rE at z
  rw [Bool.or_eq_true, Bool.and_eq_true, beq_iff_eq, beq_iff_eq] at z
  rcases z with z | ⟨z, _⟩ <;> (rw [z]; rfl)
theorem cw_before (hF : 700000 ≤ F) (hp : hpC c) (T : TH ρ c h) (r0 : ρ x0 = 12) (I : ClI ρ c x0 h) (R : RmC x0 B h) : Sat (sX11_before F h x0 x1) (CP ρ c x0 B (Tp x0 h)) := s_imp (before_x (c := cat c (SZ rE fW) h) hF (sx_c _) (th_in _ T) r0 I.1 I.2.1 I.2.2.1 I.2.2.2.2.2.2.1 I.2.2.2.2.2.2.2.2.2.1 I.2.2.2.2.2.2.2.1) fun o ho => by
  have T' := th_out T (fun k w i z => hp k w i (sz_clR rE_c k w i z)) ho.1
  have f := fr_u T ho.1.2.2
  refine ⟨ρ, c, exm_0, T', ?_, rmc_f T r0 f T' (fun _ _ => rfl) (fun _ _ => rfl) (fun _ => rfl) (fun _ => rfl) R, tp_f T r0 f (fun _ => rfl) rfl⟩
  obtain ⟨p1, p2, p3, p4, p5, p6, p7, p8, p9, p10, p11, p12, p13⟩ := I
  have lw : LWc (SZ rE fW) := fun _ => rfl
  have fw8 : ∀ j, fW (8000 + j) = false := fun j => by
    unfold fW
    rw [bq_ne (show 8000 + j ≠ 1503 by omega), bq_ne (show 8000 + j ≠ 1604 by omega), bq_ne (show 8000 + j ≠ 1603 by omega)]; rfl
  exact ⟨lwr_f f lw p1, plp_f T r0 f (fun _ _ => rfl) (fun _ _ => rfl) (fun _ _ => rfl) rfl (fun _ => rfl) lw p2, plx_f T r0 f (fun _ _ => rfl) (fun _ _ => rfl) (fun _ _ => rfl) rfl (fun _ => rfl) lw p3, pgx_f T r0 f (fun _ _ => rfl) (fun _ _ => rfl) (fun _ _ => rfl) (fun _ => rfl) (fun _ => rfl) (fun j _ => sz_f rfl rfl (Or.inr (fw8 j))) (fun j _ => sz_f rfl rfl (Or.inr (fw8 j))) lw p4, gem_f T r0 f (fun _ _ => rfl) (fun _ => rfl) lw p5, get_f T r0 f (fun _ _ => rfl) (fun _ => rfl) (fun _ => rfl) p6, fmm_f T f (fun _ => rfl) (fun _ _ => rfl) p7, ho.2, ena_f T r0 f (fun _ _ => rfl) (fun _ _ _ _ _ _ => rfl) (fun _ _ => rfl) (fun _ _ => rfl) (fun _ _ => rfl) lw p9, fmy_f T f (fun _ => rfl) (fun _ _ => rfl) lw p10, lwx_f T f lw (fun _ => rfl) (fun _ => rfl) p11, wya_f T f (fun _ => rfl) (fun _ => rfl) (fun _ => rfl) (fun _ _ => rfl) (fun _ _ => rfl) lw p12, sqa_f f lw p13⟩
theorem rw_rest {E : Nat → Nat → Bool} (T : TH ρ c h) (r0 : ρ x0 = 12) (f : Fr ρ (cat c (SZ E rwW) h) h o) (s : ∀ k i, clS k = true → E k i = false) (I : ClI ρ c x0 h) : ClI ρ c x0 o := ci_f T r0 f (fun k w i hk n4 n34 n36 => sz_f (s k i hk) (by
    rcases clS_c hk with z | z | z | z | z | z | z | z | z | z | z | z | z | z | z | z | z | z | z | z | z | z <;> subst z <;> rfl) (Or.inl (by
    rcases clS_c hk with z | z | z | z | z | z | z | z | z | z | z | z | z | z | z | z | z | z | z | z | z | z <;> subst z <;> first | rfl | exact absurd rfl n4 | exact absurd rfl n34 | exact absurd rfl n36))) (fun k w i hk hw => sz_f (s k i hk) (by
    rcases clS_c hk with z | z | z | z | z | z | z | z | z | z | z | z | z | z | z | z | z | z | z | z | z | z <;> subst z <;> rfl) (Or.inr (by
    unfold rwW
    rw [bq_ne (show w ≠ 1503 by omega)]
    cases z : (decide (3100 ≤ w) && decide (w ≤ 3108)) with
    | false => rfl
    | true =>
      rw [Bool.and_eq_true, decide_eq_true_eq, decide_eq_true_eq] at z
      omega))) I
theorem stE5_n : ∀ k i, clS k = true → stE5 k i = false := fun k i hk => by
  rcases clS_c hk with z | z | z | z | z | z | z | z | z | z | z | z | z | z | z | z | z | z | z | z | z | z <;> subst z <;> rfl
theorem kpE5_n : ∀ k i, clS k = true → (stE5 k i || kpE5 k i) = false := fun k i hk => by
  rcases clS_c hk with z | z | z | z | z | z | z | z | z | z | z | z | z | z | z | z | z | z | z | z | z | z <;> subst z <;> rfl
theorem stE5_c : ∀ k i, stE5 k i = true → clR k = true := fun k i z => by
  unfold stE5 at z
  rw [Bool.or_eq_true, Bool.and_eq_true, Bool.and_eq_true, beq_iff_eq, decide_eq_true_eq, decide_eq_true_eq] at z
  rcases z with ⟨z, _⟩ | ⟨z1, z2⟩
  · rw [z]; rfl
  · unfold clR
    rw [decide_eq_true (show 20 ≤ k by omega), decide_eq_true (show k ≤ 61 by omega)]
    exact Bool.or_true _
theorem kpE5_c : ∀ k i, (stE5 k i || kpE5 k i) = true → clR k = true := fun k i z => by
  rw [Bool.or_eq_true] at z
  rcases z with z | z
  · exact stE5_c k i z
  · unfold kpE5 mS at z
    rw [List.any_eq_true] at z
    obtain ⟨p, hp', hm⟩ := z
    rw [Bool.and_eq_true, beq_iff_eq] at hm
    rw [← hm.1]
    exact List.all_eq_true.mp (show (([(45, 999), (46, 999), (5, 14), (5, 15), (5, 16)] : List (Nat × Nat)).all fun p => clR p.1) = true from rfl) p hp'
theorem cw_rows (hF : 700000 ≤ F) (hp : hpC c) (T : TH ρ c h) (r0 : ρ x0 = 12) (I : ClI ρ c x0 h) (R : RmC x0 B h) : Sat (sX11_rows F h x0 x1 x2) (CP ρ c x0 B (Tp x0 h)) := s_imp (zX11_rows (c := cat c (SZ stE5 rwW) h) hF (sx_c _) (th_in _ T) r0 I.1 I.2.1) fun o ho => by
  have T' := th_out T (fun k w i z => hp k w i (sz_clR stE5_c k w i z)) ho
  have f := fr_u T ho.2.2
  exact ⟨ρ, c, exm_0, T', rw_rest T r0 f stE5_n I, rmc_f T r0 f T' (fun _ _ => rfl) (fun _ _ => rfl) (fun _ => rfl) (fun _ => rfl) R, tp_f T r0 f (fun _ => rfl) rfl⟩
theorem cw_problem (hF : 700000 ≤ F) (hp : hpC c) (T : TH ρ c h) (r0 : ρ x0 = 12) (I : ClI ρ c x0 h) (R : RmC x0 B h) : Sat (sX11_problem F h x0 x1 x2 x3 x4) (CP ρ c x0 B (Tp x0 h)) := s_imp (zX11_problem (c := cat c (SZ (fun k i => stE5 k i || kpE5 k i) rwW) h) hF (sx_c _) (th_in _ T) r0 I.1 I.2.1) fun o ho => by
  have T' := th_out T (fun k w i z => hp k w i (sz_clR kpE5_c k w i z)) ho
  have f := fr_u T ho.2.2
  exact ⟨ρ, c, exm_0, T', rw_rest T r0 f kpE5_n I, rmc_f T r0 f T' (fun _ _ => rfl) (fun _ _ => rfl) (fun _ => rfl) (fun _ => rfl) R, tp_f T r0 f (fun _ => rfl) rfl⟩
end
end
section
/-! moves of the reference: who is taken stands there -/
theorem inb_r {x : Int32} {n : Nat} (g : inB x n) : 0 ≤ x.toInt ∧ x.toInt < (n : Int) := by
  have h1 : ¬ x < 0 := fun z => g (Or.inl z)
  have h2 : ¬ n ≤ x.toNatClampNeg := fun z => g (Or.inr z)
  have a := nlt_i h1
  have z0 : (0 : Int32).toInt = 0 := rfl
  have := nc_i (x := x) (by omega)
  omega
section
variable {ρ : Nat → Nat} {c : Cm} {h o g h0 : Hp} {x0 l b S Fa Ct M F : Nat} {sd s : Int32}
/-- what trying moves leaves: all but lists (z > 0), steps (z = 0, 1), vectors -/
def TF (z : Nat) (ρ : Nat → Nat) (x0 l : Nat) (h o : Hp) : Prop := (∀ a i, hR o a i = hR h a i) ∧ (∀ a i, hJ o a i = hJ h a i) ∧ (∀ a, hN o a = hN h a) ∧ ∀ a i, (z % 3 = 0 ∨ ¬ (66 ≤ ρ a ∧ ρ a ≤ 72)) → (2 ≤ z ∨ ¬ (87 ≤ ρ a ∧ ρ a ≤ 89)) → (z % 3 = 0 ∨ ¬ (a = l ∧ i = 0)) → ¬ (a = x0 ∧ (i = 23 ∨ i = 24)) → hI o a i = hI h a i
theorem tf_0 {z : Nat} : TF z ρ x0 l h h := ⟨fun _ _ => rfl, fun _ _ => rfl, fun _ => rfl, fun _ _ _ _ _ _ => rfl⟩
theorem tf_t {z : Nat} (p : TF z ρ x0 l h g) (q : TF z ρ x0 l g o) : TF z ρ x0 l h o := ⟨fun a i => (q.1 a i).trans (p.1 a i), fun a i => (q.2.1 a i).trans (p.2.1 a i), fun a => (q.2.2.1 a).trans (p.2.2.1 a), fun a i n1 n2 n3 n4 => (q.2.2.2 a i n1 n2 n3 n4).trans (p.2.2.2 a i n1 n2 n3 n4)⟩
theorem tf_w {z a i : Nat} {v : Int32} (e : (¬ z % 3 = 0 ∧ 66 ≤ ρ a ∧ ρ a ≤ 72) ∨ (¬ 2 ≤ z ∧ 87 ≤ ρ a ∧ ρ a ≤ 89) ∨ (¬ z % 3 = 0 ∧ a = l ∧ i = 0) ∨ (a = x0 ∧ (i = 23 ∨ i = 24))) : TF z ρ x0 l h (wI h a i v) := ⟨fun _ _ => rfl, fun _ _ => rfl, fun _ => rfl, fun b j n1 n2 n3 n4 => by
  rw [r_I, if_neg]
  rintro ⟨q1, q2⟩
  subst q1; subst q2
  rcases e with e | e | e | e
  · exact (n1.resolve_left e.1) e.2
  · exact (n2.resolve_left e.1) e.2
  · exact (n3.resolve_left e.1) e.2
  · exact n4 e⟩
theorem tf_1 {z : Nat} (p : TF z ρ x0 l h o) : TF 1 ρ x0 l h o := ⟨p.1, p.2.1, p.2.2.1, fun a i n1 n2 n3 n4 => p.2.2.2 a i (Or.inr (n1.resolve_left (by decide))) (Or.inr (n2.resolve_left (by decide))) (Or.inr (n3.resolve_left (by decide))) n4⟩
/-- what is noted of steps -/
def LdS (S Fa Ct M : Nat) (sd : Int32) (sq np : Int) (h : Hp) : Prop := ∀ t : Nat, (t : Int) < sq → 0 ≤ (hI h S t).toInt → nOwn sd (hI h M t) ∧ (¬ hI h Ct t = 0 → 1 < np) ∧ (hI h Fa t).toInt ≤ 8
/-- where things lie, for trying -/
def TP (ρ : Nat → Nat) (x0 b S Fa Ct M P R A B Ri : Nat) (np : Int) (h : Hp) : Prop := (hR h x0 25 = some S ∧ hR h x0 26 = some Fa ∧ hR h x0 27 = some Ct ∧ hR h b 0 = some M ∧ hR h b 4 = some P ∧ hR h x0 4 = some R ∧ hR h R 6 = some A ∧ hR h R 7 = some B ∧ hR h R 8 = some Ri) ∧ (ρ x0 = 16 ∧ ρ b = 13 ∧ ρ S = 87 ∧ ρ Fa = 88 ∧ ρ Ct = 89 ∧ ρ M = 62 ∧ ρ P = 63 ∧ ρ R = 15 ∧ ρ A = 76 ∧ ρ B = 77 ∧ ρ Ri = 78) ∧ (∀ i, Rg (-7) 7 (hI h A i)) ∧ (∀ i, Rg (-7) 7 (hI h B i)) ∧ Rg 0 64 (hI h b 3) ∧ (hI h b 3).toInt = np ∧ PE b h ∧ ∀ i, Rg 0 7 (hI h Ri i)
theorem tf_3 {z : Nat} (p : TF 3 ρ x0 l h o) : TF z ρ x0 l h o := ⟨p.1, p.2.1, p.2.2.1, fun a i n1 n2 n3 n4 => p.2.2.2 a i (Or.inl rfl) (Or.inl (by decide)) (Or.inl rfl) n4⟩
theorem tp_k {P R A B Ri z : Nat} {np : Int} (rl : ρ l = 14) (k : TF z ρ x0 l h o) (Q : TP ρ x0 b S Fa Ct M P R A B Ri np h) : TP ρ x0 b S Fa Ct M P R A B Ri np o := by
  obtain ⟨⟨a1, a2, a3, a4, a5, a6, a7, a8, a9⟩, ⟨b1, b2, b3, b4, b5, b6, b7, b8, b9, b10, b11⟩, c1, c2, c3, c4, c5, c6⟩ := Q
  have kI : ∀ {a q : Nat} (i : Nat), ρ a = q → ¬ (66 ≤ q ∧ q ≤ 72) → ¬ (87 ≤ q ∧ q ≤ 89) → q ≠ 14 → q ≠ 16 → hI o a i = hI h a i := fun {a q} i ra n1 n2 n3 n4 => k.2.2.2 a i (Or.inr (by rw [ra]; exact n1)) (Or.inr (by rw [ra]; exact n2)) (Or.inr (fun z => n3 (by rw [← ra, z.1]; exact rl))) (fun z => n4 (by rw [← ra, z.1]; exact b1))
  have e3 : hI o b 3 = hI h b 3 := kI 3 b2 (by decide) (by decide) (by decide) (by decide)
  refine ⟨⟨by rw [k.1]; exact a1, by rw [k.1]; exact a2, by rw [k.1]; exact a3, by rw [k.1]; exact a4, by rw [k.1]; exact a5, by rw [k.1]; exact a6, by rw [k.1]; exact a7, by rw [k.1]; exact a8, by rw [k.1]; exact a9⟩, ⟨b1, b2, b3, b4, b5, b6, b7, b8, b9, b10, b11⟩, fun i => ?_, fun i => ?_, by rw [e3]; exact c3, by rw [e3]; exact c4, fun M' P' m1 m2 k0 k1 k2 => ?_, fun i => ?_⟩
  · rw [kI i b9 (by decide) (by decide) (by decide) (by decide)]; exact c1 i
  · rw [kI i b10 (by decide) (by decide) (by decide) (by decide)]; exact c2 i
  · rw [k.1] at m1 m2
    have y1 : M' = M := r_eq a4 m1
    have y2 : P' = P := r_eq a5 m2
    subst y1; subst y2
    rw [e3] at k2
    rw [kI _ b7 (by decide) (by decide) (by decide) (by decide), kI _ b6 (by decide) (by decide) (by decide) (by decide)]
    exact c5 M' P' a4 a5 k0 k1 k2
  · rw [kI i b11 (by decide) (by decide) (by decide) (by decide)]; exact c6 i
theorem onw_h {s k : Int32} {o : Int32 × Hp} (e : sX15_onward h x0 s k = some o) : o.2 = h := by
  unfold sX15_onward sX15_onward_55 sX15_onward_68 at e
  replace e := (gd_s e).2
  replace e := nm_s e; obtain ⟨_, _, e⟩ := e
  replace e := (gd_s e).2
  replace e := nm_s e; obtain ⟨_, _, e⟩ := e
  replace e := br_s e; rcases e with ⟨_, e⟩ | ⟨_, e⟩
  · rw [← Option.some.inj e]
  replace e := br_s e; rcases e with ⟨_, e⟩ | ⟨_, e⟩
  · rw [← Option.some.inj e]
  replace e := br_s e; rcases e with ⟨_, e⟩ | ⟨_, e⟩
  · rw [← Option.some.inj e]
  replace e := br_s e; rcases e with ⟨_, e⟩ | ⟨_, e⟩
  · rw [← Option.some.inj e]
  · rw [← Option.some.inj e]
theorem gone_np {P : Nat} {t : Int32} {o : Int32 × Hp} (eP : hR h b 4 = some P) (ip : Rg 0 64 (hI h b 3)) (e : sX15_isGoneOver F h x0 b t = some o) : o.2 = h ∧ (o.1 = 0 ∨ 1 < (hI h b 3).toInt) := by
  unfold sX15_isGoneOver at e
  obtain ⟨q, w⟩ := go_loop eP ip F _ o (by decide) e
  refine ⟨q, ?_⟩
  rcases w with w | ⟨k, k1, k2, k3⟩
  · exact Or.inl w
  · exact Or.inr (by omega)
theorem ld_18 {P R A B Ri : Nat} {np sq : Int} {st ct fl : Int32} (rl : ρ l = 14) : ∀ (f : Nat) {h o : Hp} {x7 x8 : Int32}, TP ρ x0 b S Fa Ct M P R A B Ri np h → LdS S Fa Ct M sd sq np h → sX15_leadBy_18 F f h x0 b s sd st ct fl x7 x8 = some o → TF 0 ρ x0 l h o ∧ LdS S Fa Ct M sd sq np o := by
  intro f
  induction f with
  | zero => intro h o x7 x8 _ _ e; exact absurd e (by rw [sX15_leadBy_18]; exact fun z => nomatch z)
  | succ f ih =>
    intro h o x7 x8 Q L e
    have Q' := Q
    obtain ⟨⟨a1, a2, a3, a4, a5, a6, a7, a8, a9⟩, ⟨b1, b2, b3, b4, b5, b6, b7, b8, b9, b10, b11⟩, c1, c2, c3, c4, c5, c6⟩ := Q
    rw [sX15_leadBy_18] at e
    unfold sX15_leadBy_216 at e
    have tail : ∀ {g : Hp} {v y7 : Int32}, TF 0 ρ x0 l h g → LdS S Fa Ct M sd sq np g → sX15_leadBy_195 F (sX15_leadBy_18 F f) g x0 b s sd st ct fl y7 x8 v = some o → TF 0 ρ x0 l h o ∧ LdS S Fa Ct M sd sq np o := fun {g v y7} k L e => by
      unfold sX15_leadBy_195 sX15_leadBy_207 at e
      replace e := br_s e
      rcases e with ⟨_, e⟩ | ⟨_, e⟩
      · replace e := nm_s e; obtain ⟨_, _, e⟩ := e
        replace e := nm_s e; obtain ⟨_, _, e⟩ := e
        obtain ⟨z1, z2⟩ := ih (tp_k rl k Q') L e
        exact ⟨tf_t k z1, z2⟩
      · replace e := nm_s e; obtain ⟨_, _, e⟩ := e
        replace e := nm_s e; obtain ⟨_, _, e⟩ := e
        obtain ⟨z1, z2⟩ := ih (tp_k rl k Q') L e
        exact ⟨tf_t k z1, z2⟩
    replace e := cl_s e; obtain ⟨R', er, e⟩ := e
    have y : R' = R := r_eq a6 er
    subst y
    replace e := cl_s e; obtain ⟨Ri', eri, e⟩ := e
    have y : Ri' = Ri := r_eq a9 eri
    subst y
    replace e := (gd_s e).2
    replace e := br_s e
    rcases e with ⟨_, e⟩ | ⟨nr, e⟩
    · rw [← Option.some.inj e]; exact ⟨tf_0, L⟩
    have l8 : x8.toInt ≤ 8 := by
      have := nlt_i nr
      have := (c6 st.toNatClampNeg).2
      omega
    replace e := br_s e
    rcases e with ⟨_, e⟩ | ⟨_, e⟩
    · rw [← Option.some.inj e]; exact ⟨tf_0, L⟩
    replace e := cl_s e; obtain ⟨o6, e6, e⟩ := e
    rw [onw_h e6] at e
    replace e := br_s e
    rcases e with ⟨_, e⟩ | ⟨_, e⟩
    · rw [← Option.some.inj e]; exact ⟨tf_0, L⟩
    replace e := cl_s e; obtain ⟨M', em, e⟩ := e
    have y : M' = M := r_eq a4 em
    subst y
    replace e := (gd_s e).2
    replace e := nm_s e; obtain ⟨v, ev, e⟩ := e
    replace e := cl_s e; obtain ⟨o11, e11, e⟩ := e
    rw [(free_post e11).1] at e
    replace e := br_s e
    rcases e with ⟨_, e⟩ | ⟨_, e⟩
    · exact tail tf_0 L e
    have note : ∀ {z : Int32}, (¬ z = 0 → 1 < np) → nOwn sd (hI h M' o6.1.toNatClampNeg) → sX15_leadBy_168 F (sX15_leadBy_18 F f) h x0 b s sd st ct fl x7 x8 o6.1 v z = some o → TF 0 ρ x0 l h o ∧ LdS S Fa Ct M' sd sq np o := fun {z} hz no e => by
      unfold sX15_leadBy_168 at e
      replace e := cl_s e; obtain ⟨S', es, e⟩ := e
      have y : S' = S := r_eq a1 es
      subst y
      replace e := (gd_s e).2
      replace e := nm_s e; obtain ⟨h3, w3, e⟩ := e
      replace e := cl_s e; obtain ⟨Fa', ef, e⟩ := e
      have y : Fa' = Fa := r_eq a2 (by rw [w3] at ef; exact ef)
      subst y
      replace e := (gd_s e).2
      replace e := nm_s e; obtain ⟨h6, w6, e⟩ := e
      replace e := cl_s e; obtain ⟨Ct', ec, e⟩ := e
      have y : Ct' = Ct := r_eq a3 (by rw [w6, w3] at ec; exact ec)
      subst y
      replace e := (gd_s e).2
      replace e := nm_s e; obtain ⟨h9, w9, e⟩ := e
      have nSF : ¬ S' = Fa' := fun q => by rw [q, b4] at b3; exact absurd b3 (by decide)
      have nSC : ¬ S' = Ct' := fun q => by rw [q, b5] at b3; exact absurd b3 (by decide)
      have nFC : ¬ Fa' = Ct' := fun q => by rw [q, b5] at b4; exact absurd b4 (by decide)
      have k9 : TF 0 ρ x0 l h h9 := by
        rw [w9, w6, w3]
        exact tf_t (tf_t (tf_w (Or.inr (Or.inl ⟨by decide, by rw [b3]; decide⟩))) (tf_w (Or.inr (Or.inl ⟨by decide, by rw [b4]; decide⟩)))) (tf_w (Or.inr (Or.inl ⟨by decide, by rw [b5]; decide⟩)))
      have kM : ∀ i, hI h9 M' i = hI h M' i := fun i => k9.2.2.2 M' i (Or.inl rfl) (Or.inr (by rw [b6]; decide)) (Or.inl rfl) (fun q => by rw [q.1, b1] at b6; exact absurd b6 (by decide))
      refine tail k9 (fun t h1 h2 => ?_) e
      rw [kM]
      by_cases q : t = o6.1.toNatClampNeg
      · rw [q]
        refine ⟨no, fun h3' => hz (fun zz => h3' ?_), ?_⟩
        · rw [w9, rI_s, zz]; rfl
        · rw [w9, rI_a nFC, w6, rI_s]; exact l8
      · have eS : hI h9 S' t = hI h S' t := by rw [w9, rI_a nSC, w6, rI_a nSF, w3, rI_o q]
        have eC : hI h9 Ct' t = hI h Ct' t := by rw [w9, rI_o q, w6, rI_a (fun z => nFC z.symm), w3, rI_a (fun z => nSC z.symm)]
        have eF : hI h9 Fa' t = hI h Fa' t := by rw [w9, rI_a nFC, w6, rI_o q, w3, rI_a (fun z => nSF z.symm)]
        rw [eS] at h2
        rw [eC, eF]
        exact L t h1 h2
    have both : ∀ {z g : Int32}, (¬ z = 0 → 1 < np ∧ nOwn sd (hI h M' o6.1.toNatClampNeg)) → (¬ g = 0 → nOwn sd (hI h M' o6.1.toNatClampNeg)) → sX15_leadBy_156 F (sX15_leadBy_18 F f) h x0 b s sd st ct fl x7 x8 o6.1 v z g = some o → TF 0 ρ x0 l h o ∧ LdS S Fa Ct M' sd sq np o := fun {z g} hz hg e => by
      unfold sX15_leadBy_156 at e
      replace e := br_s e
      rcases e with ⟨_, e⟩ | ⟨q, e⟩
      · replace e := br_s e
        rcases e with ⟨_, e⟩ | ⟨q, e⟩
        · exact tail tf_0 L e
        · exact note (fun w => (hz w).1) (hg q) e
      · exact note (fun w => (hz w).1) (hz q).2 e
    have by_ : ∀ {z : Int32}, (¬ z = 0 → 1 < np ∧ nOwn sd (hI h M' o6.1.toNatClampNeg)) → sX15_leadBy_113 F (sX15_leadBy_18 F f) h x0 b s sd st ct fl x7 x8 o6.1 v z = some o → TF 0 ρ x0 l h o ∧ LdS S Fa Ct M' sd sq np o := fun {z} hz e => by
      unfold sX15_leadBy_113 sX15_leadBy_140 at e
      replace e := br_s e
      rcases e with ⟨q, e⟩ | ⟨_, e⟩
      · have q := le_i q
        rw [ev] at q
        replace e := br_s e
        rcases e with ⟨_, e⟩ | ⟨_, e⟩
        · exact both hz (fun _ => Or.inl q) e
        · exact both hz (fun _ => Or.inl q) e
      · replace e := cl_s e; obtain ⟨o3, e3, e⟩ := e
        unfold sX15_sideOf at e3
        rw [← Option.some.inj e3] at e
        replace e := br_s e
        rcases e with ⟨_, e⟩ | ⟨q, e⟩
        · exact both hz (fun q => absurd rfl q) e
        · have q' : ¬ (hI h M' o6.1.toNatClampNeg - (1 : Int32)) &&& (1 : Int32) = sd := by rw [← ev]; exact q
          replace e := br_s e
          rcases e with ⟨_, e⟩ | ⟨_, e⟩
          · exact both hz (fun _ => Or.inr q') e
          · exact both hz (fun q => absurd rfl q) e
    replace e := cl_s e; obtain ⟨S', es, e⟩ := e
    replace e := (gd_s e).2
    replace e := br_s e
    rcases e with ⟨_, e⟩ | ⟨_, e⟩
    · unfold sX15_leadBy_112 at e
      replace e := br_s e
      rcases e with ⟨_, e⟩ | ⟨_, e⟩
      · exact by_ (fun q => absurd rfl q) e
      replace e := br_s e
      rcases e with ⟨_, e⟩ | ⟨_, e⟩
      · exact by_ (fun q => absurd rfl q) e
      replace e := cl_s e; obtain ⟨o18, e18, e⟩ := e
      obtain ⟨h18, n18⟩ := gone_np a5 c3 e18
      rw [h18] at e
      rw [c4] at n18
      replace e := br_s e
      rcases e with ⟨_, e⟩ | ⟨c6, e⟩
      · exact by_ (fun q => absurd rfl q) e
      · have np1 : 1 < np := n18.resolve_left c6
        exact by_ (fun _ => ⟨np1, Or.inl ((gone_over a4 a5 c3 c5 e18).2.resolve_left c6)⟩) e
    · exact tail tf_0 L e
/-- lead: what it notes, what it leaves -/
theorem ld_78 {P R A B Ri : Nat} {np sq : Int} {ct v : Int32} (rl : ρ l = 14) {K : Hp → Nat → Nat → Int32 → Int32 → Int32 → Int32 → Int32 → Option Hp} {x6 x7 : Int32} (hK : ∀ {g : Hp} {y : Int32}, TP ρ x0 b S Fa Ct M P R A B Ri np g → LdS S Fa Ct M sd sq np g → K g x0 b s ct v sd y = some o → TF 0 ρ x0 l g o ∧ LdS S Fa Ct M sd sq np o) : ∀ (f : Nat) {h : Hp} {x8 : Int32}, TP ρ x0 b S Fa Ct M P R A B Ri np h → LdS S Fa Ct M sd sq np h → sX15_lead_78 F K f h x0 b s ct v sd x6 x7 x8 = some o → TF 0 ρ x0 l h o ∧ LdS S Fa Ct M sd sq np o := by
  intro f
  induction f with
  | zero => intro h x8 _ _ e; exact absurd e (by rw [sX15_lead_78]; exact fun z => nomatch z)
  | succ f ih =>
    intro h x8 Q L e
    rw [sX15_lead_78] at e
    unfold sX15_lead_127 sX15_lead_121 at e
    replace e := br_s e
    rcases e with ⟨_, e⟩ | ⟨_, e⟩
    · replace e := nm_s e; obtain ⟨_, _, e⟩ := e
      exact hK Q L e
    replace e := cl_s e; obtain ⟨o2, e2, e⟩ := e
    rw [from_post e2] at e
    replace e := br_s e
    rcases e with ⟨_, e⟩ | ⟨_, e⟩
    · replace e := nm_s e; obtain ⟨_, _, e⟩ := e
      exact hK Q L e
    replace e := cl_s e; obtain ⟨o4, e4, e⟩ := e
    have Q' := Q
    obtain ⟨⟨a1, a2, a3, a4, a5, a6, a7, a8, a9⟩, ⟨b1, b2, b3, b4, b5, b6, b7, b8, b9, b10, b11⟩, c1, c2, c3, c4, c5, c6⟩ := Q
    obtain ⟨d1, d2, w, _, _⟩ := hv_post a6 a7 a8 c1 c2 e4
    have k4 : TF 0 ρ x0 l h o4.2 := by
      rw [w]
      exact tf_t (tf_w (Or.inr (Or.inr (Or.inr ⟨rfl, Or.inl rfl⟩)))) (tf_w (Or.inr (Or.inr (Or.inr ⟨rfl, Or.inr rfl⟩))))
    have nx : ∀ {a q : Nat} (i : Nat), ρ a = q → q ≠ 16 → hI o4.2 a i = hI h a i := fun {a q} i ra hq => by
      have na : ¬ a = x0 := fun z => hq (by rw [← ra, z]; exact b1)
      rw [w, rI_a na, rI_a na]
    have L4 : LdS S Fa Ct M sd sq np o4.2 := fun t h1 h2 => by
      rw [nx t b3 (by decide)] at h2
      rw [nx t b6 (by decide), nx t b5 (by decide), nx t b4 (by decide)]
      exact L t h1 h2
    replace e := br_s e
    rcases e with ⟨_, e⟩ | ⟨_, e⟩
    · replace e := nm_s e; obtain ⟨_, _, e⟩ := e
      obtain ⟨z1, z2⟩ := ih (tp_k rl k4 Q') L4 e
      exact ⟨tf_t k4 z1, z2⟩
    replace e := cl_s e; obtain ⟨o6, e6, e⟩ := e
    unfold sX15_leadBy at e6
    replace e6 := cl_s e6; obtain ⟨_, _, e6⟩ := e6
    replace e6 := cl_s e6; obtain ⟨_, _, e6⟩ := e6
    replace e6 := (gd_s e6).2
    replace e6 := nm_s e6; obtain ⟨_, _, e6⟩ := e6
    obtain ⟨y1, y2⟩ := ld_18 rl F (tp_k rl k4 Q') L4 e6
    replace e := nm_s e; obtain ⟨_, _, e⟩ := e
    obtain ⟨z1, z2⟩ := ih (tp_k rl (tf_t k4 y1) Q') y2 e
    exact ⟨tf_t (tf_t k4 y1) z1, z2⟩
theorem ld_44 {P R A B Ri : Nat} {np sq : Int} {ct v : Int32} (rl : ρ l = 14) : ∀ (f : Nat) {h : Hp} {x6 : Int32}, TP ρ x0 b S Fa Ct M P R A B Ri np h → LdS S Fa Ct M sd sq np h → sX15_lead_44 F f h x0 b s ct v sd x6 = some o → TF 0 ρ x0 l h o ∧ LdS S Fa Ct M sd sq np o := by
  intro f
  induction f with
  | zero => intro h x6 _ _ e; exact absurd e (by rw [sX15_lead_44]; exact fun z => nomatch z)
  | succ f ih =>
    intro h x6 Q L e
    rw [sX15_lead_44] at e
    replace e := cl_s e; obtain ⟨_, _, e⟩ := e
    replace e := cl_s e; obtain ⟨_, _, e⟩ := e
    replace e := cl_s e; obtain ⟨o3, e3, e⟩ := e
    unfold sX15_manOf at e3
    rw [← Option.some.inj e3] at e
    replace e := (gd_s e).2
    replace e := br_s e
    rcases e with ⟨_, e⟩ | ⟨_, e⟩
    · rw [← Option.some.inj e]; exact ⟨tf_0, L⟩
    replace e := cl_s e; obtain ⟨o6, e6, e⟩ := e
    unfold sX15_manOf at e6
    rw [← Option.some.inj e6] at e
    replace e := nm_s e; obtain ⟨_, _, e⟩ := e
    exact ld_78 rl (fun Q L e => ih Q L e) F Q L e
theorem ld_clr {P R A B Ri : Nat} {np : Int} {ct v : Int32} (rl : ρ l = 14) : ∀ (f : Nat) {h : Hp} {x6 : Int32}, TP ρ x0 b S Fa Ct M P R A B Ri np h → 0 ≤ x6.toInt → (hI h x0 13).toInt ≤ 64 → (∀ t : Nat, (t : Int) < x6.toInt → hI h S t = (-1 : Int32)) → sX15_lead_18 F f h x0 b s ct v sd x6 = some o → TF 0 ρ x0 l h o ∧ LdS S Fa Ct M sd (hI h x0 13).toInt np o := by
  have z1 : (1 : Int32).toInt = 1 := rfl
  intro f
  induction f with
  | zero => intro h x6 _ _ _ _ e; exact absurd e (by rw [sX15_lead_18]; exact fun z => nomatch z)
  | succ f ih =>
    intro h x6 Q a6' l64 C e
    rw [sX15_lead_18] at e
    replace e := br_s e
    rcases e with ⟨q, e⟩ | ⟨q, e⟩
    · have q := le_i q
      refine ld_44 rl F Q (fun t h1 h2 => ?_) e
      rw [C t (by omega)] at h2
      exact absurd h2 (by decide)
    have q := nle_i q
    have Q' := Q
    obtain ⟨⟨a1, a2, a3, a4, a5, a6, a7, a8, a9⟩, ⟨b1, b2, b3, b4, b5, b6, b7, b8, b9, b10, b11⟩, c1, c2, c3, c4, c5, c6⟩ := Q
    replace e := cl_s e; obtain ⟨S', es, e⟩ := e
    have y : S' = S := r_eq a1 es
    subst y
    replace e := (gd_s e).2
    replace e := nm_s e; obtain ⟨h4, w4, e⟩ := e
    have k4 : TF 0 ρ x0 l h h4 := by rw [w4]; exact tf_w (Or.inr (Or.inl ⟨by decide, by rw [b3]; decide⟩))
    have e13 : hI h4 x0 13 = hI h x0 13 := by rw [w4, rI_a (fun z => by rw [z, b3] at b1; exact absurd b1 (by decide))]
    replace e := nm_s e; obtain ⟨v5, w5, e⟩ := e
    have t5 : v5.toInt = x6.toInt + 1 := by rw [w5, ta (by rw [z1]; omega), z1]
    have n6 := nc_i a6'
    obtain ⟨z1', z2'⟩ := ih (tp_k rl k4 Q') (by omega) (by rw [e13]; exact l64) (fun t ht => by
      rw [w4, r_I]
      by_cases qq : t = x6.toNatClampNeg
      · rw [if_pos ⟨rfl, qq⟩]
      · rw [if_neg (fun y => qq y.2)]; exact C t (by omega)) e
    rw [e13] at z2'
    exact ⟨tf_t k4 z1', z2'⟩
theorem lead_z {P R A B Ri : Nat} {np : Int} {ct : Int32} (rl : ρ l = 14) (Q : TP ρ x0 b S Fa Ct M P R A B Ri np h) (l64 : (hI h x0 13).toInt ≤ 64) (e : sX15_lead F h x0 b s ct = some o) : TF 0 ρ x0 l h o ∧ LdS S Fa Ct M ((hI h M s.toNatClampNeg - (1 : Int32)) &&& (1 : Int32)) (hI h x0 13).toInt np o := by
  unfold sX15_lead at e
  replace e := cl_s e; obtain ⟨M', em, e⟩ := e
  have y : M' = M := r_eq Q.1.2.2.2.1 em
  subst y
  replace e := (gd_s e).2
  replace e := nm_s e; obtain ⟨v, ev, e⟩ := e
  replace e := cl_s e; obtain ⟨o4, e4, e⟩ := e
  unfold sX15_sideOf at e4
  rw [← Option.some.inj e4] at e
  rw [← ev]
  exact ld_clr rl F Q (by decide) l64 (fun t ht => absurd ht (by show ¬ (t : Int) < 0; omega)) e
end
end
section
/-! moves that are tried, and their rows -/
section
variable {ρ : Nat → Nat} {c : Cm} {h o g h0 : Hp} {x0 l b S Fa Ct M F : Nat} {sd : Int32}
/-- a move that fits its board, as far as who is taken goes -/
def E2 (g : Nat → Int32) (sd : Int32) (np : Int) (f t tk k mo : Int32) : Prop := (¬ tk = (-1 : Int32) → ¬ k = (1 : Int32) → k = (0 : Int32) ∧ 0 < (g t.toNatClampNeg).toInt ∧ ¬ t.toNatClampNeg = f.toNatClampNeg) ∧ (k = (1 : Int32) → 1 < np) ∧ (k = (2 : Int32) → ¬ mo.toNatClampNeg = f.toNatClampNeg ∧ 0 < (g mo.toNatClampNeg).toInt) ∧ (k = (0 : Int32) ∨ k = (1 : Int32) → mo.toInt ≤ 8) ∧ (¬ k = (3 : Int32) → 0 < (g f.toNatClampNeg).toInt ∧ (g f.toNatClampNeg - (1 : Int32)) &&& (1 : Int32) = sd)
def LPz (ρ : Nat → Nat) (l lf lt lm lb lx lk lo : Nat) (h : Hp) : Prop := (hR h l 1 = some lf ∧ hR h l 2 = some lt ∧ hR h l 3 = some lm ∧ hR h l 4 = some lb ∧ hR h l 5 = some lx ∧ hR h l 6 = some lk ∧ hR h l 7 = some lo) ∧ (ρ l = 14 ∧ ρ lf = 66 ∧ ρ lt = 67 ∧ ρ lm = 68 ∧ ρ lb = 69 ∧ ρ lx = 70 ∧ ρ lk = 71 ∧ ρ lo = 72) ∧ hN h lf = 3000
theorem lp_k {lf lt lm lb lx lk lo : Nat} (kR : ∀ a i, hR o a i = hR h a i) (kN : ∀ a, hN o a = hN h a) (Q : LPz ρ l lf lt lm lb lx lk lo h) : LPz ρ l lf lt lm lb lx lk lo o := by
  obtain ⟨⟨a1, a2, a3, a4, a5, a6, a7⟩, b, n⟩ := Q
  exact ⟨⟨by rw [kR]; exact a1, by rw [kR]; exact a2, by rw [kR]; exact a3, by rw [kR]; exact a4, by rw [kR]; exact a5, by rw [kR]; exact a6, by rw [kR]; exact a7⟩, b, by rw [kN]; exact n⟩
def L2 (l lf lt lx lk lo : Nat) (g : Nat → Int32) (sd : Int32) (np : Int) (h : Hp) : Prop := ∀ i : Nat, (i : Int) < (hI h l 0).toInt → E2 g sd np (hI h lf i) (hI h lt i) (hI h lx i) (hI h lk i) (hI h lo i)
theorem add_z {lf lt lm lb lx lk lo : Nat} {gg : Nat → Int32} {np : Int} {f t m bc tk k mo : Int32} (Q : LPz ρ l lf lt lm lb lx lk lo h) (L : L2 l lf lt lx lk lo gg sd np h) (E : E2 gg sd np f t tk k mo) (e : sX13_add h l f t m bc tk k mo = some o) : TF 2 ρ x0 l h o ∧ L2 l lf lt lx lk lo gg sd np o := by
  obtain ⟨⟨a1, a2, a3, a4, a5, a6, a7⟩, ⟨b1, b2, b3, b4, b5, b6, b7, b8⟩, n⟩ := Q
  have ne : ∀ {a d p q : Nat}, ρ a = p → ρ d = q → p ≠ q → ¬ a = d := fun ha hd hpq z => hpq (by rw [← ha, z]; exact hd)
  unfold sX13_add at e
  replace e := cl_s e; obtain ⟨r1, e1, e⟩ := e
  have y : r1 = lf := r_eq a1 e1
  subst y
  have gi := (gd_s e).1
  replace e := (gd_s e).2
  replace e := nm_s e; obtain ⟨h3, w3, e⟩ := e
  replace e := cl_s e; obtain ⟨r4, e4, e⟩ := e
  have y : r4 = lt := r_eq a2 (by rw [w3] at e4; exact e4)
  subst y
  replace e := (gd_s e).2
  replace e := nm_s e; obtain ⟨h6, w6, e⟩ := e
  replace e := cl_s e; obtain ⟨r7, e7, e⟩ := e
  have y : r7 = lm := r_eq a3 (by rw [w6, w3] at e7; exact e7)
  subst y
  replace e := (gd_s e).2
  replace e := nm_s e; obtain ⟨h9, w9, e⟩ := e
  replace e := cl_s e; obtain ⟨r10, e10, e⟩ := e
  have y : r10 = lb := r_eq a4 (by rw [w9, w6, w3] at e10; exact e10)
  subst y
  replace e := (gd_s e).2
  replace e := nm_s e; obtain ⟨h12, w12, e⟩ := e
  replace e := cl_s e; obtain ⟨r13, e13, e⟩ := e
  have y : r13 = lx := r_eq a5 (by rw [w12, w9, w6, w3] at e13; exact e13)
  subst y
  replace e := (gd_s e).2
  replace e := nm_s e; obtain ⟨h15, w15, e⟩ := e
  replace e := cl_s e; obtain ⟨r16, e16, e⟩ := e
  have y : r16 = lk := r_eq a6 (by rw [w15, w12, w9, w6, w3] at e16; exact e16)
  subst y
  replace e := (gd_s e).2
  replace e := nm_s e; obtain ⟨h18, w18, e⟩ := e
  replace e := cl_s e; obtain ⟨r19, e19, e⟩ := e
  have y : r19 = lo := r_eq a7 (by rw [w18, w15, w12, w9, w6, w3] at e19; exact e19)
  subst y
  replace e := (gd_s e).2
  replace e := nm_s e; obtain ⟨h21, w21, e⟩ := e
  replace e := nm_s e; obtain ⟨h22, w22, e⟩ := e
  have zz := Option.some.inj e
  subst zz
  have tw : ∀ {g : Hp} {a i : Nat} {v : Int32} {q : Nat}, ρ a = q → (66 ≤ q ∧ q ≤ 72) → TF 2 ρ x0 l g (wI g a i v) := fun ha hq => tf_w (Or.inl ⟨by decide, by rw [ha]; exact hq⟩)
  have k3 : TF 2 ρ x0 l h h3 := by rw [w3]; exact tw b2 (by decide)
  have k6 : TF 2 ρ x0 l h3 h6 := by rw [w6]; exact tw b3 (by decide)
  have k9 : TF 2 ρ x0 l h6 h9 := by rw [w9]; exact tw b4 (by decide)
  have k12 : TF 2 ρ x0 l h9 h12 := by rw [w12]; exact tw b5 (by decide)
  have k15 : TF 2 ρ x0 l h12 h15 := by rw [w15]; exact tw b6 (by decide)
  have k18 : TF 2 ρ x0 l h15 h18 := by rw [w18]; exact tw b7 (by decide)
  have k21 : TF 2 ρ x0 l h18 h21 := by rw [w21]; exact tw b8 (by decide)
  have k22 : TF 2 ρ x0 l h21 h22 := by rw [w22]; exact tf_w (Or.inr (Or.inr (Or.inl ⟨by decide, rfl, rfl⟩)))
  refine ⟨tf_t (tf_t (tf_t (tf_t (tf_t (tf_t (tf_t k3 k6) k9) k12) k15) k18) k21) k22, ?_⟩
  have n1 := ne b1 b2 (by decide)
  have n2 := ne b1 b3 (by decide)
  have n3 := ne b1 b4 (by decide)
  have n4 := ne b1 b5 (by decide)
  have n5 := ne b1 b6 (by decide)
  have n6 := ne b1 b7 (by decide)
  have n7 := ne b1 b8 (by decide)
  have c3 : hI h3 l 0 = hI h l 0 := by rw [w3, rI_a n1]
  have c6 : hI h6 l 0 = hI h l 0 := by rw [w6, rI_a n2]; exact c3
  have c9 : hI h9 l 0 = hI h l 0 := by rw [w9, rI_a n3]; exact c6
  have c12 : hI h12 l 0 = hI h l 0 := by rw [w12, rI_a n4]; exact c9
  have c15 : hI h15 l 0 = hI h l 0 := by rw [w15, rI_a n5]; exact c12
  have c18 : hI h18 l 0 = hI h l 0 := by rw [w18, rI_a n6]; exact c15
  have c21 : hI h21 l 0 = hI h l 0 := by rw [w21, rI_a n7]; exact c18
  obtain ⟨N, hN'⟩ : ∃ N, N = (hI h l 0).toNatClampNeg := ⟨_, rfl⟩
  rw [n] at gi
  have gb := inb_r gi
  have z1 : (1 : Int32).toInt = 1 := rfl
  have c22 : (hI h22 l 0).toInt = (hI h l 0).toInt + 1 := by rw [w22, rI_s, c21, ta (by rw [z1]; omega), z1]
  have nN : (N : Int) = (hI h l 0).toInt := by rw [hN']; exact nc_i gb.1
  -- rows at i
  have Vf : ∀ i, hI h22 r1 i = if i = N then f else hI h r1 i := fun i => by
    rw [w22, rI_a (fun z => n1 z.symm), w21, rI_a (ne b2 b8 (by decide)), w18, rI_a (ne b2 b7 (by decide)), w15, rI_a (ne b2 b6 (by decide)), w12, rI_a (ne b2 b5 (by decide)), w9, rI_a (ne b2 b4 (by decide)), w6, rI_a (ne b2 b3 (by decide)), w3, r_I, hN']
    by_cases z : i = (hI h l 0).toNatClampNeg
    · rw [if_pos ⟨rfl, z⟩, if_pos z]
    · rw [if_neg (fun y => z y.2), if_neg z]
  have Vt : ∀ i, hI h22 r4 i = if i = N then t else hI h r4 i := fun i => by
    rw [w22, rI_a (fun z => n2 z.symm), w21, rI_a (ne b3 b8 (by decide)), w18, rI_a (ne b3 b7 (by decide)), w15, rI_a (ne b3 b6 (by decide)), w12, rI_a (ne b3 b5 (by decide)), w9, rI_a (ne b3 b4 (by decide)), w6, r_I, c3, hN', w3, rI_a (ne b3 b2 (by decide))]
    by_cases z : i = (hI h l 0).toNatClampNeg
    · rw [if_pos ⟨rfl, z⟩, if_pos z]
    · rw [if_neg (fun y => z y.2), if_neg z]
  have Vx : ∀ i, hI h22 r13 i = if i = N then tk else hI h r13 i := fun i => by
    rw [w22, rI_a (fun z => n5 z.symm), w21, rI_a (ne b6 b8 (by decide)), w18, rI_a (ne b6 b7 (by decide)), w15, r_I, c12, hN', w12, rI_a (ne b6 b5 (by decide)), w9, rI_a (ne b6 b4 (by decide)), w6, rI_a (ne b6 b3 (by decide)), w3, rI_a (ne b6 b2 (by decide))]
    by_cases z : i = (hI h l 0).toNatClampNeg
    · rw [if_pos ⟨rfl, z⟩, if_pos z]
    · rw [if_neg (fun y => z y.2), if_neg z]
  have Vk : ∀ i, hI h22 r16 i = if i = N then k else hI h r16 i := fun i => by
    rw [w22, rI_a (fun z => n6 z.symm), w21, rI_a (ne b7 b8 (by decide)), w18, r_I, c15, hN', w15, rI_a (ne b7 b6 (by decide)), w12, rI_a (ne b7 b5 (by decide)), w9, rI_a (ne b7 b4 (by decide)), w6, rI_a (ne b7 b3 (by decide)), w3, rI_a (ne b7 b2 (by decide))]
    by_cases z : i = (hI h l 0).toNatClampNeg
    · rw [if_pos ⟨rfl, z⟩, if_pos z]
    · rw [if_neg (fun y => z y.2), if_neg z]
  have Vo : ∀ i, hI h22 r19 i = if i = N then mo else hI h r19 i := fun i => by
    rw [w22, rI_a (fun z => n7 z.symm), w21, r_I, c18, hN', w18, rI_a (ne b8 b7 (by decide)), w15, rI_a (ne b8 b6 (by decide)), w12, rI_a (ne b8 b5 (by decide)), w9, rI_a (ne b8 b4 (by decide)), w6, rI_a (ne b8 b3 (by decide)), w3, rI_a (ne b8 b2 (by decide))]
    by_cases z : i = (hI h l 0).toNatClampNeg
    · rw [if_pos ⟨rfl, z⟩, if_pos z]
    · rw [if_neg (fun y => z y.2), if_neg z]
  intro i hi
  rw [Vf, Vt, Vx, Vk, Vo]
  by_cases z : i = N
  · rw [if_pos z, if_pos z, if_pos z, if_pos z, if_pos z]; exact E
  · rw [if_neg z, if_neg z, if_neg z, if_neg z, if_neg z]
    exact L i (by omega)
end
end
