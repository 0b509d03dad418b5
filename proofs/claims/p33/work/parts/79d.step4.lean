/-! calls of the class that read the tape -/
section
variable {ρ ρ1 : Nat → Nat} {c c1 : Cm} {h o g : Hp} {S : Nat → Nat → Nat → Bool} {x0 a b k w i F L t : Nat} {B : Nat × Nat} {lo hi : Int} {x1 x2 x3 x4 x5 : Int32}
theorem app_1 {o : Hp} {b : Nat} (eb : hR h t 0 = some b) (nb : ¬ b = t) (N : hN h b = 1200) (l : (hI h t 1).toInt < 1200) (l0 : 0 ≤ (hI h t 1).toInt) (e : sX9_append h t x1 = some o) : (hI o t 1).toInt = (hI h t 1).toInt + 1 ∧ (∀ a i, hR o a i = hR h a i) ∧ ∀ a, hN o a = hN h a := by
  unfold sX9_append sX9_append_36 at e
  replace e := cl_s e
  obtain ⟨r1, e1, e⟩ := e
  have y1 : r1 = b := r_eq eb e1
  subst y1
  have z12 : (nI 1200).toInt = 1200 := rfl
  have z1 : (1 : Int32).toInt = 1 := rfl
  replace e := br_s e
  rcases e with ⟨q, e⟩ | ⟨_, e⟩
  · have q := le_i q
    rw [N, z12] at q
    omega
  replace e := cl_s e
  obtain ⟨r3, e3, e⟩ := e
  have y3 : r3 = r1 := r_eq eb e3
  subst y3
  replace e := (gd_s e).2
  replace e := nm_s e
  obtain ⟨h5, w5, e⟩ := e
  replace e := nm_s e
  obtain ⟨h6, w6, e⟩ := e
  have zz := Option.some.inj e
  subst zz
  refine ⟨?_, fun a i => by rw [w6, w5]; rfl, fun a => by rw [w6, w5]; rfl⟩
  rw [w6, rI_s, w5, rI_a (fun z => nb z.symm), ta (by rw [z1]; omega), z1]
theorem appn_1 {o : Hp} {b : Nat} (eb : hR h t 0 = some b) (nb : ¬ b = t) (N : hN h b = 1200) (l : (hI h t 1).toInt ≤ 1196) (l0 : 0 ≤ (hI h t 1).toInt) (e : sX9_appendNumber h t x1 = some o) : (hI o t 1).toInt = (hI h t 1).toInt + 4 ∧ (∀ a i, hR o a i = hR h a i) ∧ ∀ a, hN o a = hN h a := by
  unfold sX9_appendNumber at e
  replace e := cl_s e
  obtain ⟨o1, e1, e⟩ := e
  obtain ⟨a1, b1, c1⟩ := app_1 eb nb N (by omega) l0 e1
  replace e := cl_s e
  obtain ⟨o2, e2, e⟩ := e
  obtain ⟨a2, b2, c2⟩ := app_1 (by rw [b1]; exact eb) nb (by rw [c1]; exact N) (by omega) (by omega) e2
  replace e := cl_s e
  obtain ⟨o3, e3, e⟩ := e
  obtain ⟨a3, b3, c3⟩ := app_1 (by rw [b2, b1]; exact eb) nb (by rw [c2, c1]; exact N) (by omega) (by omega) e3
  replace e := cl_s e
  obtain ⟨o4, e4, e⟩ := e
  obtain ⟨a4, b4, c4⟩ := app_1 (by rw [b3, b2, b1]; exact eb) nb (by rw [c3, c2, c1]; exact N) (by omega) (by omega) e4
  rw [← Option.some.inj e]
  exact ⟨by omega, fun a i => by rw [b4, b3, b2, b1], fun a => by rw [c4, c3, c2, c1]⟩
/-- feed: twenty bytes more, or none -/
theorem feed_l {o : Int32 × Hp} {b : Nat} (et : hR h x0 0 = some t) (eb : hR h t 0 = some b) (nb : ¬ b = t) (N : hN h b = 1200) (i0 : Rg 0 1200 (hI h t 1)) (e : sX11_feed h x0 x1 x2 x3 x4 x5 = some o) : ((hI h t 1).toInt + 20 ≤ 1200 ∧ o.1.toInt = (hI h t 1).toInt + 20 ∧ (hI o.2 t 1).toInt = (hI h t 1).toInt + 20 ∧ hR o.2 x0 0 = some t) ∨ (1200 < (hI h t 1).toInt + 20 ∧ o.1 = -104 ∧ o.2 = h) := by
  have l0 := i0.1
  have l1 := i0.2
  have z20 : (20 : Int32).toInt = 20 := rfl
  have z12 : (1200 : Int32).toInt = 1200 := rfl
  have t20 : ((hI h t 1) + (20 : Int32)).toInt = (hI h t 1).toInt + 20 := by rw [ta (by rw [z20]; omega), z20]
  unfold sX11_feed at e
  replace e := cl_s e
  obtain ⟨r1, e1, e⟩ := e
  have y1 : r1 = t := r_eq et e1
  subst y1
  replace e := br_s e
  rcases e with ⟨q, e⟩ | ⟨q, e⟩
  · have q := le_i q
    rw [t20, z12] at q
    refine Or.inl ⟨q, ?_⟩
    replace e := cl_s e
    obtain ⟨s1, f1, e⟩ := e
    have y : s1 = r1 := r_eq et f1
    subst y
    replace e := cl_s e
    obtain ⟨o1, g1, e⟩ := e
    obtain ⟨a1, b1, c1⟩ := appn_1 eb nb N (by omega) l0 g1
    replace e := cl_s e
    obtain ⟨s2, f2, e⟩ := e
    have y : s2 = s1 := by rw [b1] at f2; exact r_eq et f2
    subst y
    replace e := cl_s e
    obtain ⟨o2, g2, e⟩ := e
    obtain ⟨a2, b2, c2⟩ := appn_1 (by rw [b1]; exact eb) nb (by rw [c1]; exact N) (by omega) (by omega) g2
    replace e := cl_s e
    obtain ⟨s3, f3, e⟩ := e
    have y : s3 = s2 := by rw [b2, b1] at f3; exact r_eq et f3
    subst y
    replace e := cl_s e
    obtain ⟨o3, g3, e⟩ := e
    obtain ⟨a3, b3, c3⟩ := appn_1 (by rw [b2, b1]; exact eb) nb (by rw [c2, c1]; exact N) (by omega) (by omega) g3
    replace e := cl_s e
    obtain ⟨s4, f4, e⟩ := e
    have y : s4 = s3 := by rw [b3, b2, b1] at f4; exact r_eq et f4
    subst y
    replace e := cl_s e
    obtain ⟨o4, g4, e⟩ := e
    obtain ⟨a4, b4, c4⟩ := appn_1 (by rw [b3, b2, b1]; exact eb) nb (by rw [c3, c2, c1]; exact N) (by omega) (by omega) g4
    replace e := cl_s e
    obtain ⟨s5, f5, e⟩ := e
    have y : s5 = s4 := by rw [b4, b3, b2, b1] at f5; exact r_eq et f5
    subst y
    replace e := cl_s e
    obtain ⟨o5, g5, e⟩ := e
    obtain ⟨a5, b5, c5⟩ := appn_1 (by rw [b4, b3, b2, b1]; exact eb) nb (by rw [c4, c3, c2, c1]; exact N) (by omega) (by omega) g5
    replace e := cl_s e
    obtain ⟨s6, f6, e⟩ := e
    have f6' : hR h x0 0 = some s6 := by rw [b5, b4, b3, b2, b1] at f6; exact f6
    have y : s6 = s5 := r_eq et f6'
    subst y
    rw [← Option.some.inj e]
    exact ⟨by show (hI o5 s6 1).toInt = _; omega, by show (hI o5 s6 1).toInt = _; omega, f6⟩
  · have q := nle_i q
    rw [t20, z12] at q
    rw [← Option.some.inj e]
    exact Or.inr ⟨q, rfl, rfl⟩
theorem end_l {o : Int32 × Hp} (et : hR h x0 0 = some t) (e : sX11_end h x0 x1 = some o) : (0 ≤ x1.toInt ∧ x1.toInt ≤ (hI h t 1).toInt ∧ o.1 = x1 ∧ hI o.2 t 1 = x1 ∧ hR o.2 x0 0 = some t) ∨ (¬ (0 ≤ x1.toInt ∧ x1.toInt ≤ (hI h t 1).toInt) ∧ o.1 = -101 ∧ o.2 = h) := by
  unfold sX11_end sX11_end_15 at e
  replace e := br_s e
  rcases e with ⟨q, e⟩ | ⟨q, e⟩
  · have q := lt_i q
    have z0 : (0 : Int32).toInt = 0 := rfl
    rw [← Option.some.inj e]
    exact Or.inr ⟨by omega, rfl, rfl⟩
  have q := nlt_i q
  replace e := cl_s e
  obtain ⟨r2, e2, e⟩ := e
  have y : r2 = t := r_eq et e2
  subst y
  replace e := br_s e
  rcases e with ⟨l, e⟩ | ⟨l, e⟩
  · have l := le_i l
    replace e := cl_s e
    obtain ⟨r4, e4, e⟩ := e
    have y : r4 = r2 := r_eq et e4
    subst y
    replace e := nm_s e
    obtain ⟨h5, w5, e⟩ := e
    rw [← Option.some.inj e]
    exact Or.inl ⟨q, l, rfl, by show hI h5 r4 1 = x1; rw [w5, rI_s], by show hR h5 x0 0 = _; rw [w5]; exact et⟩
  · have l := nle_i l
    rw [← Option.some.inj e]
    exact Or.inr ⟨by omega, rfl, rfl⟩
/-- what feed and end answer, and leave: n the tape's length before -/
def FdQ (x0 : Nat) (n : Int) (o : Int32 × Hp) : Prop := ∀ t, hR o.2 x0 0 = some t → (n + 20 ≤ 1200 ∧ o.1.toInt = n + 20 ∧ (hI o.2 t 1).toInt = n + 20) ∨ (1200 < n + 20 ∧ o.1 = -104 ∧ (hI o.2 t 1).toInt = n)
def EdQ (x0 : Nat) (x1 : Int32) (n : Int) (o : Int32 × Hp) : Prop := ∀ t, hR o.2 x0 0 = some t → (0 ≤ x1.toInt ∧ x1.toInt ≤ n ∧ o.1 = x1 ∧ (hI o.2 t 1).toInt = x1.toInt) ∨ (¬ (0 ≤ x1.toInt ∧ x1.toInt ≤ n) ∧ o.1 = -101 ∧ (hI o.2 t 1).toInt = n)
theorem cw_feed (hF : 700000 ≤ F) (hp : hpC c) (hq : ∀ i, cPm c 49 2100 i = true) (T : TH ρ c h) (r0 : ρ x0 = 12) (I : ClI ρ c x0 h) (R : RmC x0 B h) (et : hR h x0 0 = some t) : Sat (sX11_feed h x0 x1 x2 x3 x4 x5) (fun o => CP ρ c x0 B (fun _ => True) o ∧ FdQ x0 (hI h t 1).toInt o) := sat_and (zX11_feed (c := cat c (fS [] [(2100, TXL)]) h) hF (fs_o (.head _)) (th_in _ T) r0 (rg_top _) (rg_top _) (rg_top _) (rg_top _) (rg_top _)) fun o e ho => by
  have T' := th_out T (fun k w i m => by
    unfold fS at m
    rw [Bool.or_eq_true, List.any_eq_true] at m
    rcases m with m | ⟨p, hp', hm⟩
    · simp [mS] at m
    · rw [Bool.and_eq_true, beq_iff_eq] at hm
      rw [List.mem_singleton] at hp'
      rw [hp'] at hm
      rw [hm.2]
      have m1 := hm.1
      unfold mS at m1
      rw [List.any_eq_true] at m1
      obtain ⟨q, hq', m2⟩ := m1
      rw [Bool.and_eq_true, beq_iff_eq, Bool.or_eq_true, beq_iff_eq, beq_iff_eq] at m2
      rw [List.mem_cons, List.mem_singleton] at hq'
      rcases hq' with z | z
      · rw [z] at m2; rw [← m2.1]; exact hq i
      · rw [z] at m2
        rcases m2.2 with y | y
        · exact absurd y (by decide)
        · rw [← m2.1, ← y]; exact hp.2.1 2100) ho.1
  have f := fr_u T ho.1.2.2
  obtain ⟨a, b⟩ := st_A rfl rfl T r0 f T' I R
  refine ⟨⟨ρ, c, exm_0, T', a, b, trivial⟩, fun t' et' => ?_⟩
  have y : t' = t := by
    rw [(frx f r0 (by decide) rfl rfl).2.2] at et'
    exact r_eq et et'
  subst y
  have rt : ρ t' = 10 := rr T (thR T r0 (i := 0) (k2 := 10) rfl (by decide)) et
  obtain ⟨bb, eb, rb⟩ := thR T rt (i := 0) (k2 := 49) rfl (by decide)
  rcases feed_l et eb (fun z => by rw [z, rt] at rb; exact absurd rb (by decide)) (R.2 t' bb et eb) (thI T rt (k := 10) (i := 1) rfl) e with ⟨q1, q2, q3, _⟩ | ⟨q1, q2, q3⟩
  · exact Or.inl ⟨q1, q2, q3⟩
  · exact Or.inr ⟨q1, q2, by rw [q3]⟩
theorem cw_end (hF : 700000 ≤ F) (hp : hpC c) (T : TH ρ c h) (r0 : ρ x0 = 12) (I : ClI ρ c x0 h) (R : RmC x0 B h) (et : hR h x0 0 = some t) : Sat (sX11_end h x0 x1) (fun o => CP ρ c x0 B (fun _ => True) o ∧ EdQ x0 x1 (hI h t 1).toInt o) := sat_and (zX11_end (c := cat c (fS [] [(2100, [(10, 1)])]) h) hF (fs_o (.head _)) (th_in _ T) r0 (rg_top _)) fun o e ho => by
  have T' := th_out T (fs_c1 hp rfl) ho.1
  have f := fr_u T ho.1.2.2
  obtain ⟨a, b⟩ := st_A rfl rfl T r0 f T' I R
  refine ⟨⟨ρ, c, exm_0, T', a, b, trivial⟩, fun t' et' => ?_⟩
  have y : t' = t := by
    rw [(frx f r0 (by decide) rfl rfl).2.2] at et'
    exact r_eq et et'
  subst y
  rcases end_l et e with ⟨q1, q2, q3, q4, _⟩ | ⟨q1, q2, q3⟩
  · exact Or.inl ⟨q1, q2, q3, by rw [q4]⟩
  · exact Or.inr ⟨q1, q2, by rw [q3]⟩
theorem hear_z {o : Int32 × Hp} (e : sX11_hear F h x0 x1 = some o) : TpZ x0 o.2 := by
  have z105 : ∀ {g : Hp} {v : Int32}, sX11_hear_105 F g x0 v = some o → TpZ x0 o.2 := fun {g v} e => by
    unfold sX11_hear_105 at e
    replace e := cl_s e
    obtain ⟨r1, e1, e⟩ := e
    replace e := cl_s e
    obtain ⟨o2, e2, e⟩ := e
    obtain ⟨q1, q2⟩ := clear_z e2
    rw [← Option.some.inj e]
    intro t' et'
    have : hR g x0 0 = some t' := by rw [← q2]; exact et'
    rw [r_eq e1 this]; exact q1
  have z94 : ∀ {g : Hp} {v u : Int32}, sX11_hear_94 F g x0 v u = some o → TpZ x0 o.2 := fun {g v u} e => by
    unfold sX11_hear_94 sX11_hear_104 at e
    replace e := br_s e
    rcases e with ⟨_, e⟩ | ⟨_, e⟩
    · exact z105 e
    · exact z105 e
  unfold sX11_hear at e
  replace e := cl_s e
  obtain ⟨o1, _, e⟩ := e
  replace e := br_s e
  rcases e with ⟨_, e⟩ | ⟨_, e⟩
  · exact z105 e
  replace e := cl_s e
  obtain ⟨_, _, e⟩ := e
  replace e := cl_s e
  obtain ⟨_, _, e⟩ := e
  replace e := cl_s e
  obtain ⟨_, _, e⟩ := e
  replace e := cl_s e
  obtain ⟨_, _, e⟩ := e
  replace e := cl_s e
  obtain ⟨_, _, e⟩ := e
  replace e := br_s e
  rcases e with ⟨_, e⟩ | ⟨_, e⟩
  · exact z105 e
  replace e := cl_s e
  obtain ⟨_, _, e⟩ := e
  replace e := cl_s e
  obtain ⟨_, _, e⟩ := e
  replace e := cl_s e
  obtain ⟨_, _, e⟩ := e
  replace e := br_s e
  rcases e with ⟨_, e⟩ | ⟨_, e⟩
  · replace e := cl_s e
    obtain ⟨_, _, e⟩ := e
    replace e := cl_s e
    obtain ⟨_, _, e⟩ := e
    replace e := cl_s e
    obtain ⟨_, _, e⟩ := e
    replace e := cl_s e
    obtain ⟨_, _, e⟩ := e
    replace e := cl_s e
    obtain ⟨_, _, e⟩ := e
    replace e := (gd_s e).2
    replace e := cl_s e
    obtain ⟨_, _, e⟩ := e
    replace e := cl_s e
    obtain ⟨_, _, e⟩ := e
    replace e := (gd_s e).2
    replace e := cl_s e
    obtain ⟨_, _, e⟩ := e
    replace e := br_s e
    rcases e with ⟨_, e⟩ | ⟨_, e⟩
    · exact z94 e
    · exact z94 e
  · exact z105 e
theorem cw_hear (hF : 700000 ≤ F) (hp : hpC c) (T : TH ρ c h) (r0 : ρ x0 = 12) (I : ClI ρ c x0 h) (R : RmC x0 B h) : Sat (sX11_hear F h x0 x1) (CP ρ c x0 B (TpZ x0)) := sat_and (zX11_hear (c := cat c (fS COL [(1503, SHL), (1802, SHL), (1803, TXL), (2100, [(10, 1)])]) h) hF fs_a (fs_o (.head _)) (fs_o (.tail _ (.head _))) (fs_o (.tail _ (.tail _ (.head _)))) (fs_o (.tail _ (.tail _ (.tail _ (.head _))))) (th_in _ T) r0 (rg_top _) I.1 I.2.1) fun o e ho => by
  have T' := th_out T (fs_c1 hp rfl) ho.1
  have f := fr_u T ho.1.2.2
  obtain ⟨a, b⟩ := st_A rfl rfl T r0 f T' I R
  exact ⟨ρ, c, exm_0, T', a, b, hear_z e⟩
end
