section
/-! say, worth, drop, feed, end of the reference -/
section
variable {zq : Nat} {ρ ρ1 : Nat → Nat} {c c1 : Cm} {h g : Hp} {S : Nat → Nat → Nat → Bool} {x0 a b k w i F : Nat} {B Bq : Nat × Nat} {lo hi : Int} {x1 x2 x3 x4 x5 : Int32}
theorem rw_say (hF : 700000 ≤ F) (hp : hpR c) (T : TH ρ c h) (r0 : ρ x0 = 16) (P : RfI x0 h) (M : RmR x0 B h) : Sat (sX15_say_ F h x0 x1 x2) (RP ρ c x0 B (TpR x0 h)) := rp_t (A := [(83, 999), (87, 999), (88, 999), (89, 999), (16, 3), (16, 23), (16, 24), (16, 29), (16, 36)]) (L := [(2528, bpL), (2530, mpL), (2531, mpL), (2535, bpL)]) hp rfl rfl (fun _ => rfl) T r0 P M (zX15_say_ hF fs_a (fs_o (.head _)) (fs_o (.tail _ (.head _))) (fs_o (.tail _ (.tail _ (.head _)))) (fs_o (.tail _ (.tail _ (.tail _ (.head _))))) (th_in _ T) r0 (rg_top _) (rg_top _) (rf_b P) P.1)
theorem rw_worth (hF : 700000 ≤ F) (hp : hpR c) (T : TH ρ c h) (r0 : ρ x0 = 16) (P : RfI x0 h) (M : RmR x0 B h) : Sat (sX15_worth F h x0 x1) (RP ρ c x0 B (TpR x0 h)) := rp_t (A := rwpL) (L := []) hp rfl rfl (fun _ => rfl) T r0 P M (s_imp (zX15_worth hF fs_a (th_in _ T) r0 (rf_b P) P.2.2.2.2.2.2.1) (fun o z => ⟨z.1, z.2.1⟩))
theorem has15_h {o : Int32 × Hp} (e : sX15_has h x0 x1 = some o) : o.2 = h := by
  unfold sX15_has sX15_has_23 sX15_has_24 at e
  replace e := br_s e; rcases e with ⟨_, e⟩ | ⟨_, e⟩
  · rw [← Option.some.inj (gd_s e).2]
  replace e := br_s e; rcases e with ⟨_, e⟩ | ⟨_, e⟩
  · rw [← Option.some.inj (gd_s e).2]
  replace e := cl_s e; obtain ⟨_, _, e⟩ := e
  replace e := (gd_s e).2
  replace e := br_s e; rcases e with ⟨_, e⟩ | ⟨_, e⟩
  · rw [← Option.some.inj (gd_s e).2]
  · rw [← Option.some.inj (gd_s e).2]
theorem drop_e {o : Int32 × Hp} (e : sX15_drop h x0 x1 = some o) : o.2 = h ∨ ∃ s, hR h x0 15 = some s ∧ o.2 = wI h s x1.toNatClampNeg (0 : Int32) := by
  unfold sX15_drop at e
  replace e := cl_s e; obtain ⟨o1, e1, e⟩ := e
  rw [has15_h e1] at e
  replace e := br_s e; rcases e with ⟨_, e⟩ | ⟨_, e⟩
  · rw [← Option.some.inj e]; exact Or.inl rfl
  replace e := cl_s e; obtain ⟨s, es, e⟩ := e
  replace e := (gd_s e).2
  replace e := nm_s e; obtain ⟨h5, w5, e⟩ := e
  rw [← Option.some.inj e]
  exact Or.inr ⟨s, es, w5⟩
theorem rw_drop (hF : 700000 ≤ F) (hp : hpR c) (T : TH ρ c h) (r0 : ρ x0 = 16) (P : RfI x0 h) (M : RmR x0 B h) : Sat (sX15_drop h x0 x1) (RP ρ c x0 B (TpR x0 h)) := by
  obtain ⟨o, eo, z⟩ := zX15_drop (c := cat c (fS [(85, 999)] []) h) (x1 := x1) hF fs_a (th_in _ T) r0 (rg_top _)
  have T' := th_out T (fs_r hp rfl) z.1
  have f := fr_u T z.1.2.2
  refine ⟨o, eo, ρ, c, ex_0, T', ?_, rmr_f T r0 f (T'.1.1.trans T.1.1.symm) (fun _ => rfl) (fun _ => rfl) (fun _ => rfl) (fun _ => rfl) (fun _ => rfl) (fun _ _ => rfl) (fun _ _ => rfl) (fun _ _ => rfl) (fun _ _ => rfl) M, (fr_RI f r0 (by decide) (fun _ => rfl)).1⟩
  refine rfi_p T r0 f P (fun _ => rfl) (fun _ => rfl) (fun _ => rfl) (Or.inr ?_) (Or.inl ⟨fun _ => rfl, fun _ _ => rfl, fun j _ => ⟨fun _ _ => rfl, fun _ => rfl, fun _ => rfl, fun _ => rfl⟩⟩) (Or.inl ⟨fun _ => rfl, fun _ => rfl, fun _ _ => rfl, fun _ _ => rfl⟩) (Or.inl ⟨fun _ => rfl, fun _ => rfl⟩) (Or.inl ⟨⟨fun _ => rfl, fun _ _ => rfl, fun j => ⟨fun _ _ => rfl, fun _ => rfl, fun _ => rfl, fun _ => rfl⟩⟩, ⟨fun _ => rfl, fun _ _ => rfl⟩, ⟨fun _ => rfl, fun _ _ => rfl⟩, fun _ => rfl⟩) (Or.inl ⟨fun _ => rfl, fun _ => rfl, fun _ => rfl, fun _ => rfl, fun _ => rfl, fun _ => rfl, fun _ => rfl, fun _ => rfl, fun _ => rfl, fun _ _ => rfl, fun _ _ => rfl, fun _ _ => rfl, fun _ _ => rfl, fun _ _ => rfl⟩) (nog_f T r0 f (fun _ => rfl) (fun _ _ _ => rfl) P.2.2.2.2.2.2.2)
  obtain ⟨B1, b1⟩ := P.2.1
  rcases drop_e eo with q | ⟨s, es, q⟩
  · rw [q]; exact ⟨B1, b1⟩
  · have qs := rr T (thR T r0 (i := 15) (k2 := 85) rfl (by decide)) es
    refine ⟨B1, fun r s' e1 e2 i hi hs => ?_, fun r e1 i j a b ne ea eb k hk M M' m1 m2 => ?_, fun r er => ?_⟩
    · rw [q] at e1 e2
      have y : s' = s := r_eq es e2
      subst y
      by_cases z : i = x1.toNatClampNeg
      · rw [q, z, rI_s] at hs
        exact absurd (by decide : (0 : Int32) ≤ 0) hs
      · rw [q, rI_o z] at hs
        obtain ⟨b, eb, pb⟩ := b1.1 r s' e1 e2 i hi hs
        have q1 := rr T (thR T r0 (i := 14) (k2 := 84) rfl (by decide)) e1
        exact ⟨b, by rw [q]; exact eb, pz_fr T (thRn T q1 (k2 := 13) rfl (by decide) eb) f (fun _ _ => rfl) (fun _ => rfl) (fun _ => rfl) (fun _ => rfl) pb⟩
    · rw [q] at e1 ea eb m1 m2
      exact b1.2.1 r e1 i j a b ne ea eb k hk M M' m1 m2
    · rw [q] at er ⊢
      exact b1.2.2 r er
def FdR (x0 : Nat) (n : Int) (o : Int32 × Hp) : Prop := (n + 20 ≤ 1200 ∧ o.1.toInt = n + 20 ∧ (hI o.2 x0 1).toInt = n + 20) ∨ (1200 < n + 20 ∧ o.1 = -104 ∧ (hI o.2 x0 1).toInt = n)
def EdR (x0 : Nat) (x1 : Int32) (n : Int) (o : Int32 × Hp) : Prop := (0 ≤ x1.toInt ∧ x1.toInt ≤ n ∧ o.1 = x1 ∧ (hI o.2 x0 1).toInt = x1.toInt) ∨ (¬ (0 ≤ x1.toInt ∧ x1.toInt ≤ n) ∧ o.1 = -101 ∧ (hI o.2 x0 1).toInt = n)
theorem feed_19 {t : Nat} (nt : ¬ x0 = t) : ∀ (f : Nat) {h : Hp} {x6 : Int32} {o : Int32 × Hp}, hR h x0 0 = some t → 0 ≤ x6.toInt → x6.toInt ≤ 20 → 0 ≤ (hI h x0 1).toInt → (hI h x0 1).toInt + (20 - x6.toInt) ≤ 1200 → sX15_feed_19 F f h x0 x1 x2 x3 x4 x5 x6 = some o → o.1.toInt = (hI h x0 1).toInt + (20 - x6.toInt) ∧ (hI o.2 x0 1).toInt = (hI h x0 1).toInt + (20 - x6.toInt) := by
  have z1 : (1 : Int32).toInt = 1 := rfl
  have z20 : (20 : Int32).toInt = 20 := rfl
  intro f
  induction f with
  | zero => intro h x6 o _ _ _ _ _ e; exact absurd e (by simp [sX15_feed_19])
  | succ f ih =>
    intro h x6 o et a6 l6 a1 l1 e
    have go : ∀ {t0 : Int32}, x6.toInt < 20 → sX15_feed_72 F (sX15_feed_19 F f) h x0 x1 x2 x3 x4 x5 x6 t0 = some o → o.1.toInt = (hI h x0 1).toInt + (20 - x6.toInt) ∧ (hI o.2 x0 1).toInt = (hI h x0 1).toInt + (20 - x6.toInt) := fun {t0} l e => by
      unfold sX15_feed_72 at e
      replace e := cl_s e; obtain ⟨t', et', e⟩ := e
      have y : t' = t := r_eq et et'
      subst y
      replace e := (gd_s e).2
      replace e := nm_s e; obtain ⟨h3, w3, e⟩ := e
      replace e := nm_s e; obtain ⟨h4, w4, e⟩ := e
      replace e := nm_s e; obtain ⟨v5, w5, e⟩ := e
      have t5 : v5.toInt = x6.toInt + 1 := by rw [w5, ta (by rw [z1]; omega), z1]
      have e4 : (hI h4 x0 1).toInt = (hI h x0 1).toInt + 1 := by
        rw [w4, rI_s, w3, rI_a nt, ta (by rw [z1]; omega), z1]
      obtain ⟨u1, u2⟩ := ih (h := h4) (by rw [w4, w3]; exact et) (by omega) (by omega) (by omega) (by omega) e
      omega
    unfold sX15_feed_19 at e
    replace e := br_s e; rcases e with ⟨l, e⟩ | ⟨l, e⟩
    · have l := le_i l
      rw [← Option.some.inj e]
      constructor <;> (show (hI h x0 1).toInt = _; omega)
    have l := nle_i l
    replace e := br_s e; rcases e with ⟨_, e⟩ | ⟨_, e⟩
    · replace e := br_s e; rcases e with ⟨_, e⟩ | ⟨_, e⟩
      · replace e := br_s e; rcases e with ⟨_, e⟩ | ⟨_, e⟩
        · replace e := br_s e; rcases e with ⟨_, e⟩ | ⟨_, e⟩
          · exact go (by omega) e
          · exact go (by omega) e
        · exact go (by omega) e
      · exact go (by omega) e
    · exact go (by omega) e
theorem rw_feed (hF : 700000 ≤ F) (hp : hpR c) (hq : ∀ w i, cPm c 82 w i = true) (T : TH ρ c h) (r0 : ρ x0 = 16) (P : RfI x0 h) (M : RmR x0 B h) : Sat (sX15_feed F h x0 x1 x2 x3 x4 x5) (fun o => RP ρ c x0 B (fun _ => True) o ∧ FdR x0 (hI h x0 1).toInt o) := by
  refine sat_and (rp_zs (A := [(82, 999), (16, 1)]) (L := []) (R := fun _ => True) (fun k w i m => by
    unfold fS at m
    rw [Bool.or_eq_true] at m
    rcases m with m | m
    · obtain ⟨j, hj, zz⟩ := mS_ex m
      rw [List.mem_cons, List.mem_singleton, Prod.mk.injEq, Prod.mk.injEq] at hj
      rcases hj with z | z
      · rw [z.1]; exact hq w i
      · rw [z.1]
        refine hp 16 w i rfl (fun y => ?_)
        rw [z.2] at zz
        have y2 := y.2
        omega
    · simp at m) rfl T r0 P M (s_zq (zX15_feed hF fs_a (th_in _ T) r0 (rg_top _) (rg_top _) (rg_top _) (rg_top _) (rg_top _))) (fun _ _ _ _ => trivial)) (fun o e z => ⟨z, ?_⟩)
  obtain ⟨t, et, qt⟩ := thR T r0 (i := 0) (k2 := 82) rfl (by decide)
  have i1 := thI T r0 (k := 16) (i := 1) (lo := 0) (hi := 1200) rfl
  have nt : ¬ x0 = t := fun y => by rw [← y, r0] at qt; exact absurd qt (by decide)
  have z20 : (20 : Int32).toInt = 20 := rfl
  have z0 : (0 : Int32).toInt = 0 := rfl
  have zb : (1200 : Int32).toInt = 1200 := rfl
  have a1 := i1.1
  have b1 := i1.2
  have tt : (hI h x0 1 + (20 : Int32)).toInt = (hI h x0 1).toInt + 20 := by rw [ta (by rw [z20]; omega), z20]
  unfold sX15_feed at e
  replace e := br_s e; rcases e with ⟨l, e⟩ | ⟨l, e⟩
  · have l := le_i l
    rw [tt, zb] at l
    obtain ⟨u1, u2⟩ := feed_19 nt F et (by decide) (by decide) a1 (by rw [z0]; omega) e
    rw [z0] at u1 u2
    exact Or.inl ⟨l, by omega, by omega⟩
  · have l := nle_i l
    rw [tt, zb] at l
    rw [← Option.some.inj e]
    exact Or.inr ⟨l, rfl, rfl⟩
theorem rw_end (hF : 700000 ≤ F) (hp : hpR c) (T : TH ρ c h) (r0 : ρ x0 = 16) (P : RfI x0 h) (M : RmR x0 B h) : Sat (sX15_end h x0 x1) (fun o => RP ρ c x0 B (fun _ => True) o ∧ EdR x0 x1 (hI h x0 1).toInt o) := by
  refine sat_and (rp_z (A := [(16, 1)]) (L := []) (R := fun _ => True) hp rfl rfl T r0 P M (s_zq (zX15_end hF fs_a (th_in _ T) r0 (rg_top _))) (fun _ _ _ _ => trivial)) (fun o e z => ⟨z, ?_⟩)
  have z0 : (0 : Int32).toInt = 0 := rfl
  unfold sX15_end sX15_end_12 at e
  replace e := br_s e; rcases e with ⟨l, e⟩ | ⟨l, e⟩
  · have l := lt_i l
    rw [← Option.some.inj e]
    exact Or.inr ⟨by omega, rfl, rfl⟩
  have l := nlt_i l
  replace e := br_s e; rcases e with ⟨l2, e⟩ | ⟨l2, e⟩
  · have l2 := le_i l2
    replace e := nm_s e; obtain ⟨h3, w3, e⟩ := e
    rw [← Option.some.inj e]
    refine Or.inl ⟨by omega, l2, rfl, ?_⟩
    show (hI h3 x0 1).toInt = _
    rw [w3, rI_s]
  · have l2 := nle_i l2
    rw [← Option.some.inj e]
    exact Or.inr ⟨by omega, rfl, rfl⟩
end
end
section
/-! told and figure of the reference: one thing a call -/
theorem nC_1 (h : Hp) (k n s : Nat) : (nC h k n s).1 = (h.1.1 + 1, h.1.2 + s) := rfl
section
variable {zq : Nat} {ρ ρ1 : Nat → Nat} {c c1 : Cm} {h g : Hp} {S : Nat → Nat → Nat → Bool} {x0 a b k w i F : Nat} {B Bq : Nat × Nat} {lo hi : Int} {x1 x2 x3 x4 x5 : Int32}
theorem told_1 {o : Int32 × Hp} (e : sX15_told F h x0 x1 = some o) : o.2.1 = (h.1.1 + 1, h.1.2 + 8) := by
  have b37 : ∀ {g : Hp} {x2 : Int32} {t : Nat}, sX15_told_37 F g x0 x1 x2 t = some o → o.2.1 = g.1 := fun {g x2 t} e => by
    unfold sX15_told_37 sX15_told_112 sX15_told_120 at e
    simp only [nm] at e
    replace e := (gd_s e).2
    replace e := (gd_s e).2
    replace e := cl_s e; obtain ⟨_, _, e⟩ := e
    replace e := (gd_s e).2
    replace e := cl_s e; obtain ⟨_, _, e⟩ := e
    replace e := (gd_s e).2
    replace e := cl_s e; obtain ⟨_, _, e⟩ := e
    replace e := (gd_s e).2
    replace e := (gd_s e).2
    replace e := (gd_s e).2
    replace e := (gd_s e).2
    replace e := br_s e; rcases e with ⟨_, e⟩ | ⟨_, e⟩
    · rw [← Option.some.inj e]; rfl
    replace e := br_s e; rcases e with ⟨_, e⟩ | ⟨_, e⟩
    · rw [← Option.some.inj (gd_s e).2]; rfl
    · rw [← Option.some.inj e]; rfl
  have lp : ∀ (f : Nat) {x2 x3 : Int32}, sX15_told_4 F f h x0 x1 x2 x3 = some o → o.2.1 = (h.1.1 + 1, h.1.2 + 8) := by
    intro f
    induction f with
    | zero => intro x2 x3 e; exact absurd e (by simp [sX15_told_4])
    | succ f ih =>
      intro x2 x3 e
      unfold sX15_told_4 sX15_told_25 at e
      simp only [nm] at e
      replace e := br_s e; rcases e with ⟨_, e⟩ | ⟨_, e⟩
      · rw [b37 e, nC_1]; rfl
      replace e := cl_s e; obtain ⟨_, _, e⟩ := e
      replace e := (gd_s e).2
      replace e := br_s e; rcases e with ⟨_, e⟩ | ⟨_, e⟩
      · exact ih e
      · exact ih e
  unfold sX15_told at e
  exact lp F e
theorem bitc_h {v : Int64} {o : Int32 × Hp} (e : sJ13_bitCount_95d88 h v = some o) : o.2 = h := by
  unfold sJ13_bitCount_95d88 at e
  simp only [nm] at e
  rw [← Option.some.inj e]
theorem figure_1 {o : Int32 × Hp} (e : sX15_figure F h x0 x1 x2 = some o) : o.2.1 = h.1 ∨ o.2.1 = (h.1.1 + 1, h.1.2 + 6) := by
  have b102 : ∀ {g : Hp} {y t0 t1 : Int32} {t2 t3 : Nat}, sX15_figure_102 F g y t0 t1 t2 t3 = some o → o.2.1 = g.1 := fun {g y t0 t1 t2 t3} e => by
    unfold sX15_figure_102 at e
    simp only [nm] at e
    replace e := (gd_s e).2
    replace e := (gd_s e).2
    rw [← Option.some.inj e]; rfl
  have b82 : ∀ {g : Hp} {y t0 t1 : Int32} {d t2 t3 : Nat}, sX15_figure_82 F g y d t0 t1 t2 t3 = some o → o.2.1 = g.1 := fun {g y t0 t1 d t2 t3} e => by
    unfold sX15_figure_82 at e
    replace e := (gd_s e).2
    replace e := nm_s e; obtain ⟨h2, w2, e⟩ := e
    have k2 : h2.1 = g.1 := by rw [w2]; rfl
    replace e := br_s e; rcases e with ⟨_, e⟩ | ⟨_, e⟩
    · rw [b102 e, k2]
    replace e := cl_s e; obtain ⟨_, _, e⟩ := e
    replace e := (gd_s e).2
    rw [b102 e, k2]
  have b41 : ∀ {g : Hp} {y : Int32} {d t : Nat}, sX15_figure_41 F g y d t = some o → o.2.1 = g.1 := fun {g y d t} e => by
    unfold sX15_figure_41 at e
    simp only [nm] at e
    replace e := (gd_s e).2
    replace e := (gd_s e).2
    replace e := cl_s e; obtain ⟨_, _, e⟩ := e
    replace e := (gd_s e).2
    replace e := (gd_s e).2
    replace e := cl_s e; obtain ⟨_, _, e⟩ := e
    replace e := (gd_s e).2
    replace e := (gd_s e).2
    replace e := cl_s e; obtain ⟨o13, e13, e⟩ := e
    have k13 := bitc_h e13
    rw [b82 e, k13]; rfl
  have b162 : ∀ (f : Nat) {y z5 z4 : Int32} {d : Nat}, sX15_figure_162 F f h x0 y d z4 z5 = some o → o.2.1 = h.1 := by
    intro f
    induction f with
    | zero => intro y z5 z4 d e; exact absurd e (by simp [sX15_figure_162])
    | succ f ih =>
      intro y z5 z4 d e
      unfold sX15_figure_162 sX15_figure_203 sX15_figure_194 at e
      simp only [nm] at e
      replace e := br_s e; rcases e with ⟨_, e⟩ | ⟨_, e⟩
      · rw [← Option.some.inj e]
      replace e := br_s e; rcases e with ⟨_, e⟩ | ⟨_, e⟩
      · replace e := cl_s e; obtain ⟨_, _, e⟩ := e
        replace e := (gd_s e).2
        replace e := br_s e; rcases e with ⟨_, e⟩ | ⟨_, e⟩
        · exact ih e
        · exact ih e
      · rw [← Option.some.inj e]
  have b116 : ∀ (f : Nat) {y z5 z4 : Int32} {d : Nat}, sX15_figure_116 F f h x0 y d z4 z5 = some o → o.2.1 = h.1 := by
    intro f
    induction f with
    | zero => intro y z5 z4 d e; exact absurd e (by simp [sX15_figure_116])
    | succ f ih =>
      intro y z5 z4 d e
      unfold sX15_figure_116 sX15_figure_159 at e
      simp only [nm] at e
      replace e := cl_s e; obtain ⟨_, _, e⟩ := e
      replace e := br_s e; rcases e with ⟨_, e⟩ | ⟨_, e⟩
      · exact b162 F e
      replace e := br_s e; rcases e with ⟨_, e⟩ | ⟨_, e⟩
      · exact b162 F e
      replace e := cl_s e; obtain ⟨_, _, e⟩ := e
      replace e := (gd_s e).2
      exact ih e
  unfold sX15_figure sX15_figure_10 at e
  replace e := br_s e; rcases e with ⟨_, e⟩ | ⟨_, e⟩
  · rw [← Option.some.inj e]; exact Or.inl rfl
  replace e := br_s e; rcases e with ⟨_, e⟩ | ⟨_, e⟩
  · replace e := cl_s e; obtain ⟨o3, e3, e⟩ := e
    rw [has15_h e3] at e
    unfold sX15_figure_18 at e
    replace e := br_s e; rcases e with ⟨_, e⟩ | ⟨_, e⟩
    · rw [← Option.some.inj e]; exact Or.inl rfl
    replace e := cl_s e; obtain ⟨_, _, e⟩ := e
    replace e := (gd_s e).2
    replace e := cl_s e; obtain ⟨_, _, e⟩ := e
    replace e := br_s e; rcases e with ⟨_, e⟩ | ⟨_, e⟩
    · exact Or.inl (b116 F e)
    · simp only [nm] at e
      rw [b41 e, nC_1]; exact Or.inr rfl
  · rw [← Option.some.inj e]; exact Or.inl rfl
/-- a call that makes one thing that nobody keeps -/
theorem rp_1 {m : Option (Int32 × Hp)} (T : TH ρ c h) (r0 : ρ x0 = 16) (P : RfI x0 h) (M : RmR x0 B h) (Z : Sat m (fun o => ∃ ρ' c', Ext ρ (cat c (fun _ _ _ => false) h) ρ' c' ∧ TH ρ' c' o.2 ∧ Rg lo hi o.1)) (K : ∀ o, m = some o → o.2.1.1 ≤ h.1.1 + 1 ∧ o.2.1.2 ≤ h.1.2 + 8) : Sat m (RP ρ c x0 (B.1 + 1, B.2 + 8) (TpR x0 h)) := by
  have Z2 : Sat m (MkI ρ (cat c (fun _ _ _ => false) h) lo hi (fun o => o.1.1 ≤ h.1.1 + 1 ∧ o.1.2 ≤ h.1.2 + 8)) := by
    obtain ⟨o, eo, ρ', c', X, T', r⟩ := Z
    exact ⟨o, eo, ρ', c', X, T', r, K o eo⟩
  refine rp_m (S := fun _ _ _ => false) (fun _ _ _ z => absurd z (by decide)) T Z2 (fun o ρ1 c1 X T1 f k => ?_)
  have hb : ∀ k w i, badR k w i = true → (fun (_ _ _ : Nat) => false) k w i = false := fun _ _ _ _ => rfl
  obtain ⟨na, ha⟩ := da_i T r0
  obtain ⟨nd, hd⟩ := dd_i T r0
  obtain ⟨ng, hg⟩ := dg_i T r0
  obtain ⟨nf, hf⟩ := df_i T r0
  have N := rm_i M ha hd hg hf
  refine ⟨rfi_f T r0 f hb P, rm_o (da_f T r0 f (fun _ => rfl) (fun _ _ => rfl) ha) (dd_f T r0 f (fun _ => rfl) (fun _ _ => rfl) hd) (dg_f T r0 f (fun _ => rfl) (fun _ _ => rfl) hg) (df_f T r0 f (fun _ => rfl) (fun _ _ => rfl) hf) ?_, (fr_RI f r0 (by decide) (fun _ => rfl)).1⟩
  rw [d52_f r0 f (fun _ => rfl)]
  show _ ≤ B.1 + 1 ∧ _ ≤ B.2 + 8
  omega
theorem rw_told (hF : 700000 ≤ F) (T : TH ρ c h) (r0 : ρ x0 = 16) (P : RfI x0 h) (M : RmR x0 B h) : Sat (sX15_told F h x0 x1) (RP ρ c x0 (B.1 + 1, B.2 + 8) (TpR x0 h)) := rp_1 T r0 P M (zX15_told hF (th_in _ T) r0 (rg_top _)) (fun o e => by rw [told_1 e]; exact ⟨Nat.le_refl _, Nat.le_refl _⟩)
theorem rw_figure (hF : 700000 ≤ F) (T : TH ρ c h) (r0 : ρ x0 = 16) (P : RfI x0 h) (M : RmR x0 B h) : Sat (sX15_figure F h x0 x1 x2) (RP ρ c x0 (B.1 + 1, B.2 + 8) (TpR x0 h)) := rp_1 T r0 P M (zX15_figure hF (th_in _ T) r0 (rg_top _) (rg_top _) (rf_b P)) (fun o e => by
  rcases figure_1 e with q | q <;> rw [q]
  · exact ⟨Nat.le_succ _, Nat.le_add_right _ _⟩
  · exact ⟨Nat.le_refl _, by show h.1.2 + 6 ≤ h.1.2 + 8; omega⟩)
end
end
section
/-! position and hear of the reference: the tape is empty behind them -/
section
variable {zq : Nat} {ρ ρ1 : Nat → Nat} {c c1 : Cm} {h g : Hp} {S : Nat → Nat → Nat → Bool} {x0 a b k w i F : Nat} {B Bq : Nat × Nat} {lo hi : Int} {x1 x2 x3 x4 x5 : Int32}
/-- the tape is emptied -/
theorem tp_w (hp : hpR c) (T : TH ρ c h) (r0 : ρ x0 = 16) (P : RfI x0 h) (M : RmR x0 B h) (T2 : TH ρ c g) (e : g = wI h x0 1 (0 : Int32)) : RfI x0 g ∧ RmR x0 B g ∧ hI g x0 1 = 0 := by
  have f := fr1I (c := c) (A := [(16, 1)]) (k := 16) r0 rfl e
  have hb := ok_bad (A := [(16, 1)]) (L := []) rfl
  exact ⟨rfi_f T r0 f hb P, rmr_f T r0 f (T2.1.1.trans T.1.1.symm) (fun _ => rfl) (fun _ => rfl) (fun _ => rfl) (fun _ => rfl) (fun _ => rfl) (fun _ _ => rfl) (fun _ _ => rfl) (fun _ _ => rfl) (fun _ _ => rfl) M, by rw [e, rI_s]⟩
abbrev heA : List (Nat × Nat) := [(83, 999), (87, 999), (88, 999), (89, 999), (98, 999), (16, 3), (16, 23), (16, 24), (16, 29), (16, 36)]
set_option maxRecDepth 20000 in
theorem rw_hear (hF : 700000 ≤ F) (hp : hpR c) (T : TH ρ c h) (r_x0 : ρ x0 = 16) (P : RfI x0 h) (M : RmR x0 B h) : Sat (sX15_hear F h x0 x1) (RP ρ c x0 B (fun o => hI o x0 1 = 0)) := by
  have i_x1 : Rg (-2147483648) (2147483647) (x1) := rg_top _
  unfold sX15_hear
  refine s_q (fun v_1 e_1 => ?_)
  have i_v_1 : Rg (0) (1200) (v_1) := by rw [e_1]; exact (thI T r_x0 (k := 16) (i := 1) rfl : Rg (0) (1200) (hI h x0 1))
  refine s_hq (th_wI T r_x0 (k := 16) (lo := (0)) (hi := (1200)) rfl ((rg_m (rg_b rfl : Rg (0) (0) ((0 : Int32))) (by decide)) : Rg (0) (1200) ((0 : Int32))) (by decide) (by decide) (hp 16 _ 1 rfl (fun z => absurd z.2 (by decide)))) (fun h_2 T2 w_3 => ?_)
  obtain ⟨P2, M2, z2⟩ := tp_w hp T r_x0 P M T2 w_3
  refine rp_z (A := heA) (L := [(2528, bpL), (2530, mpL), (2531, mpL), (2535, bpL)]) (lo := -102) (hi := 2999) (Q := fun _ => True) hp rfl rfl T2 r_x0 P2 M2 (s_zq ?_) (fun o _ f _ => by rw [(fr_RI f r_x0 (by decide) (fun _ => rfl)).1]; exact z2)
  have T_2 := th_in (c := c) (fS heA [(2528, bpL), (2530, mpL), (2531, mpL), (2535, bpL)]) T2
  have hA : pmA (cat c (fS heA [(2528, bpL), (2530, mpL), (2531, mpL), (2535, bpL)]) h_2) heA := fs_a
  have hi_2528 : pmO (cat c (fS heA [(2528, bpL), (2530, mpL), (2531, mpL), (2535, bpL)]) h_2) 2528 bpL := fs_o (.head _)
  have hi_2530 : pmO (cat c (fS heA [(2528, bpL), (2530, mpL), (2531, mpL), (2535, bpL)]) h_2) 2530 mpL := fs_o (.tail _ (.head _))
  have hi_2531 : pmO (cat c (fS heA [(2528, bpL), (2530, mpL), (2531, mpL), (2535, bpL)]) h_2) 2531 mpL := fs_o (.tail _ (.tail _ (.head _)))
  have hi_2535 : pmO (cat c (fS heA [(2528, bpL), (2530, mpL), (2531, mpL), (2535, bpL)]) h_2) 2535 bpL := fs_o (.tail _ (.tail _ (.tail _ (.head _))))
  have pf_4 : BdP x0 h_2 := rf_b P2
  have pf_5 : SqOk x0 h_2 := P2.1
  refine s_cIfq (S := fS [(87, 999), (88, 999), (89, 999), (16, 23), (16, 24), (16, 29)] [(2528, [(62, 999), (63, 999), (64, 999), (65, 999), (13, 1), (13, 2), (13, 3), (13, 7)]), (2530, [(66, 999), (67, 999), (68, 999), (69, 999), (70, 999), (71, 999), (72, 999), (14, 0)])]) T_2 (fs_sub (pmA_s hA rfl) (fs_c (pmO_s hi_2528 rfl) (fs_c (pmO_s hi_2530 rfl) fs_n))) (zX15_moves hF fs_a (fs_o (.head _)) (fs_o (.tail _ (.head _))) (th_in _ T_2) r_x0 i_x1 pf_4 pf_5) (fun o_3 T_6 i_o_3 f_o_3 p_o_3 => ?_)
  have pq_o_3_0 : o_3.1.toInt = -102 ∨ (0 ≤ (x1).toInt ∧ (x1).toInt ≤ 59) := p_o_3.1
  refine s_br (fun c_7 => ?_) (fun c_7 => ?_)
  · have _ := c_7
    have i_f_8 : Rg (-102) (-102) (o_3.1) := rg_eq c_7 (rg_b rfl : Rg (-102) (-102) ((- 102 : Int32)))
    exact s_some ⟨(T_6), (rg_m (rg_b rfl : Rg (-102) (-102) ((- 102 : Int32))) (by decide))⟩
  · have _ := c_7
    have i_f_9 : Rg (-101) (3000) (o_3.1) := rg_nlo c_7 i_o_3 (rg_b rfl : Rg (-102) (-102) ((- 102 : Int32)))
    refine s_q (fun v_5 e_10 => ?_)
    have i_v_5 : Rg (0) (256) (v_5) := by rw [e_10]; exact (thI T_6 r_x0 (k := 16) (i := 3) rfl : Rg (0) (256) (hI o_3.2 x0 3))
    obtain ⟨r_6, e_r_6, q_r_6⟩ := thR T_6 r_x0 (k := 16) (i := 2) (k2 := 83) rfl (by decide)
    refine s_ref e_r_6 ?_
    obtain ⟨r_7, e_r_7, q_r_7⟩ := thR T_6 r_x0 (k := 16) (i := 43) (k2 := 98) rfl (by decide)
    refine s_ref e_r_7 ?_
    refine s_gd (rg_nneg ((rg_m (rg_b rfl : Rg (0) (0) ((0 : Int32))) (by decide)) : Rg (0) (2147483647) ((0 : Int32))) (by decide)) ?_
    refine s_gd (rg_nneg ((rg_m (rg_b rfl : Rg (0) (0) ((0 : Int32))) (by decide)) : Rg (0) (2147483647) ((0 : Int32))) (by decide)) ?_
    refine s_gd (rg_nneg ((rg_m i_v_5 (by decide)) : Rg (0) (2147483647) (v_5)) (by decide)) ?_
    refine s_gd (g_len (rg_b rfl : Rg (0) (0) ((0 : Int32))) i_v_5 (thN T_6 q_r_6 (k := 83) (n := 256) rfl (by decide)) (by decide)) ?_
    refine s_gd (g_len (rg_b rfl : Rg (0) (0) ((0 : Int32))) i_v_5 (thN T_6 q_r_7 (k := 98) (n := 256) rfl (by decide)) (by decide)) ?_
    refine s_gd (fun i _ => fits_b (rg_m (thI T_6 q_r_6 (k := 83) (lo := (-128)) (hi := (127)) rfl) (by decide))) ?_
    refine s_hq (th_cpI T_6 q_r_6 q_r_7 (k0 := 83) (k := 98) (lo0 := (-128)) (hi0 := (127)) (lo := (-128)) (hi := (127)) (fun _ => rfl) (fun _ => rfl) (by decide) (by decide) (by decide) (fun _ => (pm_a hA rfl))) (fun h_14 T_11 w_12 => ?_)
    have pf_13 : BdP x0 h_14 := (bp_fr T_6 r_x0 (fr1C (A := [(98, 999)]) q_r_7 rfl w_12) (fun _ => rfl) (fun _ => rfl) (fun _ _ => rfl) (fun _ _ => rfl) rfl rfl rfl (fun _ => rfl) (fun _ => rfl) (bp_fr T_2 r_x0 f_o_3 (fun _ => rfl) (fun _ => rfl) (fun _ _ => rfl) (fun _ _ => rfl) rfl rfl rfl (fun _ => rfl) (fun _ => rfl) pf_4))
    have pf_14 : SqOk x0 h_14 := (sq_fr T_6 r_x0 (fr1C (A := [(98, 999)]) q_r_7 rfl w_12) (fun _ => rfl) (fun _ => rfl) (fun _ => rfl) (sq_fr T_2 r_x0 f_o_3 (fun _ => rfl) (fun _ => rfl) (fun _ => rfl) pf_5))
    have pf_15 : MvP x0 x1 h_14 := (mp_fr T_6 r_x0 (fr1C (A := [(98, 999)]) q_r_7 rfl w_12) (fun _ => rfl) (fun _ => rfl) (fun _ _ => rfl) rfl rfl rfl (fun _ => rfl) (fun _ => rfl) (fun _ => rfl) (fun _ => rfl) rfl rfl (fun _ => rfl) rfl rfl rfl rfl rfl rfl (fun _ => rfl) (fun _ => rfl) (fun _ => rfl) (fun _ => rfl) (fun _ => rfl) (p_o_3.2 (show ¬ o_3.1.toInt = -102 from (by have := (i_f_9 : Rg (-101) (3000) (o_3.1)).1; have := (i_f_9 : Rg (-101) (3000) (o_3.1)).2; have := (i_x1 : Rg (-2147483648) (2147483647) (x1)).1; have := (i_x1 : Rg (-2147483648) (2147483647) (x1)).2; have := ne_i c_7; have : ((- 102 : Int32)).toInt = -102 := rfl; omega))))
    have m_16 : Rg (0) (3000) ((0 : Int32)) := (rg_m (rg_b rfl : Rg (0) (0) ((0 : Int32))) (by decide))
    exact zX15_hear_48 hF (pmA_s hA rfl) (pmO_s hi_2528 rfl) (pmO_s hi_2531 rfl) (pmO_s hi_2535 rfl) F T_11 r_x0 i_x1 i_v_1 i_v_5 (rg_m (rg_b rfl : Rg (-1) (-1) ((- 1 : Int32))) (by decide)) (rg_m (rg_b rfl : Rg (0) (0) ((0 : Int32))) (by decide)) pf_13 pf_14 pf_15 (show 0 ≤ (x1).toInt ∧ (x1).toInt ≤ 59 from (by have := (i_x1 : Rg (-2147483648) (2147483647) (x1)).1; have := (i_x1 : Rg (-2147483648) (2147483647) (x1)).2; have := (i_f_9 : Rg (-101) (3000) (o_3.1)).1; have := (i_f_9 : Rg (-101) (3000) (o_3.1)).2; have := ne_i c_7; have : ((- 102 : Int32)).toInt = -102 := rfl; omega)) (by have := m_16.1; have := m_16.2; omega)
abbrev poA : List (Nat × Nat) := [(84, 999), (85, 999), (86, 999), (16, 16), (16, 17), (16, 18), (16, 19), (16, 20), (16, 23), (16, 24)]
theorem pos14_w {h2 : Hp} {v t0 : Int32} (hF : 700000 ≤ F) (hA : pmA c poA) (hi_2521 : pmO c 2521 [(62, 999), (63, 999), (64, 999), (65, 999), (13, 1), (13, 2), (13, 3), (13, 7)]) (hi_3400 : pmO c 3400 [(62, 999), (63, 999), (64, 999), (65, 999), (13, 1), (13, 2), (13, 3), (13, 7)]) (T2 : TH ρ c h2) (r0 : ρ x0 = 16) (iv : Rg 0 1200 v) (K2 : BdY zq Bq x0 h2 ∧ SqOk x0 h2 ∧ zq = 64) : Sat (sX15_position_14 F h2 x0 v t0) (MkI ρ c (-1400) 59 (BdY zq Bq x0)) := by
  have kp : ∀ {A : List (Nat × Nat)} {Bs : List (Nat × List (Nat × Nat))} {g g' : Hp}, TH ρ c g → TH ρ c g' → Fr ρ (cat c (fS A Bs) g) g g' → (∀ w i, i = 14 ∨ i = 15 ∨ i = 11 ∨ i = 12 ∨ i = 13 → fS A Bs 16 w i = false) → (∀ k w i, k = 84 ∨ k = 85 → fS A Bs k w i = false) → (∀ k i, k = 13 ∨ k = 62 ∨ k = 63 ∨ k = 64 → fS A Bs k 3400 i = false) → BdY zq Bq x0 g ∧ SqOk x0 g ∧ zq = 64 → BdY zq Bq x0 g' ∧ SqOk x0 g' ∧ zq = 64 := fun {A Bs g g'} Tg Tg' f s1 s2 s3 K => ⟨bdy_fr Tg r0 f (fun w => s1 w 14 (by omega)) (fun w => s1 w 15 (by omega)) (fun w i => s2 84 w i (by omega)) (fun w i => s2 85 w i (by omega)) (fun i _ => s3 13 i (by omega)) (fun i => s3 62 i (by omega)) (fun i => s3 63 i (by omega)) (fun i => s3 64 i (by omega)) K.1 Tg', sq_fr Tg r0 f (fun w => s1 w 11 (by omega)) (fun w => s1 w 12 (by omega)) (fun w => s1 w 13 (by omega)) K.2.1, K.2.2⟩
  unfold sX15_position_14
  refine s_br (fun _ => s_some ⟨ρ, c, ex_0, T2, rg_b rfl, K2.1⟩) (fun _ => ?_)
  obtain ⟨t, et, qt⟩ := thR T2 r0 (i := 0) (k2 := 82) rfl (by decide)
  refine s_ref et ?_
  obtain ⟨b, eb, qb⟩ := thR T2 r0 (i := 21) (k2 := 13) rfl (by decide)
  refine s_ref eb ?_
  have wb : cw c b = 2521 := th_id T2 r0 (w := 2521) eb rfl (by decide)
  refine s_cIfq (S := fS [(16, 17), (16, 18), (16, 19), (16, 20)] [(2521, [(62, 999), (63, 999), (64, 999), (65, 999), (13, 1), (13, 2), (13, 3), (13, 7)])]) T2 (fs_sub (pmA_s hA rfl) (fs_c hi_2521 fs_n)) (isPos_w hF fs_a (fs_o (.head _)) wb (th_in _ T2) r0 qt iv qb K2.2.1) (fun o4 T4 i4 f4 P4 => ?_)
  have K4 := kp T2 T4 f4 (fun w i hi => by rcases hi with z | z | z | z | z <;> subst z <;> rfl) (fun k w i hk => by rcases hk with z | z <;> subst z <;> rfl) (fun k i hk => by rcases hk with z | z | z | z <;> subst z <;> exact fs_cf (Or.inr (by decide)) (fs_nf rfl)) K2
  unfold sX15_position_34
  refine s_br (fun _ => ?_) (fun n4 => ?_)
  · refine s_some ⟨ρ, c, ex_0, T4, ?_, K4.1⟩
    exact rg_m (rg_sub (rg_b rfl : Rg (-200) (-200) (-200 : Int32)) (thI T4 r0 (i := 19) rfl : Rg 0 1200 (hI o4.2 x0 19)) (by decide) : Rg (-1400) (-200) ((-200 : Int32) - hI o4.2 x0 19)) (by decide)
  obtain ⟨H, eH, sH4, jO⟩ := P4.resolve_left n4
  have eb4 : hR o4.2 x0 21 = some b := by rw [(fr_RI f4 r0 (by decide) (fun _ => rfl)).2.2]; exact eb
  refine s_ref eb4 ?_
  refine s_cIfq (S := fS [(86, 999), (16, 23), (16, 24)] []) T4 (fs_sub (pmA_s hA rfl) fs_n) (s_weq2 (zX15_wrongOf hF fs_a wb (th_in _ T4) r0 qb)) (fun o5 T5 i5 f5 P5 => ?_)
  have K5 := kp T4 T5 f5 (fun w i hi => by rcases hi with z | z | z | z | z <;> subst z <;> rfl) (fun k w i hk => by rcases hk with z | z <;> subst z <;> rfl) (fun k i hk => by rcases hk with z | z | z | z <;> subst z <;> rfl) K4
  unfold sX15_position_54 sX15_position_73
  refine s_br (fun l5 => ?_) (fun n5 => ?_)
  · have eb5 : hR o5.2 x0 21 = some b := by rw [(fr_RI f5 r0 (by decide) (fun _ => rfl)).2.2]; exact eb4
    refine s_ref eb5 ?_
    obtain ⟨M, eM, rM⟩ := thR T4 qb (i := 0) (k2 := 62) rfl (by decide)
    obtain ⟨P, eP, rP⟩ := thR T4 qb (i := 4) (k2 := 63) rfl (by decide)
    have V := wrong_w T4 r0 qb K4.2.1 eM eP P5.2 l5
    unfold VR at V
    have c13 : (hI o4.2 x0 13).toNatClampNeg ≤ 64 := by
      have i13 := thI T4 r0 (k := 16) (i := 13) (lo := 9) (hi := 64) rfl
      have := nc_i (x := hI o4.2 x0 13) (by have := i13.1; omega)
      have := i13.2
      omega
    rw [← crt_hi 64 c13 jO, ← K4.2.2] at V
    have W4 : WrE zq b o4.2 := ⟨fun M' H' m1 m2 => by
      have y : H' = H := r_eq eH m2
      subst y
      have := mc_le (hI o4.2 M') 64
      unfold tot
      omega, V.1, V.2.1, fun n M' P' m1 m2 => by
      have y1 : M' = M := r_eq eM m1
      have y2 : P' = P := r_eq eP m2
      subst y1; subst y2
      exact V.2.2 n⟩
    have W5 : WrE zq b o5.2 := wr_fr T4 qb f5 (fun _ _ => rfl) (fun _ => rfl) (fun _ => rfl) (fun _ => rfl) W4
    have pe5 : PE b o5.2 := P5.1 (by have := le_i l5; have z0 : (0 : Int32).toInt = 0 := rfl; have := i5.1; omega)
    obtain ⟨o7, e7, ρ7, c7, X7, T7, j7, bd7⟩ := keep_y (F := F) hF (pmA_s hA rfl) hi_3400 wb T5 r0 qb K5.1 ⟨pe5, W5⟩
    exact s_val e7 (s_some ⟨ρ7, c7, X7, T7, rg_m j7 (by decide), bd7⟩)
  · refine s_some ⟨ρ, c, ex_0, T5, ?_, K5.1⟩
    exact rg_m (rg_sub (rg_b rfl : Rg 0 0 (0 : Int32)) i5 (by decide) : Rg (-8) 0 ((0 : Int32) - o5.1)) (by decide)
theorem rw_position (hF : 700000 ≤ F) (hp : hpR c) (T : TH ρ c h) (r0 : ρ x0 = 16) (P : RfI x0 h) (M : RmR x0 B h) : Sat (sX15_position F h x0) (RP ρ c x0 B (fun o => hI o x0 1 = 0)) := by
  unfold sX15_position
  refine s_q (fun v ev => ?_)
  have iv : Rg 0 1200 v := by rw [ev]; exact thI T r0 rfl
  refine s_hq (th_wI T r0 (k := 16) (lo := 0) (hi := 1200) rfl (rg_m (rg_b rfl : Rg 0 0 (0 : Int32)) (by decide)) (by decide) (by decide) (hp 16 _ 1 rfl (fun z => absurd z.2 (by decide)))) (fun h2 T2 w2 => ?_)
  obtain ⟨P2, M2, z2⟩ := tp_w hp T r0 P M T2 w2
  refine s_dI0 (zX15_freePlace hF T2 r0) (fun o3 e3 e3' i3 => ?_)
  rw [e3']
  have ob : ∀ w, w ≠ 3400 → w ≠ 2521 → ∀ k i, (k = 13 ∨ k = 62 ∨ k = 63 ∨ k = 64) → fS poA [(2521, bpL), (3400, bpL)] k w i = false := fun w h1 h2 k i hk => fs_cf (Or.inr h2) (fs_cf (Or.inr h1) (by rcases hk with z | z | z | z <;> subst z <;> rfl))
  exact rp_b (S := fS poA [(2521, bpL), (3400, bpL)]) (R := fun _ => True) (fs_r hp rfl) (fun _ => rfl) (fun _ => rfl) (fun _ => rfl) (fun _ => rfl) ⟨fun _ => rfl, fun _ _ => rfl, fun j _ => ⟨fun i _ => ob _ (by omega) (by omega) _ _ (by omega), fun i => ob _ (by omega) (by omega) _ _ (by omega), fun i => ob _ (by omega) (by omega) _ _ (by omega), fun i => ob _ (by omega) (by omega) _ _ (by omega)⟩⟩ ⟨fun _ => rfl, fun _ => rfl, fun _ _ => rfl, fun _ _ => rfl⟩ ⟨fun _ => rfl, fun _ => rfl⟩ ⟨⟨fun _ => rfl, fun _ _ => rfl, fun j => ⟨fun i _ => ob _ (by omega) (by omega) _ _ (by omega), fun i => ob _ (by omega) (by omega) _ _ (by omega), fun i => ob _ (by omega) (by omega) _ _ (by omega), fun i => ob _ (by omega) (by omega) _ _ (by omega)⟩⟩, ⟨fun _ => rfl, fun _ _ => rfl⟩, ⟨fun _ => rfl, fun _ _ => rfl⟩, fun _ => rfl⟩ ⟨fun _ => rfl, fun _ => rfl, fun _ => rfl, fun _ => rfl, fun _ => rfl, fun _ => rfl, fun _ => rfl, fun _ => rfl, fun _ => rfl, fun _ _ => rfl, fun _ _ => rfl, fun _ _ => rfl, fun _ _ => rfl, fun _ _ => rfl⟩ T2 r0 P2 M2 (fun Bq G => mk_t (pos14_w hF fs_a (fs_o (.head _)) (fs_o (.tail _ (.head _))) (th_in _ T2) r0 iv ⟨G, P2.1, rfl⟩)) (fun o f _ => by rw [(fr_RI f r0 (by decide) (fun _ => rfl)).1]; exact z2)
end
end
section
/-! solve of the reference: masks are paid for ahead, the tape is empty behind it -/
abbrev soB : List (Nat × Nat) := [(16, 49), (16, 50), (16, 59), (99, 999), (100, 999), (101, 999), (102, 999), (103, 999), (104, 999), (105, 999), (106, 999), (107, 999), (108, 999), (109, 999), (110, 999), (86, 999), (87, 999), (88, 999), (89, 999), (16, 23), (16, 24), (16, 29), (16, 62), (16, 63)]
abbrev soC : List (Nat × Nat) := (16, 52) :: soB
abbrev soL : List (Nat × List (Nat × Nat)) := [(2560, bS7), (2528, bL8), (2530, lL8)]
section
variable {ρ : Nat → Nat} {c : Cm} {x0 rm re rb rk rs ro rp rt rw mb R Bc Bm F : Nat} {h : Hp} {a : Int} {y : Int32}
/-- with its masks at 0 a solution may begin -/
theorem so_masksB {km : Nat} (hF : 2000000 ≤ F) (hA : pmA c soB) (hS : pmO c 2560 bS7) (hB : pmO c 2528 bL8) (hL : pmO c 2530 lL8) (T : TH ρ c h) (SR : SlR ρ x0 rm re rb rk rs ro h) (re' : hR h x0 58 = some rp ∧ hR h x0 61 = some rt ∧ hR h x0 51 = some rw ∧ hR h x0 53 = some mb ∧ hR h x0 52 = some km ∧ hR h x0 4 = some R ∧ hR h R 13 = some Bc ∧ hR h R 14 = some Bm) (rl : ρ rp = 109 ∧ ρ rt = 110 ∧ ρ rw = 102 ∧ ρ mb = 104 ∧ ρ km = 103 ∧ ρ R = 15 ∧ ρ Bc = 80 ∧ ρ Bm = 81) (P : SE x0 h) (A : AllS x0 rm re rs rk R Bc Bm h) (D : MBd x0 (hI h x0 49).toInt y.toInt h) (iy : Rg 0 1500000 y) (sq : SqOk x0 h) (hz : hI h R 15 = 0) (l1 : 1 ≤ (hI h x0 49).toInt) : Sat (sX15_solve_304 F h x0 y) (fun o => TH ρ c o.2 ∧ EnR x0 o.2) := by
  unfold sX15_solve_304
  have z0 : (0 : Int32).toInt = 0 := rfl
  have hs : ∀ k w i, fS [(103, 999), (105, 999)] [] k w i = true → cPm c k w i = true := fs_sub (pmA_s hA rfl) fs_n
  refine so_307 (c := cat c (fS [(103, 999), (105, 999)] []) h) (h0 := h) (rk := km) (by omega) fs_a SR.1.1 rl.2.2.2.2.1 re'.2.2.2.2.1 iy (fun o To E Z => ?_) F (th_in _ T) ⟨fun _ _ => rfl, fun _ _ => rfl⟩ (by decide) (by rw [z0]; exact iy.1) (fun i hi => absurd hi (by rw [z0]; omega)) (by rw [z0]; omega)
  have T1 := th_out T hs To
  have K : Kf ρ [(103, 999), (105, 999)] h o := kf_of (fr_u T To.2.2) rfl
  obtain ⟨⟨r0, qm, qe, qb, qk, qs, qo⟩, ⟨e46, e47, e48, e55, e56, e57⟩⟩ := SR
  obtain ⟨e58, e61, e51, e53, e52, e4, e13, e14⟩ := re'
  obtain ⟨qp, qt, qw, qmb, qkm, qR, qBc, qBm⟩ := rl
  have D1 : MBd x0 (hI o x0 49).toInt y.toInt o := by
    intro rm' rb' em' eb' k hk
    rw [kfR 46 K r0] at em'
    rw [kfR 53 K r0] at eb'
    rw [kfI 49 K r0] at hk
    have hz1 := r_eq e46 em'
    subst hz1
    have hz1 := r_eq e53 eb'
    subst hz1
    rw [kfI 13 K r0, kfI 49 K r0]
    simp only [kfI _ K qm, kfI _ K qmb]
    exact D rm' rb' em' eb' k hk
  have e46' : hR o x0 46 = some rm := by rw [kfR 46 K r0]; exact e46
  have e53' : hR o x0 53 = some mb := by rw [kfR 53 K r0]; exact e53
  have G1 : MkG x0 rm mb re km R o := by
    intro set q j t l1 p1 w1 h1 t64 bt
    exfalso
    obtain ⟨b1, b2, _⟩ := mkx_b (rb := mb) (re := re) (thI T1 qm (k := 99) (i := set) (lo := 0) (hi := 5) rfl) p1 w1 h1
    have d1 := (D1 rm mb e46' e53' set l1).1
    have ib := (thI T1 qmb (k := 104) (i := set) (lo := 0) (hi := 1500000) rfl).1
    rw [Z _ (by omega)] at bt
    have : bitJ (0 : Int64) t = false := BitVec.getLsbD_zero
    rw [this] at bt
    exact absurd bt (by decide)
  have W1 : WkP ρ x0 rm re rb rk rs ro rp rt rw mb km R Bc Bm y.toInt o := ⟨⟨⟨r0, qm, qe, qb, qk, qs, qo⟩, ⟨e46', by rw [kfR 47 K r0]; exact e47, by rw [kfR 48 K r0]; exact e48, by rw [kfR 55 K r0]; exact e55, by rw [kfR 56 K r0]; exact e56, by rw [kfR 57 K r0]; exact e57⟩⟩, ⟨by rw [kfR 58 K r0]; exact e58, by rw [kfR 61 K r0]; exact e61, by rw [kfR 51 K r0]; exact e51, e53', by rw [kfR 52 K r0]; exact e52, by rw [kfR 4 K r0]; exact e4, by rw [kfR 13 K qR]; exact e13, by rw [kfR 14 K qR]; exact e14⟩, ⟨qp, qt, qw, qmb, qkm, qR, qBc, qBm⟩, se_k K r0 qm qe qb qk qs e46 e47 e48 e55 e56 P, alls_of (kfI 49 K r0) (fun i => kfI i K qm) (fun i => kfI i K qe) (fun i => kfI i K qs) (fun i => kfI i K qk) (kfI 10 K qR) (fun i => kfI i K qBc) (fun i => kfI i K qBm) A, D1, iy.2, G1⟩
  exact so_357 hF (pmA_s hA rfl) hS hB hL F T1 W1 (by unfold SqOk; rw [kfI 13 K r0, kfI 11 K r0, kfI 12 K r0]; exact sq) (by rw [kfI 15 K qR]; exact hz) (by rw [kfI 49 K r0]; exact l1) (by decide) (by rw [z0]; omega)
end
/-- masks: made once -/
def PM (x0 : Nat) (h o : Hp) : Prop := (o.1 = h.1 ∧ hR o x0 52 = hR h x0 52) ∨ (hR h x0 52 = none ∧ o.1 = (h.1.1 + 1, h.1.2 + 1500000) ∧ ∃ k, hR o x0 52 = some k)
section
variable {ρ : Nat → Nat} {c : Cm} {x0 F : Nat} {h h2 : Hp} {B : Nat × Nat} {v1 : Int32}
theorem solve_r (hF : 2000000 ≤ F) (hA : pmA c soC) (hS : pmO c 2560 bS7) (hB : pmO c 2528 bL8) (hL : pmO c 2530 lL8) (T : TH ρ c h2) (r0 : ρ x0 = 16) (sq : SqOk x0 h2) (N : EnR x0 h2) (iv1 : Rg 0 1200 v1) : Sat (cl (hR h2 x0 4) fun r_3 => br ((hI h2 r_3 15) = 0) (cl (hR h2 x0 4) fun r_5 => br ((hI h2 r_5 18) = 0) (cl (hR h2 x0 4) fun r_7 => br (0 < (hI h2 r_7 20)) (sX15_solve_47 F h2 ) (cl (sX15_hasCatches F h2 x0) fun o_9 => sX15_solve_44 F o_9.2 x0 v1 o_9.1)) (sX15_solve_47 F h2 )) (sX15_solve_47 F h2 )) (MkI ρ c (-2147483648) 2147483647 (fun o => EnR x0 o ∧ PM x0 h2 o)) := by
  unfold sX15_solve_47 sX15_solve_44
  obtain ⟨rm, e46, qm⟩ := thR T r0 (i := 46) (k2 := 99) rfl (by decide)
  obtain ⟨re, e47, qe⟩ := thR T r0 (i := 47) (k2 := 100) rfl (by decide)
  obtain ⟨rb, e48, qb⟩ := thR T r0 (i := 48) (k2 := 101) rfl (by decide)
  obtain ⟨rk, e55, qk⟩ := thR T r0 (i := 55) (k2 := 106) rfl (by decide)
  obtain ⟨rs, e56, qs⟩ := thR T r0 (i := 56) (k2 := 107) rfl (by decide)
  obtain ⟨ro, e57, qo⟩ := thR T r0 (i := 57) (k2 := 108) rfl (by decide)
  obtain ⟨rp, e58, qp⟩ := thR T r0 (i := 58) (k2 := 109) rfl (by decide)
  obtain ⟨rt, e61, qt⟩ := thR T r0 (i := 61) (k2 := 110) rfl (by decide)
  obtain ⟨rw', e51, qw⟩ := thR T r0 (i := 51) (k2 := 102) rfl (by decide)
  obtain ⟨mb, e53, qmb⟩ := thR T r0 (i := 53) (k2 := 104) rfl (by decide)
  obtain ⟨R, e4, qR⟩ := thR T r0 (i := 4) (k2 := 15) rfl (by decide)
  obtain ⟨Bc, e13, qBc⟩ := thR T qR (i := 13) (k2 := 80) rfl (by decide)
  obtain ⟨Bm, e14, qBm⟩ := thR T qR (i := 14) (k2 := 81) rfl (by decide)
  have z0 : (0 : Int32).toInt = 0 := rfl
  -- where nothing has been solved anew
  have keep : ∀ {o : Hp}, TH ρ c o → Kf ρ [(108, 999)] h2 o → ∀ v, MkI ρ c (-2147483648) 2147483647 (fun o => EnR x0 o ∧ PM x0 h2 o) (v, o) := fun {o} To Ko v => ⟨ρ, c, ex_0, To, rg_top _, fun nz => by
    show SE x0 o ∧ _
    have nz' : ¬ hI h2 x0 50 = 0 := by rw [← kfI 50 Ko r0]; exact nz
    obtain ⟨P, l⟩ := N nz'
    exact ⟨se_k Ko r0 qm qe qb qk qs e46 e47 e48 e55 e56 P, by rw [kfI 49 Ko r0]; exact l⟩, Or.inl ⟨To.1.1.trans T.1.1.symm, kfR 52 Ko r0⟩⟩
  have e4' : hR h2 x0 4 = some R := e4
  refine s_ref e4' ?_
  refine s_br (fun hz => ?_) (fun _ => s_some (keep T kf_r _))
  refine s_ref e4' ?_
  refine s_br (fun _ => ?_) (fun _ => s_some (keep T kf_r _))
  refine s_ref e4' ?_
  refine s_br (fun _ => s_some (keep T kf_r _)) (fun _ => ?_)
  refine s_cl (s_imp (zX15_hasCatches (by omega) T r0) (fun o9 ⟨e9, i9⟩ => ?_))
  rw [e9]
  refine s_br (fun _ => ?_) (fun _ => s_some (keep T kf_r _))
  -- the letters
  have hs1 : ∀ k w i, fS [(108, 999)] [] k w i = true → cPm c k w i = true := fs_sub (pmA_s hA rfl) fs_n
  refine so_54 (c := cat c (fS [(108, 999)] []) h2) (by omega) fs_a r0 iv1 (fun o v To => keep (th_out T hs1 To) (kf_of (fr_u T To.2.2) rfl) v) (fun o To W i15 => ?_) F (th_in _ T) (rg_m (rg_b rfl : Rg 0 0 (0 : Int32)) (by decide)) (by rw [z0]; exact iv1.1) (fun _ _ i hi => absurd hi (by rw [z0]; omega)) (by rw [z0]; omega)
  have T3 := th_out T hs1 To
  have K3 : Kf ρ [(108, 999)] h2 o := kf_of (fr_u T To.2.2) rfl
  refine s_hq (th_wI T3 r0 (k := 16) (i := 49) (lo := 0) (hi := 4096) rfl (rg_m (rg_b rfl : Rg 0 0 (0 : Int32)) (by decide)) (by decide) (by decide) (pm_a hA rfl)) (fun h4 T4 w4 => ?_)
  refine s_hq (th_wJ T4 (k := 16) (i := 59) r0 (by decide) (pm_a hA rfl)) (fun h5 T5 w5 => ?_)
  refine s_hq (th_wI T5 r0 (k := 16) (i := 50) (lo := 0) (hi := 4096) rfl (rg_m (rg_b rfl : Rg 0 0 (0 : Int32)) (by decide)) (by decide) (by decide) (pm_a hA rfl)) (fun h6 T6 w6 => ?_)
  have K6 : Kf ρ [(108, 999), (16, 49), (16, 50), (16, 59)] h2 h6 := kf_t (kf_m K3 rfl) (kf_t (kf_wI w4 r0) (kf_t (kf_wJ w5 r0) (kf_wI w6 r0)))
  have x49 : hI h6 x0 49 = 0 := by
    rw [w6, r_I, if_neg (fun w => absurd w.2 (by decide)), w5]
    show hI h4 x0 49 = 0
    rw [w4, r_I, if_pos ⟨rfl, rfl⟩]
  have x59 : hJ h6 x0 59 = 0 := by
    rw [w6]
    show hJ h5 x0 59 = 0
    rw [w5, r_J, if_pos ⟨rfl, rfl⟩]
  have x50 : hI h6 x0 50 = 0 := by rw [w6, r_I, if_pos ⟨rfl, rfl⟩]
  have SR6 : SlR ρ x0 rm re rb rk rs ro h6 := ⟨⟨r0, qm, qe, qb, qk, qs, qo⟩, ⟨by rw [kfR 46 K6 r0]; exact e46, by rw [kfR 47 K6 r0]; exact e47, by rw [kfR 48 K6 r0]; exact e48, by rw [kfR 55 K6 r0]; exact e55, by rw [kfR 56 K6 r0]; exact e56, by rw [kfR 57 K6 r0]; exact e57⟩⟩
  have W6 : RW x0 v1.toInt h6 := fun ro' er i hi => by
    rw [kfR 57 K6 r0] at er
    have hz1 := r_eq e57 er
    subst hz1
    rw [w6, r_I, if_neg (ne_r qo r0 (by decide)), w5]
    show 1 ≤ (hI h4 ro' i).toInt
    rw [w4, r_I, if_neg (ne_r qo r0 (by decide))]
    exact W ro' (by rw [kfR 57 K3 r0]; exact e57) i hi
  have hs3 : ∀ k w i, fS seL [] k w i = true → cPm c k w i = true := fs_sub (pmA_s hA rfl) fs_n
  refine so2_203 (c := cat c (fS seL []) h6) (h0 := h6) (Bc := Bc) (Bm := Bm) (R := R) (by omega) fs_a SR6 (by rw [kfR 4 K6 r0]; exact e4) (by rw [kfR 13 K6 qR]; exact e13) (by rw [kfR 14 K6 qR]; exact e14) qR i15 (fun o v To z => ⟨ρ, c, ex_0, th_out T6 hs3 To, rg_top _, fun nz => absurd z nz, Or.inl ⟨(th_out T6 hs3 To).1.1.trans T.1.1.symm, by rw [(fr_RI (fr_u T6 To.2.2) r0 (by decide) (fun _ => rfl)).2.2, kfR 52 K6 r0]⟩⟩) (fun o7 T7q K67 P7 A7 l7 z7 => ?_) F (th_in _ T6) kf_r (by rw [x49]; rfl) (by rw [x59]; rfl) x50 W6 (by decide) (fun j hj => absurd hj (by rw [z0]; omega)) (by rw [z0]; omega)
  have T7 := th_out T6 hs3 T7q
  -- the masks
  have hs2 : ∀ k w i, fS [(104, 999)] [] k w i = true → cPm c k w i = true := fs_sub (pmA_s hA rfl) fs_n
  refine so_246 (c := cat c (fS [(104, 999)] []) o7) (n0 := (hI o7 x0 49).toInt) (by omega) fs_a r0 (fun o8 y To8 P8 n8 _ D8 iy => ?_) F (th_in _ T7) P7 rfl (by decide) (by rw [z0]; omega) (by decide) (fun rb' erb => ?_) (fun _ _ _ _ k hk => absurd hk (by rw [z0]; omega)) (fun _ _ _ _ k hk => absurd hk (by rw [z0]; omega)) (by rw [z0]; omega)
  · have T8 := th_out T7 hs2 To8
    have K78 : Kf ρ [(104, 999)] o7 o8 := kf_of (fr_u T7 To8.2.2) rfl
    have K8 : Kf ρ soB h2 o8 := kf_t (kf_m K6 rfl) (kf_t (kf_m K67 rfl) (kf_m K78 rfl))
    have A8 : AllS x0 rm re rs rk R Bc Bm o8 := alls_of (kfI 49 K78 r0) (fun i => kfI i K78 qm) (fun i => kfI i K78 qe) (fun i => kfI i K78 qs) (fun i => kfI i K78 qk) (kfI 10 K78 qR) (fun i => kfI i K78 qBc) (fun i => kfI i K78 qBm) A7
    have SR8 : SlR ρ x0 rm re rb rk rs ro o8 := ⟨⟨r0, qm, qe, qb, qk, qs, qo⟩, ⟨by rw [kfR 46 K8 r0]; exact e46, by rw [kfR 47 K8 r0]; exact e47, by rw [kfR 48 K8 r0]; exact e48, by rw [kfR 55 K8 r0]; exact e55, by rw [kfR 56 K8 r0]; exact e56, by rw [kfR 57 K8 r0]; exact e57⟩⟩
    have sq8 : SqOk x0 o8 := by unfold SqOk; rw [kfI 13 K8 r0, kfI 11 K8 r0, kfI 12 K8 r0]; exact sq
    have hz8 : hI o8 R 15 = 0 := by rw [kfI 15 K8 qR]; exact hz
    have D8' : MBd x0 (hI o8 x0 49).toInt y.toInt o8 := by rw [n8]; exact D8
    have l8 : 1 ≤ (hI o8 x0 49).toInt := by rw [n8]; exact l7
    refine s_onr (fun none' => ?_) (fun km ekm => ?_)
    · refine s_q (fun a4 ea => ?_)
      refine s_q (fun h9 eh => ?_)
      obtain ⟨ρ', c', X, T9, qa, O9⟩ := newMasks T8 ea eh
      unfold sX15_solve_301
      have r0' := ex_r X r0 (by decide)
      have hA' := ex_A X hA
      have T10 : TH ρ' c' (wR h9 x0 52 (some a4)) := th_un (th_wR T9 r0' (k := 16) (i := 52) (j := 8) (k2 := 103) rfl (by decide) rfl (by decide) qa rfl nid_8 (by decide) (by decide) rfl rfl (fun w => absurd rfl w) (pm_a hA' rfl))
      refine s_hq T10 (fun h10 T10 w10 => ?_)
      -- all that was there is as it was
      have K10 : Kf ρ [(16, 52)] o8 h10 := fun b i n x => by
        have lt : b < o8.1.1 := by rw [T8.1.1]; exact T8.2.1.2.2.1 b n
        obtain ⟨q1, q2, q3, _⟩ := O9 b lt
        rw [w10]
        refine ⟨q1 i, q2 i, ?_⟩
        rw [r_R, if_neg]
        · exact q3 i
        · rintro ⟨q5, q6⟩
          subst q5; subst q6
          rw [r0] at x
          exact absurd x (by show ¬ true = false; decide)
      have km10 : hR h10 x0 52 = some a4 := by rw [w10, r_R, if_pos ⟨rfl, rfl⟩]
      refine s_imp (so_masksB (ρ := ρ') (c := cat c' (fS soB soL) h10) (km := a4) (R := R) (Bc := Bc) (Bm := Bm) (rp := rp) (rt := rt) (rw := rw') (mb := mb) (y := y) hF fs_a (fs_o (.head _)) (fs_o (.tail _ (.head _))) (fs_o (.tail _ (.tail _ (.head _)))) (th_in (fS soB soL) T10) ⟨⟨r0', ex_r X qm (by decide), ex_r X qe (by decide), ex_r X qb (by decide), ex_r X qk (by decide), ex_r X qs (by decide), ex_r X qo (by decide)⟩, ⟨by rw [kfR 46 K10 r0]; exact SR8.2.1, by rw [kfR 47 K10 r0]; exact SR8.2.2.1, by rw [kfR 48 K10 r0]; exact SR8.2.2.2.1, by rw [kfR 55 K10 r0]; exact SR8.2.2.2.2.1, by rw [kfR 56 K10 r0]; exact SR8.2.2.2.2.2.1, by rw [kfR 57 K10 r0]; exact SR8.2.2.2.2.2.2⟩⟩ ⟨by rw [kfR 58 K10 r0, kfR 58 K8 r0]; exact e58, by rw [kfR 61 K10 r0, kfR 61 K8 r0]; exact e61, by rw [kfR 51 K10 r0, kfR 51 K8 r0]; exact e51, by rw [kfR 53 K10 r0, kfR 53 K8 r0]; exact e53, km10, by rw [kfR 4 K10 r0, kfR 4 K8 r0]; exact e4, by rw [kfR 13 K10 qR, kfR 13 K8 qR]; exact e13, by rw [kfR 14 K10 qR, kfR 14 K8 qR]; exact e14⟩ ⟨ex_r X qp (by decide), ex_r X qt (by decide), ex_r X qw (by decide), ex_r X qmb (by decide), qa, ex_r X qR (by decide), ex_r X qBc (by decide), ex_r X qBm (by decide)⟩ (se_k K10 r0 qm qe qb qk qs SR8.2.1 SR8.2.2.1 SR8.2.2.2.1 SR8.2.2.2.2.1 SR8.2.2.2.2.2.1 P8) (alls_of (kfI 49 K10 r0) (fun i => kfI i K10 qm) (fun i => kfI i K10 qe) (fun i => kfI i K10 qs) (fun i => kfI i K10 qk) (kfI 10 K10 qR) (fun i => kfI i K10 qBc) (fun i => kfI i K10 qBm) A8) ?_ iy (by unfold SqOk; rw [kfI 13 K10 r0, kfI 11 K10 r0, kfI 12 K10 r0]; exact sq8) (by rw [kfI 15 K10 qR]; exact hz8) (by rw [kfI 49 K10 r0]; exact l8)) (fun o w => ⟨ρ', c', X, th_out T10 (fs_sub (pmA_s hA' rfl) (fs_c (ex_O X hS) (fs_c (ex_O X hB) (fs_c (ex_O X hL) fs_n)))) w.1, rg_top _, w.2, Or.inr ⟨by rw [← kfR 52 K8 r0]; exact none', by rw [(th_out T10 (fs_sub (pmA_s hA' rfl) (fs_c (ex_O X hS) (fs_c (ex_O X hB) (fs_c (ex_O X hL) fs_n)))) w.1).1.1, ← T10.1.1, w10]; show h9.1 = _; rw [eh, nC_1, T8.1.1, ← T.1.1]; rfl, a4, by rw [(fr_RI (fr_u T10 w.1.2.2) r0' (by decide) (fun _ => rfl)).2.2]; exact km10⟩⟩)
      intro rm' rb' em' eb' k hk
      rw [kfR 46 K10 r0] at em'
      rw [kfR 53 K10 r0] at eb'
      rw [kfI 49 K10 r0] at hk
      have hz1 := r_eq SR8.2.1 em'
      subst hz1
      have hz1 := r_eq (show hR o8 x0 53 = some mb by rw [kfR 53 K8 r0]; exact e53) eb'
      subst hz1
      rw [kfI 13 K10 r0, kfI 49 K10 r0]
      simp only [kfI _ K10 qm, kfI _ K10 qmb]
      exact D8' rm' rb' em' eb' k hk
    · have qkm : ρ km = 103 := thRn T8 r0 (i := 52) (k2 := 103) rfl (by decide) ekm
      exact s_imp (so_masksB (c := cat c (fS soB soL) o8) (km := km) (R := R) (Bc := Bc) (Bm := Bm) (rp := rp) (rt := rt) (rw := rw') (mb := mb) (y := y) hF fs_a (fs_o (.head _)) (fs_o (.tail _ (.head _))) (fs_o (.tail _ (.tail _ (.head _)))) (th_in (fS soB soL) T8) SR8 ⟨by rw [kfR 58 K8 r0]; exact e58, by rw [kfR 61 K8 r0]; exact e61, by rw [kfR 51 K8 r0]; exact e51, by rw [kfR 53 K8 r0]; exact e53, ekm, by rw [kfR 4 K8 r0]; exact e4, by rw [kfR 13 K8 qR]; exact e13, by rw [kfR 14 K8 qR]; exact e14⟩ ⟨qp, qt, qw, qmb, qkm, qR, qBc, qBm⟩ P8 A8 D8' iy sq8 hz8 l8) (fun o w => ⟨ρ, c, ex_0, th_out T8 (fs_sub (pmA_s hA rfl) (fs_c hS (fs_c hB (fs_c hL fs_n)))) w.1, rg_top _, w.2, Or.inl ⟨(th_out T8 (fs_sub (pmA_s hA rfl) (fs_c hS (fs_c hB (fs_c hL fs_n)))) w.1).1.1.trans T.1.1.symm, by rw [(fr_RI (fr_u T8 w.1.2.2) r0 (by decide) (fun _ => rfl)).2.2, kfR 52 K8 r0]⟩⟩)
  · show 2 * (0 : Int) ≤ _
    have qb' : ρ rb' = 101 := rr T7 (thR T7 r0 (i := 48) (k2 := 101) rfl (by decide)) erb
    have q1 := (thI T7 qb' (k := 101) (i := (0 : Int32).toNatClampNeg) (lo := 0) (hi := 600000) rfl).1
    have q2 := P7.2.1.1
    split <;> omega

end
end
section
/-! solve, as a call of the reference -/
section
variable {ρ : Nat → Nat} {c : Cm} {x0 F : Nat} {h h2 : Hp} {B : Nat × Nat}
theorem rw_solve (hF : 2000000 ≤ F) (hp : hpR c) (T : TH ρ c h) (r0 : ρ x0 = 16) (P : RfI x0 h) (M : RmR x0 B h) : Sat (sX15_solve F h x0) (RP ρ c x0 B (fun o => hI o x0 1 = 0)) := by
  unfold sX15_solve
  refine s_q (fun v ev => ?_)
  have iv : Rg 0 1200 v := by rw [ev]; exact thI T r0 rfl
  refine s_hq (th_wI T r0 (k := 16) (lo := 0) (hi := 1200) rfl (rg_m (rg_b rfl : Rg 0 0 (0 : Int32)) (by decide)) (by decide) (by decide) (hp 16 _ 1 rfl (fun z => absurd z.2 (by decide)))) (fun h2 T2 w2 => ?_)
  obtain ⟨P2, M2, z2⟩ := tp_w hp T r0 P M T2 w2
  have ob : ∀ w, w ≠ 2560 → w ≠ 2528 → w ≠ 2530 → ∀ k i, (k = 13 ∨ k = 62 ∨ k = 63 ∨ k = 64) → fS soC soL k w i = false := fun w n1 n2 n3 k i hk => fs_cf (Or.inr n1) (fs_cf (Or.inr n2) (fs_cf (Or.inr n3) (by rcases hk with z | z | z | z <;> subst z <;> rfl)))
  have bo : ∀ w, w ≠ 2560 → w ≠ 2528 → w ≠ 2530 → bdO (fS soC soL) w := fun w n1 n2 n3 => ⟨fun i _ => ob w n1 n2 n3 _ _ (by omega), fun i => ob w n1 n2 n3 _ _ (by omega), fun i => ob w n1 n2 n3 _ _ (by omega), fun i => ob w n1 n2 n3 _ _ (by omega)⟩
  obtain ⟨na, ha⟩ := da_i T2 r0
  obtain ⟨nd, hd⟩ := dd_i T2 r0
  obtain ⟨ng, hg⟩ := dg_i T2 r0
  obtain ⟨nf, hf⟩ := df_i T2 r0
  have N := rm_i M2 ha hd hg hf
  refine rp_m (S := fS soC soL) (fs_r hp rfl) T2 (solve_r hF fs_a (fs_o (.head _)) (fs_o (.tail _ (.head _))) (fs_o (.tail _ (.tail _ (.head _)))) (th_in _ T2) r0 P2.1 P2.2.2.2.2.2.2.1 iv) (fun o ρ1 c1 X T1 f K => ?_)
  refine ⟨rfi_p T2 r0 f P2 (fun _ => rfl) (fun _ => rfl) (fun _ => rfl) (Or.inl ⟨fun _ => rfl, fun _ => rfl, fun _ _ => rfl, fun _ _ => rfl, bo 3400 (by decide) (by decide) (by decide)⟩) (Or.inl ⟨fun _ => rfl, fun _ _ => rfl, fun j _ => bo _ (by omega) (by omega) (by omega)⟩) (Or.inl ⟨fun _ => rfl, fun _ => rfl, fun _ _ => rfl, fun _ _ => rfl⟩) (Or.inl ⟨fun _ => rfl, fun _ => rfl⟩) (Or.inl ⟨⟨fun _ => rfl, fun _ _ => rfl, fun j => ?_⟩, ⟨fun _ => rfl, fun _ _ => rfl⟩, ⟨fun _ => rfl, fun _ _ => rfl⟩, fun _ => rfl⟩) (Or.inr K.1) (nog_f T2 r0 f (fun _ => rfl) (fun _ _ _ => rfl) P2.2.2.2.2.2.2.2), ?_, by rw [(fr_RI f r0 (by decide) (fun _ => rfl)).1]; exact z2⟩
  · obtain ⟨a1, a2, a3, a4⟩ := bo (11000 + j) (by omega) (by omega) (by omega)
    exact ⟨fun i hi => a1 i (by omega), a2, a3, a4⟩
  · refine rm_o (da_f T2 r0 f (fun _ => rfl) (fun _ _ => rfl) ha) (dd_f T2 r0 f (fun _ => rfl) (fun _ _ => rfl) hd) (dg_f T2 r0 f (fun _ => rfl) (fun _ _ => rfl) hg) (df_f T2 r0 f (fun _ => rfl) (fun _ _ => rfl) hf) ?_
    rcases K.2 with ⟨q1, q2⟩ | ⟨q1, q2, k, q3⟩
    · have : d52 x0 o = d52 x0 h2 := by unfold d52; rw [q2]
      rw [this, q1]; exact N
    · have e1 : d52 x0 o = 0 := by unfold d52; rw [q3]; rfl
      have e2 : d52 x0 h2 = 1 := by unfold d52; rw [q1]; rfl
      rw [e2] at N
      rw [e1, q2]
      show h2.1.1 + 1 + _ + _ + _ + _ + 0 ≤ _ ∧ h2.1.2 + 1500000 + _ + _ + _ + _ + _ ≤ _
      omega
end
end
section
/-! rules of the reference -/
section
variable {ρ : Nat → Nat} {c : Cm} {x0 F : Nat} {h g : Hp} {B : Nat × Nat}
theorem ru_56 {s : Nat} {o : Int32 × Hp} (qs : ρ s = 85) (r0 : ρ x0 = 16) : ∀ (f : Nat) {h : Hp} {x2 : Int32}, (∀ r, hR h x0 39 = some r → ρ r = 94) → sX15_rules_56 F f h x0 x2 = some o → hI o.2 x0 50 = 0 ∧ hI o.2 x0 44 = 0 ∧ hI o.2 x0 65 = 0 ∧ ∀ i, hI o.2 s i = hI h s i := by
  have ne : ∀ {a d p q : Nat}, ρ a = p → ρ d = q → p ≠ q → ¬ a = d := fun ha hd hpq z => hpq (by rw [← ha, z]; exact hd)
  intro f
  induction f with
  | zero => intro h x2 _ e; exact absurd e (by simp [sX15_rules_56])
  | succ f ih =>
    intro h x2 q94 e
    unfold sX15_rules_56 at e
    replace e := br_s e; rcases e with ⟨_, e⟩ | ⟨_, e⟩
    · replace e := nm_s e; obtain ⟨h2, w2, e⟩ := e
      replace e := nm_s e; obtain ⟨h3, w3, e⟩ := e
      replace e := nm_s e; obtain ⟨h4, w4, e⟩ := e
      replace e := cl_s e; obtain ⟨_, _, e⟩ := e
      rw [← Option.some.inj e]
      refine ⟨?_, ?_, ?_, fun i => ?_⟩
      · show hI h4 x0 50 = 0
        rw [w4, rI_o (by decide), w3, rI_o (by decide), w2, rI_s]
      · show hI h4 x0 44 = 0
        rw [w4, rI_o (by decide), w3, rI_s]
      · show hI h4 x0 65 = 0
        rw [w4, rI_s]
      · show hI h4 s i = _
        rw [w4, rI_a (ne qs r0 (by decide)), w3, rI_a (ne qs r0 (by decide)), w2, rI_a (ne qs r0 (by decide))]
    replace e := cl_s e; obtain ⟨r6, e6, e⟩ := e
    replace e := (gd_s e).2
    replace e := nm_s e; obtain ⟨h8, w8, e⟩ := e
    replace e := nm_s e; obtain ⟨_, _, e⟩ := e
    obtain ⟨a1, a2, a3, a4⟩ := ih (h := h8) (fun r er => q94 r (by rw [w8] at er; exact er)) e
    exact ⟨a1, a2, a3, fun i => by rw [a4, w8, rI_a (ne qs (q94 r6 e6) (by decide))]⟩
theorem ru_35 {s : Nat} {o : Int32 × Hp} (qs : ρ s = 85) (r0 : ρ x0 = 16) : ∀ (f : Nat) {h : Hp} {x2 : Int32}, hR h x0 15 = some s → (∀ r, hR h x0 39 = some r → ρ r = 94) → 0 ≤ x2.toInt → (∀ i : Nat, (i : Int) < x2.toInt → hI h s i = 0) → sX15_rules_35 F f h x0 x2 = some o → hI o.2 x0 50 = 0 ∧ hI o.2 x0 44 = 0 ∧ hI o.2 x0 65 = 0 ∧ ∀ i, i < 60 → hI o.2 s i = 0 := by
  have z60 : (60 : Int32).toInt = 60 := rfl
  have z1 : (1 : Int32).toInt = 1 := rfl
  intro f
  induction f with
  | zero => intro h x2 _ _ _ _ e; exact absurd e (by simp [sX15_rules_35])
  | succ f ih =>
    intro h x2 es q94 a2 C e
    unfold sX15_rules_35 at e
    replace e := br_s e; rcases e with ⟨l, e⟩ | ⟨l, e⟩
    · have l := le_i l
      obtain ⟨a1, a2', a3, a4⟩ := ru_56 qs r0 F q94 e
      exact ⟨a1, a2', a3, fun i hi => by rw [a4]; exact C i (by omega)⟩
    have l := nle_i l
    replace e := cl_s e; obtain ⟨s', es', e⟩ := e
    have y : s' = s := r_eq es es'
    subst y
    replace e := (gd_s e).2
    replace e := nm_s e; obtain ⟨h4, w4, e⟩ := e
    replace e := nm_s e; obtain ⟨v5, w5, e⟩ := e
    have t5 : v5.toInt = x2.toInt + 1 := by rw [w5, ta (by rw [z1]; omega), z1]
    have c2 := nc_i a2
    refine ih (h := h4) (by rw [w4]; exact es) (fun r er => q94 r (by rw [w4] at er; exact er)) (by omega) (fun i hi => ?_) e
    rw [w4, r_I]
    by_cases z : i = x2.toNatClampNeg
    · rw [if_pos ⟨rfl, z⟩]
    · rw [if_neg (fun w => z w.2)]; exact C i (by omega)
abbrev irA : List (Nat × Nat) := [(73, 999), (74, 999), (75, 999), (76, 999), (77, 999), (78, 999), (79, 999), (80, 999), (81, 999), (15, 0), (15, 1), (15, 2), (15, 10), (15, 11), (15, 12), (15, 15), (15, 16), (15, 17), (15, 18), (15, 19), (15, 20), (15, 21), (15, 22), (15, 23), (16, 6), (16, 7), (16, 8), (16, 9), (16, 10)]
abbrev tkA : List (Nat × Nat) := [(16, 4), (16, 5), (16, 11), (16, 12), (16, 13)]
abbrev rsA : List (Nat × Nat) := [(85, 999), (94, 999), (16, 44), (16, 50), (16, 65)]
theorem rw_rules (hF : 700000 ≤ F) (hp : hpR c) (hl : hlR c) (T : TH ρ c h) (r0 : ρ x0 = 16) (P : RfI x0 h) (M : RmR x0 B h) : Sat (sX15_rules F h x0) (RP ρ c x0 B (fun o => hI o x0 1 = 0)) := by
  unfold sX15_rules
  refine s_q (fun v ev => ?_)
  have iv : Rg 0 1200 v := by rw [ev]; exact thI T r0 rfl
  refine s_hq (th_wI T r0 (k := 16) (lo := 0) (hi := 1200) rfl (rg_m (rg_b rfl : Rg 0 0 (0 : Int32)) (by decide)) (by decide) (by decide) (hp 16 _ 1 rfl (fun z => absurd z.2 (by decide)))) (fun h2 T2 w2 => ?_)
  obtain ⟨P2, M2, z2⟩ := tp_w hp T r0 P M T2 w2
  obtain ⟨r3, e3, q3⟩ := thR T2 r0 (i := 0) (k2 := 82) rfl (by decide)
  refine s_ref e3 ?_
  refine s_cIfq (S := fS irA []) T2 (fs_rl hp hl rfl) (zX15_isRules hF fs_a (th_in _ T2) r0 q3 iv) (fun o4 T4 i4 f4 p4 => ?_)
  have P4 := rfi_f T2 r0 f4 (ok_bad (A := irA) (L := []) rfl) P2
  have M4 : RmR x0 B o4.2 := rmr_f T2 r0 f4 (T4.1.1.trans T2.1.1.symm) (fun _ => rfl) (fun _ => rfl) (fun _ => rfl) (fun _ => rfl) (fun _ => rfl) (fun _ _ => rfl) (fun _ _ => rfl) (fun _ _ => rfl) (fun _ _ => rfl) M2
  have t4 : hI o4.2 x0 1 = 0 := by rw [(fr_RI f4 r0 (by decide) (fun _ => rfl)).1]; exact z2
  refine s_br (fun _ => s_some ⟨ρ, c, ex_0, T4, P4, M4, t4⟩) (fun n4 => ?_)
  refine s_cVfq (S := fS tkA []) T4 (fs_rl hp hl rfl) (zX15_take hF fs_a (th_in _ T4) r0 (p4 (fun z => n4 (Int32.toInt_inj.mp z)))) (fun o6 T6 f6 sq6 => ?_)
  have M6 : RmR x0 B o6 := rmr_f T4 r0 f6 (T6.1.1.trans T4.1.1.symm) (fun _ => rfl) (fun _ => rfl) (fun _ => rfl) (fun _ => rfl) (fun _ => rfl) (fun _ _ => rfl) (fun _ _ => rfl) (fun _ _ => rfl) (fun _ _ => rfl) M4
  have t6 : hI o6 x0 1 = 0 := by rw [(fr_RI f6 r0 (by decide) (fun _ => rfl)).1]; exact t4
  obtain ⟨_, ⟨B1, p2⟩, ⟨B2, p3⟩, p5, p6, ⟨B3, p7⟩, _, p8⟩ := P4
  obtain ⟨B1', b6⟩ := bdy_ex T4 r0 f6 ⟨fun _ => rfl, fun _ => rfl, fun _ _ => rfl, fun _ _ => rfl, fun _ _ => rfl, fun _ => rfl, fun _ => rfl, fun _ => rfl⟩ p2
  obtain ⟨B2', g6⟩ := gay_ex T4 r0 f6 ⟨fun _ => rfl, fun _ _ => rfl, fun j _ => ⟨fun _ _ => rfl, fun _ => rfl, fun _ => rfl, fun _ => rfl⟩⟩ p8 p3
  have d6 := dpp_f T4 r0 f6 ⟨fun _ => rfl, fun _ => rfl, fun _ _ => rfl, fun _ _ => rfl⟩ p5
  obtain ⟨B3', fd6⟩ := fdy_ex T4 r0 f6 ⟨fun _ => rfl, fun _ _ => rfl, fun j => ⟨fun _ _ => rfl, fun _ => rfl, fun _ => rfl, fun _ => rfl⟩⟩ ⟨fun _ => rfl, fun _ _ => rfl⟩ ⟨fun _ => rfl, fun _ _ => rfl⟩ (fun _ => rfl) p7
  have n6 := nog_f T4 r0 f6 (fun _ => rfl) (fun _ _ _ => rfl) p8
  obtain ⟨s, es, qs⟩ := thR T6 r0 (i := 15) (k2 := 85) rfl (by decide)
  have q94 : ∀ r, hR o6 x0 39 = some r → ρ r = 94 := fun r er => rr T6 (thR T6 r0 (i := 39) (k2 := 94) rfl (by decide)) er
  have m9 : Rg 0 60 (0 : Int32) := rg_m (rg_b rfl : Rg 0 0 (0 : Int32)) (by decide)
  obtain ⟨o, eo, z⟩ := zX15_rules_35 (c := cat c (fS rsA []) o6) hF fs_a F (th_in _ T6) r0 m9 (by have : (0 : Int32).toInt = 0 := rfl; rw [this]; omega)
  have T7 := th_out T6 (fs_r hp rfl) z.1
  have f := fr_u T6 z.1.2.2
  obtain ⟨x50, x44, x65, xs⟩ := ru_35 qs r0 F es q94 (by decide) (fun i hi => absurd hi (by show ¬ (i : Int) < 0; omega)) eo
  have es7 : hR o.2 x0 15 = some s := by rw [(fr_RI f r0 (by decide) (fun _ => rfl)).2.2]; exact es
  obtain ⟨ra, ea, qa⟩ := thR T6 r0 (i := 14) (k2 := 84) rfl (by decide)
  have ea7 : hR o.2 x0 14 = some ra := by rw [(fr_RI f r0 (by decide) (fun _ => rfl)).2.2]; exact ea
  obtain ⟨rf, ef, qf⟩ := thR T6 r0 (i := 40) (k2 := 95) rfl (by decide)
  have ef7 : hR o.2 x0 40 = some rf := by rw [(fr_RI f r0 (by decide) (fun _ => rfl)).2.2]; exact ef
  have z0 : (0 : Int32).toInt = 0 := rfl
  refine ⟨o, eo, ρ, c, ex_0, T7, ⟨sq_fr T6 r0 f (fun _ => rfl) (fun _ => rfl) (fun _ => rfl) sq6, ?_, ?_, dpp_f T6 r0 f ⟨fun _ => rfl, fun _ => rfl, fun _ _ => rfl, fun _ _ => rfl⟩ d6, fun n => ?_, ?_, fun n => absurd x50 n, nog_f T6 r0 f (fun _ => rfl) (fun _ _ _ => rfl) n6⟩, rmr_f T6 r0 f (T7.1.1.trans T6.1.1.symm) (fun _ => rfl) (fun _ => rfl) (fun _ => rfl) (fun _ => rfl) (fun _ => rfl) (fun _ _ => rfl) (fun _ _ => rfl) (fun _ _ => rfl) (fun _ _ => rfl) M6, by show hI o.2 x0 1 = 0; rw [(fr_RI f r0 (by decide) (fun _ => rfl)).1]; exact t6⟩
  · refine ⟨(o.2.1.1 + 5 * nuC o.2 ra 60, o.2.1.2 + 162 * nuC o.2 ra 60), fun r s' e1 e2 i hi hs => ?_, fun r e1 i j a b ne ea' eb' k hk Ma Mb m1 m2 => ?_, fun r' e' => ?_⟩
    · have y : s' = s := r_eq es7 e2
      rw [y, xs i hi] at hs
      exact absurd (by decide : (0 : Int32) ≤ 0) hs
    · have y : r = ra := r_eq ea7 e1
      subst y
      rw [(fr_RI f qa (by decide) (fun _ => rfl)).2.2] at ea' eb'
      have qa' := thRn T6 qa (k2 := 13) rfl (by decide) ea'
      have qb' := thRn T6 qa (k2 := 13) rfl (by decide) eb'
      rw [(fr_RI f qa' (by decide) (fun _ => rfl)).2.2] at m1
      rw [(fr_RI f qb' (by decide) (fun _ => rfl)).2.2] at m2
      exact b6.2.1 r ea i j a b ne ea' eb' k hk Ma Mb m1 m2
    · have y : r' = ra := r_eq ea7 e'
      subst y
      exact ⟨Nat.le_refl _, Nat.le_refl _⟩
  · exact gay_ex T6 r0 f ⟨fun _ => rfl, fun _ _ => rfl, fun j _ => ⟨fun _ _ => rfl, fun _ => rfl, fun _ => rfl, fun _ => rfl⟩⟩ n6 g6
  · rw [x65] at n
    exact absurd (by decide : (0 : Int32) ≤ 0) n
  · refine ⟨(o.2.1.1 + 5 * nuC o.2 rf 3000, o.2.1.2 + 162 * nuC o.2 rf 3000), fun r er i hi => ?_, fun k hk => ?_, ⟨fun k b Bb => ?_, fun r' e' => ?_⟩, tx_fr T6 r0 f ⟨fun _ => rfl, fun _ _ => rfl⟩ fd6.2.2.2⟩
    · rw [x44, z0] at hi; omega
    · rw [x44, z0] at hk; omega
    · have B0 := (fbo_fr T6 r0 f (fun _ => rfl) (fun _ => rfl)).mpr Bb
      obtain ⟨k1, k2⟩ := fbo_r T6 r0 B0
      exact pz_fr T6 k1 f (fun _ _ => rfl) (fun _ => rfl) (fun _ => rfl) (fun _ => rfl) (fd6.2.2.1.1 k b B0)
    · have y : r' = rf := r_eq ef7 e'
      subst y
      exact ⟨Nat.le_refl _, Nat.le_refl _⟩
end
end
