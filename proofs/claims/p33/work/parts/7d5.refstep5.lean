/-! say, worth, drop, feed, end of the reference -/
section
variable {zq : Nat} {ρ ρ1 : Nat → Nat} {c c1 : Cm} {h g : Hp} {S : Nat → Nat → Nat → Bool} {x0 a b k w i F : Nat} {B Bq : Nat × Nat} {lo hi : Int} {x1 x2 x3 x4 x5 : Int32}
theorem rw_say (hF : 700000 ≤ F) (hp : hpR c) (T : TH ρ c h) (r0 : ρ x0 = 16) (P : RfI x0 h) (M : RmR x0 B h) : Sat (sX15_say_ F h x0 x1 x2) (RP ρ c x0 B (TpR x0 h)) := rp_t (A := [(83, 999), (87, 999), (88, 999), (89, 999), (16, 3), (16, 23), (16, 24), (16, 29), (16, 36)]) (L := [(2528, bpL), (2530, mpL), (2531, mpL), (2535, bpL)]) hp rfl rfl (fun _ => rfl) T r0 P M (zX15_say_ hF fs_a (fs_o (.head _)) (fs_o (.tail _ (.head _))) (fs_o (.tail _ (.tail _ (.head _)))) (fs_o (.tail _ (.tail _ (.tail _ (.head _))))) (th_in _ T) r0 (rg_top _) (rg_top _) (rf_b P) P.1)
theorem rw_worth (hF : 700000 ≤ F) (hp : hpR c) (T : TH ρ c h) (r0 : ρ x0 = 16) (P : RfI x0 h) (M : RmR x0 B h) : Sat (sX15_worth F h x0 x1) (RP ρ c x0 B (TpR x0 h)) := rp_t (A := rwpL) (L := []) hp rfl rfl (fun _ => rfl) T r0 P M (s_imp (zX15_worth hF fs_a (th_in _ T) r0 (rf_b P) P.2.2.2.2.2.2.1) (fun o z => ⟨z.1, z.2.1⟩))
theorem has15_h {o : Int32 × Hp} (e : sX15_has h x0 x1 = some o) : o.2 = h := by
  unfold sX15_has sX15_has_23 sX15_has_24 at e
  replace e := br_s e; rcases e with ⟨_, e⟩ | ⟨_, e⟩
  · rw [← Option.some.inj (gd_s e).2]
  replace e := br_s e; rcases e with ⟨_, e⟩ | ⟨_, e⟩
  · rw [← Option.some.inj (gd_s e).2]
  replace e := cl_s e; obtain ⟨_, _, e⟩ := e
  replace e := (gd_s e).2
  replace e := br_s e; rcases e with ⟨_, e⟩ | ⟨_, e⟩
  · rw [← Option.some.inj (gd_s e).2]
  · rw [← Option.some.inj (gd_s e).2]
theorem drop_e {o : Int32 × Hp} (e : sX15_drop h x0 x1 = some o) : o.2 = h ∨ ∃ s, hR h x0 15 = some s ∧ o.2 = wI h s x1.toNatClampNeg (0 : Int32) := by
  unfold sX15_drop at e
  replace e := cl_s e; obtain ⟨o1, e1, e⟩ := e
  rw [has15_h e1] at e
  replace e := br_s e; rcases e with ⟨_, e⟩ | ⟨_, e⟩
  · rw [← Option.some.inj e]; exact Or.inl rfl
  replace e := cl_s e; obtain ⟨s, es, e⟩ := e
  replace e := (gd_s e).2
  replace e := nm_s e; obtain ⟨h5, w5, e⟩ := e
  rw [← Option.some.inj e]
  exact Or.inr ⟨s, es, w5⟩
theorem rw_drop (hF : 700000 ≤ F) (hp : hpR c) (T : TH ρ c h) (r0 : ρ x0 = 16) (P : RfI x0 h) (M : RmR x0 B h) : Sat (sX15_drop h x0 x1) (RP ρ c x0 B (TpR x0 h)) := by
  obtain ⟨o, eo, z⟩ := zX15_drop (c := cat c (fS [(85, 999)] []) h) (x1 := x1) hF fs_a (th_in _ T) r0 (rg_top _)
  have T' := th_out T (fs_r hp rfl) z.1
  have f := fr_u T z.1.2.2
  refine ⟨o, eo, ρ, c, ex_0, T', ?_, rmr_f T r0 f (T'.1.1.trans T.1.1.symm) (fun _ => rfl) (fun _ => rfl) (fun _ => rfl) (fun _ => rfl) (fun _ => rfl) (fun _ _ => rfl) (fun _ _ => rfl) (fun _ _ => rfl) (fun _ _ => rfl) M, (fr_RI f r0 (by decide) (fun _ => rfl)).1⟩
  refine rfi_p T r0 f P (fun _ => rfl) (fun _ => rfl) (fun _ => rfl) (Or.inr ?_) (Or.inl ⟨fun _ => rfl, fun _ _ => rfl, fun j _ => ⟨fun _ _ => rfl, fun _ => rfl, fun _ => rfl, fun _ => rfl⟩⟩) (Or.inl ⟨fun _ => rfl, fun _ => rfl, fun _ _ => rfl, fun _ _ => rfl⟩) (Or.inl ⟨fun _ => rfl, fun _ => rfl⟩) (Or.inl ⟨⟨fun _ => rfl, fun _ _ => rfl, fun j => ⟨fun _ _ => rfl, fun _ => rfl, fun _ => rfl, fun _ => rfl⟩⟩, ⟨fun _ => rfl, fun _ _ => rfl⟩, ⟨fun _ => rfl, fun _ _ => rfl⟩, fun _ => rfl⟩) (Or.inl ⟨fun _ => rfl, fun _ => rfl, fun _ => rfl, fun _ => rfl, fun _ => rfl, fun _ => rfl, fun _ => rfl, fun _ => rfl, fun _ => rfl, fun _ _ => rfl, fun _ _ => rfl, fun _ _ => rfl, fun _ _ => rfl, fun _ _ => rfl⟩) (nog_f T r0 f (fun _ => rfl) (fun _ _ _ => rfl) P.2.2.2.2.2.2.2)
  obtain ⟨B1, b1⟩ := P.2.1
  rcases drop_e eo with q | ⟨s, es, q⟩
  · rw [q]; exact ⟨B1, b1⟩
  · have qs := rr T (thR T r0 (i := 15) (k2 := 85) rfl (by decide)) es
    refine ⟨B1, fun r s' e1 e2 i hi hs => ?_, fun r e1 i j a b ne ea eb k hk M M' m1 m2 => ?_, fun r er => ?_⟩
    · rw [q] at e1 e2
      have y : s' = s := r_eq es e2
      subst y
      by_cases z : i = x1.toNatClampNeg
      · rw [q, z, rI_s] at hs
        exact absurd (by decide : (0 : Int32) ≤ 0) hs
      · rw [q, rI_o z] at hs
        obtain ⟨b, eb, pb⟩ := b1.1 r s' e1 e2 i hi hs
        have q1 := rr T (thR T r0 (i := 14) (k2 := 84) rfl (by decide)) e1
        exact ⟨b, by rw [q]; exact eb, pz_fr T (thRn T q1 (k2 := 13) rfl (by decide) eb) f (fun _ _ => rfl) (fun _ => rfl) (fun _ => rfl) (fun _ => rfl) pb⟩
    · rw [q] at e1 ea eb m1 m2
      exact b1.2.1 r e1 i j a b ne ea eb k hk M M' m1 m2
    · rw [q] at er ⊢
      exact b1.2.2 r er
def FdR (x0 : Nat) (n : Int) (o : Int32 × Hp) : Prop := (n + 20 ≤ 1200 ∧ o.1.toInt = n + 20 ∧ (hI o.2 x0 1).toInt = n + 20) ∨ (1200 < n + 20 ∧ o.1 = -104 ∧ (hI o.2 x0 1).toInt = n)
def EdR (x0 : Nat) (x1 : Int32) (n : Int) (o : Int32 × Hp) : Prop := (0 ≤ x1.toInt ∧ x1.toInt ≤ n ∧ o.1 = x1 ∧ (hI o.2 x0 1).toInt = x1.toInt) ∨ (¬ (0 ≤ x1.toInt ∧ x1.toInt ≤ n) ∧ o.1 = -101 ∧ (hI o.2 x0 1).toInt = n)
theorem feed_19 {t : Nat} (nt : ¬ x0 = t) : ∀ (f : Nat) {h : Hp} {x6 : Int32} {o : Int32 × Hp}, hR h x0 0 = some t → 0 ≤ x6.toInt → x6.toInt ≤ 20 → 0 ≤ (hI h x0 1).toInt → (hI h x0 1).toInt + (20 - x6.toInt) ≤ 1200 → sX15_feed_19 F f h x0 x1 x2 x3 x4 x5 x6 = some o → o.1.toInt = (hI h x0 1).toInt + (20 - x6.toInt) ∧ (hI o.2 x0 1).toInt = (hI h x0 1).toInt + (20 - x6.toInt) := by
  have z1 : (1 : Int32).toInt = 1 := rfl
  have z20 : (20 : Int32).toInt = 20 := rfl
  intro f
  induction f with
  | zero => intro h x6 o _ _ _ _ _ e; exact absurd e (by simp [sX15_feed_19])
  | succ f ih =>
    intro h x6 o et a6 l6 a1 l1 e
    have go : ∀ {t0 : Int32}, x6.toInt < 20 → sX15_feed_72 F (sX15_feed_19 F f) h x0 x1 x2 x3 x4 x5 x6 t0 = some o → o.1.toInt = (hI h x0 1).toInt + (20 - x6.toInt) ∧ (hI o.2 x0 1).toInt = (hI h x0 1).toInt + (20 - x6.toInt) := fun {t0} l e => by
      unfold sX15_feed_72 at e
      replace e := cl_s e; obtain ⟨t', et', e⟩ := e
      have y : t' = t := r_eq et et'
      subst y
      replace e := (gd_s e).2
      replace e := nm_s e; obtain ⟨h3, w3, e⟩ := e
      replace e := nm_s e; obtain ⟨h4, w4, e⟩ := e
      replace e := nm_s e; obtain ⟨v5, w5, e⟩ := e
      have t5 : v5.toInt = x6.toInt + 1 := by rw [w5, ta (by rw [z1]; omega), z1]
      have e4 : (hI h4 x0 1).toInt = (hI h x0 1).toInt + 1 := by
        rw [w4, rI_s, w3, rI_a nt, ta (by rw [z1]; omega), z1]
      obtain ⟨u1, u2⟩ := ih (h := h4) (by rw [w4, w3]; exact et) (by omega) (by omega) (by omega) (by omega) e
      omega
    unfold sX15_feed_19 at e
    replace e := br_s e; rcases e with ⟨l, e⟩ | ⟨l, e⟩
    · have l := le_i l
      rw [← Option.some.inj e]
      constructor <;> (show (hI h x0 1).toInt = _; omega)
    have l := nle_i l
    replace e := br_s e; rcases e with ⟨_, e⟩ | ⟨_, e⟩
    · replace e := br_s e; rcases e with ⟨_, e⟩ | ⟨_, e⟩
      · replace e := br_s e; rcases e with ⟨_, e⟩ | ⟨_, e⟩
        · replace e := br_s e; rcases e with ⟨_, e⟩ | ⟨_, e⟩
          · exact go (by omega) e
          · exact go (by omega) e
        · exact go (by omega) e
      · exact go (by omega) e
    · exact go (by omega) e
theorem rw_feed (hF : 700000 ≤ F) (hp : hpR c) (hq : ∀ w i, cPm c 82 w i = true) (T : TH ρ c h) (r0 : ρ x0 = 16) (P : RfI x0 h) (M : RmR x0 B h) : Sat (sX15_feed F h x0 x1 x2 x3 x4 x5) (fun o => RP ρ c x0 B (fun _ => True) o ∧ FdR x0 (hI h x0 1).toInt o) := by
  refine sat_and (rp_zs (A := [(82, 999), (16, 1)]) (L := []) (R := fun _ => True) (fun k w i m => by
    unfold fS at m
    rw [Bool.or_eq_true] at m
    rcases m with m | m
    · obtain ⟨j, hj, zz⟩ := mS_ex m
      rw [List.mem_cons, List.mem_singleton, Prod.mk.injEq, Prod.mk.injEq] at hj
      rcases hj with z | z
      · rw [z.1]; exact hq w i
      · rw [z.1]
        refine hp 16 w i rfl (fun y => ?_)
        rw [z.2] at zz
        have y2 := y.2
        omega
    · simp at m) rfl T r0 P M (s_zq (zX15_feed hF fs_a (th_in _ T) r0 (rg_top _) (rg_top _) (rg_top _) (rg_top _) (rg_top _))) (fun _ _ _ _ => trivial)) (fun o e z => ⟨z, ?_⟩)
  obtain ⟨t, et, qt⟩ := thR T r0 (i := 0) (k2 := 82) rfl (by decide)
  have i1 := thI T r0 (k := 16) (i := 1) (lo := 0) (hi := 1200) rfl
  have nt : ¬ x0 = t := fun y => by rw [← y, r0] at qt; exact absurd qt (by decide)
  have z20 : (20 : Int32).toInt = 20 := rfl
  have z0 : (0 : Int32).toInt = 0 := rfl
  have zb : (1200 : Int32).toInt = 1200 := rfl
  have a1 := i1.1
  have b1 := i1.2
  have tt : (hI h x0 1 + (20 : Int32)).toInt = (hI h x0 1).toInt + 20 := by rw [ta (by rw [z20]; omega), z20]
  unfold sX15_feed at e
  replace e := br_s e; rcases e with ⟨l, e⟩ | ⟨l, e⟩
  · have l := le_i l
    rw [tt, zb] at l
    obtain ⟨u1, u2⟩ := feed_19 nt F et (by decide) (by decide) a1 (by rw [z0]; omega) e
    rw [z0] at u1 u2
    exact Or.inl ⟨l, by omega, by omega⟩
  · have l := nle_i l
    rw [tt, zb] at l
    rw [← Option.some.inj e]
    exact Or.inr ⟨l, rfl, rfl⟩
theorem rw_end (hF : 700000 ≤ F) (hp : hpR c) (T : TH ρ c h) (r0 : ρ x0 = 16) (P : RfI x0 h) (M : RmR x0 B h) : Sat (sX15_end h x0 x1) (fun o => RP ρ c x0 B (fun _ => True) o ∧ EdR x0 x1 (hI h x0 1).toInt o) := by
  refine sat_and (rp_z (A := [(16, 1)]) (L := []) (R := fun _ => True) hp rfl rfl T r0 P M (s_zq (zX15_end hF fs_a (th_in _ T) r0 (rg_top _))) (fun _ _ _ _ => trivial)) (fun o e z => ⟨z, ?_⟩)
  have z0 : (0 : Int32).toInt = 0 := rfl
  unfold sX15_end sX15_end_12 at e
  replace e := br_s e; rcases e with ⟨l, e⟩ | ⟨l, e⟩
  · have l := lt_i l
    rw [← Option.some.inj e]
    exact Or.inr ⟨by omega, rfl, rfl⟩
  have l := nlt_i l
  replace e := br_s e; rcases e with ⟨l2, e⟩ | ⟨l2, e⟩
  · have l2 := le_i l2
    replace e := nm_s e; obtain ⟨h3, w3, e⟩ := e
    rw [← Option.some.inj e]
    refine Or.inl ⟨by omega, l2, rfl, ?_⟩
    show (hI h3 x0 1).toInt = _
    rw [w3, rI_s]
  · have l2 := nle_i l2
    rw [← Option.some.inj e]
    exact Or.inr ⟨by omega, rfl, rfl⟩
end
