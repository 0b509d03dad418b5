/-! the search backwards of the reference: a guess has nobody in hand -/
def HZ (x0 b : Nat) (h : Hp) : Prop := ∀ r H, hR h x0 4 = some r → hI h r 15 = 0 → hR h b 5 = some H → ∀ j : Nat, j < 24 → (hI h H j).toInt ≤ 0
section
variable {h g : Hp} {x0 b F : Nat} {o : Int32 × Hp}
theorem pos_no {v : Int32} {P : Prop} (e : some (v, g) = some o) (n : ¬ v ≤ 0) (le : o.1 ≤ 0) : P := by
  have := Option.some.inj e
  rw [← this] at le
  exact absurd le n
theorem wz_368 : ∀ (f : Nat) {x5 : Int32}, 0 ≤ x5.toInt → (∀ H, hR h b 5 = some H → ∀ j : Nat, (j : Int) < x5.toInt → (hI h H j).toInt ≤ 0) → sX15_wrongOf_368 F f h x0 b x5 = some o → o.1 ≤ 0 → HZ x0 b o.2 := by
  intro f
  induction f with
  | zero => intro x5 _ _ e _; exact absurd e (by rw [sX15_wrongOf_368]; simp)
  | succ f ih =>
    intro x5 a5 Z e le
    rw [sX15_wrongOf_368] at e
    unfold sX15_wrongOf_404 at e
    rcases br_s e with ⟨c1, e1⟩ | ⟨c1, e1⟩
    · have eo := Option.some.inj e1
      rw [← eo]
      have l24 : (24 : Int) ≤ x5.toInt := le_i c1
      exact fun r H _ _ eH j hj => Z H eH j (by omega)
    · obtain ⟨r, er, e2⟩ := cl_s e1
      rcases br_s e2 with ⟨c2, e3⟩ | ⟨c2, e3⟩
      · obtain ⟨H, eH, e4⟩ := cl_s e3
        obtain ⟨_, e5⟩ := gd_s e4
        rcases br_s e5 with ⟨c3, e6⟩ | ⟨_, e6⟩
        · obtain ⟨v, ev, e7⟩ := nm_s e6
          have l24 : x5.toInt < 24 := nle_i c1
          have ev2 : v.toInt = x5.toInt + 1 := by rw [ev]; exact (nc_s (⟨a5, by omega⟩ : Rg 0 24 x5) (by decide)).2
          refine ih (by omega) (fun H' eH' j hj => ?_) e7 le
          have hz := r_eq eH eH'
          subst hz
          by_cases q : (j : Int) < x5.toInt
          · exact Z H' eH' j q
          · have ej : j = x5.toNatClampNeg := by have := clamp_i a5; omega
            rw [ej]
            exact le_i c3
        · exact pos_no e6 (by decide) le
      · have eo := Option.some.inj e3
        rw [← eo]
        exact fun r' H er' z _ _ _ => absurd (by rw [r_eq er er'] at z; exact z) c2
theorem wz_336 (e : sX15_wrongOf_336 F h x0 b = some o) (le : o.1 ≤ 0) : HZ x0 b o.2 := by
  unfold sX15_wrongOf_336 sX15_wrongOf_365 at e
  have z0 : (0 : Int32).toInt = 0 := rfl
  have go : sX15_wrongOf_368 F F h x0 b (0 : Int32) = some o → HZ x0 b o.2 := fun e => wz_368 F (by decide) (fun H _ j hj => by rw [z0] at hj; omega) e le
  obtain ⟨r, _, e2⟩ := cl_s e
  rcases br_s e2 with ⟨_, e3⟩ | ⟨_, e3⟩
  · obtain ⟨_, _, e4⟩ := cl_s e3
    obtain ⟨_, e5⟩ := gd_s e4
    obtain ⟨_, _, e6⟩ := cl_s e5
    obtain ⟨_, e7⟩ := gd_s e6
    rcases br_s e7 with ⟨_, e8⟩ | ⟨_, e8⟩
    · exact go e8
    · exact pos_no e8 (by decide) le
  · exact go e3
theorem wz_300 (e : sX15_wrongOf_300 F h x0 b = some o) (le : o.1 ≤ 0) : HZ x0 b o.2 := by
  unfold sX15_wrongOf_300 at e
  obtain ⟨_, _, e2⟩ := cl_s e
  rcases br_s e2 with ⟨_, e3⟩ | ⟨_, e3⟩
  · exact wz_336 e3 le
  · obtain ⟨_, _, e4⟩ := cl_s e3
    rcases br_s e4 with ⟨_, e5⟩ | ⟨_, e5⟩
    · exact wz_336 e5 le
    · exact pos_no e5 (by decide) le
theorem wz_242 : ∀ (f : Nat) {h : Hp} {x4 : Int32}, sX15_wrongOf_242 F f h x0 b x4 = some o → o.1 ≤ 0 → HZ x0 b o.2 := by
  intro f
  induction f with
  | zero => intro h x4 e _; exact absurd e (by rw [sX15_wrongOf_242]; simp)
  | succ f ih =>
    intro h x4 e le
    rw [sX15_wrongOf_242] at e
    unfold sX15_wrongOf_277 at e
    rcases br_s e with ⟨_, e1⟩ | ⟨_, e1⟩
    · rcases br_s e1 with ⟨_, e2⟩ | ⟨_, e2⟩
      · exact wz_300 e2 le
      · obtain ⟨_, _, e3⟩ := cl_s e2
        rcases br_s e3 with ⟨_, e4⟩ | ⟨_, e4⟩
        · exact pos_no e4 (by decide) le
        · exact wz_300 e4 le
    · rcases br_s e1 with ⟨_, e2⟩ | ⟨_, e2⟩
      · obtain ⟨_, _, e3⟩ := cl_s e2
        rcases br_s e3 with ⟨_, e4⟩ | ⟨_, e4⟩
        · exact pos_no e4 (by decide) le
        · obtain ⟨_, _, e5⟩ := nm_s e4
          exact ih e5 le
      · obtain ⟨_, _, e3⟩ := nm_s e2
        exact ih e3 le
theorem wz_165 {x2 t0 : Int32} (e : sX15_wrongOf_165 F h x0 b x2 t0 = some o) (le : o.1 ≤ 0) : HZ x0 b o.2 := by
  unfold sX15_wrongOf_165 sX15_wrongOf_231 sX15_wrongOf_233 at e
  have go : br (x2 = 0) (sX15_wrongOf_242 F F h x0 b (0 : Int32)) (some ((3 : Int32), h)) = some o → HZ x0 b o.2 := fun e => by
    rcases br_s e with ⟨_, e1⟩ | ⟨_, e1⟩
    · exact wz_242 F e1 le
    · exact pos_no e1 (by decide) le
  obtain ⟨_, _, e1⟩ := cl_s e
  obtain ⟨_, e2⟩ := gd_s e1
  rcases br_s e2 with ⟨_, e3⟩ | ⟨_, e3⟩
  · exact pos_no e3 (by decide) le
  obtain ⟨_, _, e4⟩ := cl_s e3
  obtain ⟨_, e5⟩ := gd_s e4
  rcases br_s e5 with ⟨_, e6⟩ | ⟨_, e6⟩
  · exact pos_no e6 (by decide) le
  rcases br_s e6 with ⟨_, e7⟩ | ⟨_, e7⟩
  · obtain ⟨_, _, e8⟩ := cl_s e7
    rcases br_s e8 with ⟨_, e9⟩ | ⟨_, e9⟩
    · exact go e9
    obtain ⟨_, _, e10⟩ := cl_s e9
    rcases br_s e10 with ⟨_, e11⟩ | ⟨_, e11⟩
    · exact go e11
    obtain ⟨_, _, e12⟩ := cl_s e11
    obtain ⟨_, e13⟩ := gd_s e12
    rcases br_s e13 with ⟨_, e14⟩ | ⟨_, e14⟩
    · obtain ⟨_, _, e15⟩ := cl_s e14
      obtain ⟨_, e16⟩ := gd_s e15
      rcases br_s e16 with ⟨_, e17⟩ | ⟨_, e17⟩
      · exact go e17
      · exact pos_no e17 (by decide) le
    · exact pos_no e14 (by decide) le
  · exact pos_no e7 (by decide) le
theorem wz_18 : ∀ (f : Nat) {h : Hp} {x2 x3 : Int32}, sX15_wrongOf_18 F f h x0 b x2 x3 = some o → o.1 ≤ 0 → HZ x0 b o.2 := by
  intro f
  induction f with
  | zero => intro h x2 x3 e _; exact absurd e (by rw [sX15_wrongOf_18]; simp)
  | succ f ih =>
    intro h x2 x3 e le
    rw [sX15_wrongOf_18] at e
    unfold sX15_wrongOf_164 at e
    rcases br_s e with ⟨_, e1⟩ | ⟨_, e1⟩
    · obtain ⟨_, _, e2⟩ := cl_s e1
      rcases br_s e2 with ⟨_, e3⟩ | ⟨_, e3⟩
      · exact wz_165 e3 le
      obtain ⟨_, _, e4⟩ := cl_s e3
      obtain ⟨_, _, e5⟩ := cl_s e4
      obtain ⟨_, e6⟩ := gd_s e5
      obtain ⟨_, _, e7⟩ := cl_s e6
      obtain ⟨_, _, e8⟩ := cl_s e7
      obtain ⟨_, e9⟩ := gd_s e8
      rcases br_s e9 with ⟨_, e10⟩ | ⟨_, e10⟩
      · exact wz_165 e10 le
      · exact wz_165 e10 le
    · obtain ⟨_, _, e2⟩ := cl_s e1
      obtain ⟨_, e3⟩ := gd_s e2
      obtain ⟨v, _, e4⟩ := nm_s e3
      have end9 : ∀ {g : Hp} {y : Int32}, sX15_wrongOf_109 F (sX15_wrongOf_18 F f) g x0 b y x3 = some o → HZ x0 b o.2 := fun {g y} e => by
        unfold sX15_wrongOf_109 at e
        obtain ⟨_, _, e5⟩ := nm_s e
        exact ih e5 le
      have end7 : ∀ {g : Hp} {t0 t1 : Int32}, sX15_wrongOf_107 F (sX15_wrongOf_18 F f) g x0 b x3 t0 t1 = some o → HZ x0 b o.2 := fun {g t0 t1} e => by
        unfold sX15_wrongOf_107 at e
        obtain ⟨_, _, e5⟩ := nm_s e
        exact end9 e5
      have end70 : ∀ {g : Hp} {t0 t1 t2 : Int32} {t3 : Nat}, sX15_wrongOf_70 F (sX15_wrongOf_18 F f) g x0 b x2 x3 v t0 t1 t2 t3 = some o → HZ x0 b o.2 := fun {g t0 t1 t2 t3} e => by
        unfold sX15_wrongOf_70 sX15_wrongOf_106 at e
        obtain ⟨_, e5⟩ := gd_s e
        obtain ⟨_, _, e6⟩ := nm_s e5
        obtain ⟨_, _, e7⟩ := cl_s e6
        obtain ⟨_, _, e8⟩ := cl_s e7
        rcases br_s e8 with ⟨_, e9⟩ | ⟨_, e9⟩
        · exact end7 e9
        obtain ⟨_, _, e10⟩ := cl_s e9
        obtain ⟨_, _, e11⟩ := cl_s e10
        rcases br_s e11 with ⟨_, e12⟩ | ⟨_, e12⟩
        · exact end7 e12
        · exact end7 e12
      rcases br_s e4 with ⟨_, e5⟩ | ⟨_, e5⟩
      · exact end9 e5
      obtain ⟨_, _, e6⟩ := cl_s e5
      obtain ⟨_, _, e7⟩ := cl_s e6
      obtain ⟨_, e8⟩ := gd_s e7
      obtain ⟨_, _, e9⟩ := cl_s e8
      obtain ⟨_, _, e10⟩ := cl_s e9
      rcases br_s e10 with ⟨_, e11⟩ | ⟨_, e11⟩
      · exact end70 e11
      · exact end70 e11
/-- where nothing is wrong with a board, and men are not dropped, nobody is in hand -/
theorem wrong_hz (e : sX15_wrongOf F h x0 b = some o) (le : o.1 ≤ 0) : HZ x0 b o.2 := by
  unfold sX15_wrongOf at e
  obtain ⟨_, _, e1⟩ := cl_s e
  obtain ⟨_, e2⟩ := gd_s e1
  obtain ⟨_, _, e3⟩ := nm_s e2
  obtain ⟨_, _, e4⟩ := cl_s e3
  obtain ⟨_, e5⟩ := gd_s e4
  obtain ⟨_, _, e6⟩ := nm_s e5
  exact wz_18 F e6 le
end
section
variable {ρ : Nat → Nat} {c : Cm} {h o : Hp} {S : Nat → Nat → Nat → Bool} {x0 b w F : Nat} {x1 : Int32}
theorem hz_fr (T : TH ρ c h) (r0 : ρ x0 = 16) (rb : ρ b = 13) (ew : cw c b = w) (f : Fr ρ (cat c S h) h o) (s4 : ∀ w, S 16 w 4 = false) (s15 : ∀ w, S 15 w 15 = false) (s5 : S 13 w 5 = false) (s64 : ∀ i, S 64 w i = false) : HZ x0 b h ↔ HZ x0 b o := by
  have a1 := (fr_RI f r0 (by decide) s4 : hI o x0 4 = _ ∧ _).2.2
  have a2 := fr_R f rb (by decide) ew s5
  have a3 : ∀ r, hR h x0 4 = some r → hI o r 15 = hI h r 15 := fun r er => (fr_RI f (rr T (thR T r0 (i := 4) (k2 := 15) rfl (by decide)) er) (by decide) s15).1
  have a4 : ∀ H j, hR h b 5 = some H → hI o H j = hI h H j := fun H j eH => fr_I f (rr T (thR T rb (i := 5) (k2 := 64) rfl (by decide)) eH) (by decide) (th_ih T rb (k := 13) rfl eH ew) (s64 j)
  constructor
  · intro P r H e1 e2 e3 j hj
    rw [a1] at e1
    rw [a2] at e3
    rw [a3 r e1] at e2
    rw [a4 H j e3]
    exact P r H e1 e2 e3 j hj
  · intro P r H e1 e2 e3 j hj
    rw [← a4 H j e3]
    exact P r H (by rw [a1]; exact e1) (by rw [a3 r e1]; exact e2) (by rw [a2]; exact e3) j hj
/-- a guess that leads somewhere has nobody in hand -/
theorem leads_hz {o : Int32 × Hp} (hF : 700000 ≤ F) (T : TH ρ c h) (r0 : ρ x0 = 16) (e : sX15_leadsTo F h x0 b = some o) (n : ¬ o.1 = 0) : ∀ g, hR h x0 45 = some g → HZ x0 g h := by
  intro g eg
  unfold sX15_leadsTo at e
  obtain ⟨g', eg', e1⟩ := cl_s e
  have hz := r_eq eg eg'
  subst hz
  obtain ⟨q, eq, e2⟩ := cl_s e1
  have rg : ρ g' = 13 := rr T (thR T r0 (i := 45) (k2 := 13) rfl (by decide)) eg
  have wg : cw c g' = 2545 := kid_w T r0 (i := 45) rfl (by decide) eg
  obtain ⟨q', eq', p⟩ := zX15_wrongOf (c := cat c (fS [(86, 999), (16, 23), (16, 24)] []) h) hF fs_a rfl (th_in _ T) r0 rg
  rw [eq] at eq'
  have hz := Option.some.inj eq'
  subst hz
  have f := fr_u T p.1.1.2.2
  rcases br_s e2 with ⟨le, _⟩ | ⟨_, e3⟩
  · exact (hz_fr T r0 rg wg f (fun _ => rfl) (fun _ => rfl) rfl (fun _ => rfl)).mpr (wrong_hz eq le)
  · have := Option.some.inj e3
    rw [← this] at n
    exact absurd rfl n
end
