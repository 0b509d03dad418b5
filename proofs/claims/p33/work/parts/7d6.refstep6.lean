/-! told and figure of the reference: one thing a call -/
theorem nC_1 (h : Hp) (k n s : Nat) : (nC h k n s).1 = (h.1.1 + 1, h.1.2 + s) := rfl
section
variable {zq : Nat} {ρ ρ1 : Nat → Nat} {c c1 : Cm} {h g : Hp} {S : Nat → Nat → Nat → Bool} {x0 a b k w i F : Nat} {B Bq : Nat × Nat} {lo hi : Int} {x1 x2 x3 x4 x5 : Int32}
theorem told_1 {o : Int32 × Hp} (e : sX15_told F h x0 x1 = some o) : o.2.1 = (h.1.1 + 1, h.1.2 + 8) := by
  have b37 : ∀ {g : Hp} {x2 : Int32} {t : Nat}, sX15_told_37 F g x0 x1 x2 t = some o → o.2.1 = g.1 := fun {g x2 t} e => by
    unfold sX15_told_37 sX15_told_112 sX15_told_120 at e
    simp only [nm] at e
    replace e := (gd_s e).2
    replace e := (gd_s e).2
    replace e := cl_s e; obtain ⟨_, _, e⟩ := e
    replace e := (gd_s e).2
    replace e := cl_s e; obtain ⟨_, _, e⟩ := e
    replace e := (gd_s e).2
    replace e := cl_s e; obtain ⟨_, _, e⟩ := e
    replace e := (gd_s e).2
    replace e := (gd_s e).2
    replace e := (gd_s e).2
    replace e := (gd_s e).2
    replace e := br_s e; rcases e with ⟨_, e⟩ | ⟨_, e⟩
    · rw [← Option.some.inj e]; rfl
    replace e := br_s e; rcases e with ⟨_, e⟩ | ⟨_, e⟩
    · rw [← Option.some.inj (gd_s e).2]; rfl
    · rw [← Option.some.inj e]; rfl
  have lp : ∀ (f : Nat) {x2 x3 : Int32}, sX15_told_4 F f h x0 x1 x2 x3 = some o → o.2.1 = (h.1.1 + 1, h.1.2 + 8) := by
    intro f
    induction f with
    | zero => intro x2 x3 e; exact absurd e (by simp [sX15_told_4])
    | succ f ih =>
      intro x2 x3 e
      unfold sX15_told_4 sX15_told_25 at e
      simp only [nm] at e
      replace e := br_s e; rcases e with ⟨_, e⟩ | ⟨_, e⟩
      · rw [b37 e, nC_1]; rfl
      replace e := cl_s e; obtain ⟨_, _, e⟩ := e
      replace e := (gd_s e).2
      replace e := br_s e; rcases e with ⟨_, e⟩ | ⟨_, e⟩
      · exact ih e
      · exact ih e
  unfold sX15_told at e
  exact lp F e
theorem bitc_h {v : Int64} {o : Int32 × Hp} (e : sJ13_bitCount_95d88 h v = some o) : o.2 = h := by
  unfold sJ13_bitCount_95d88 at e
  simp only [nm] at e
  rw [← Option.some.inj e]
theorem figure_1 {o : Int32 × Hp} (e : sX15_figure F h x0 x1 x2 = some o) : o.2.1 = h.1 ∨ o.2.1 = (h.1.1 + 1, h.1.2 + 6) := by
  have b102 : ∀ {g : Hp} {y t0 t1 : Int32} {t2 t3 : Nat}, sX15_figure_102 F g y t0 t1 t2 t3 = some o → o.2.1 = g.1 := fun {g y t0 t1 t2 t3} e => by
    unfold sX15_figure_102 at e
    simp only [nm] at e
    replace e := (gd_s e).2
    replace e := (gd_s e).2
    rw [← Option.some.inj e]; rfl
  have b82 : ∀ {g : Hp} {y t0 t1 : Int32} {d t2 t3 : Nat}, sX15_figure_82 F g y d t0 t1 t2 t3 = some o → o.2.1 = g.1 := fun {g y t0 t1 d t2 t3} e => by
    unfold sX15_figure_82 at e
    replace e := (gd_s e).2
    replace e := nm_s e; obtain ⟨h2, w2, e⟩ := e
    have k2 : h2.1 = g.1 := by rw [w2]; rfl
    replace e := br_s e; rcases e with ⟨_, e⟩ | ⟨_, e⟩
    · rw [b102 e, k2]
    replace e := cl_s e; obtain ⟨_, _, e⟩ := e
    replace e := (gd_s e).2
    rw [b102 e, k2]
  have b41 : ∀ {g : Hp} {y : Int32} {d t : Nat}, sX15_figure_41 F g y d t = some o → o.2.1 = g.1 := fun {g y d t} e => by
    unfold sX15_figure_41 at e
    simp only [nm] at e
    replace e := (gd_s e).2
    replace e := (gd_s e).2
    replace e := cl_s e; obtain ⟨_, _, e⟩ := e
    replace e := (gd_s e).2
    replace e := (gd_s e).2
    replace e := cl_s e; obtain ⟨_, _, e⟩ := e
    replace e := (gd_s e).2
    replace e := (gd_s e).2
    replace e := cl_s e; obtain ⟨o13, e13, e⟩ := e
    have k13 := bitc_h e13
    rw [b82 e, k13]; rfl
  have b162 : ∀ (f : Nat) {y z5 z4 : Int32} {d : Nat}, sX15_figure_162 F f h x0 y d z4 z5 = some o → o.2.1 = h.1 := by
    intro f
    induction f with
    | zero => intro y z5 z4 d e; exact absurd e (by simp [sX15_figure_162])
    | succ f ih =>
      intro y z5 z4 d e
      unfold sX15_figure_162 sX15_figure_203 sX15_figure_194 at e
      simp only [nm] at e
      replace e := br_s e; rcases e with ⟨_, e⟩ | ⟨_, e⟩
      · rw [← Option.some.inj e]
      replace e := br_s e; rcases e with ⟨_, e⟩ | ⟨_, e⟩
      · replace e := cl_s e; obtain ⟨_, _, e⟩ := e
        replace e := (gd_s e).2
        replace e := br_s e; rcases e with ⟨_, e⟩ | ⟨_, e⟩
        · exact ih e
        · exact ih e
      · rw [← Option.some.inj e]
  have b116 : ∀ (f : Nat) {y z5 z4 : Int32} {d : Nat}, sX15_figure_116 F f h x0 y d z4 z5 = some o → o.2.1 = h.1 := by
    intro f
    induction f with
    | zero => intro y z5 z4 d e; exact absurd e (by simp [sX15_figure_116])
    | succ f ih =>
      intro y z5 z4 d e
      unfold sX15_figure_116 sX15_figure_159 at e
      simp only [nm] at e
      replace e := cl_s e; obtain ⟨_, _, e⟩ := e
      replace e := br_s e; rcases e with ⟨_, e⟩ | ⟨_, e⟩
      · exact b162 F e
      replace e := br_s e; rcases e with ⟨_, e⟩ | ⟨_, e⟩
      · exact b162 F e
      replace e := cl_s e; obtain ⟨_, _, e⟩ := e
      replace e := (gd_s e).2
      exact ih e
  unfold sX15_figure sX15_figure_10 at e
  replace e := br_s e; rcases e with ⟨_, e⟩ | ⟨_, e⟩
  · rw [← Option.some.inj e]; exact Or.inl rfl
  replace e := br_s e; rcases e with ⟨_, e⟩ | ⟨_, e⟩
  · replace e := cl_s e; obtain ⟨o3, e3, e⟩ := e
    rw [has15_h e3] at e
    unfold sX15_figure_18 at e
    replace e := br_s e; rcases e with ⟨_, e⟩ | ⟨_, e⟩
    · rw [← Option.some.inj e]; exact Or.inl rfl
    replace e := cl_s e; obtain ⟨_, _, e⟩ := e
    replace e := (gd_s e).2
    replace e := cl_s e; obtain ⟨_, _, e⟩ := e
    replace e := br_s e; rcases e with ⟨_, e⟩ | ⟨_, e⟩
    · exact Or.inl (b116 F e)
    · simp only [nm] at e
      rw [b41 e, nC_1]; exact Or.inr rfl
  · rw [← Option.some.inj e]; exact Or.inl rfl
/-- a call that makes one thing that nobody keeps -/
theorem rp_1 {m : Option (Int32 × Hp)} (T : TH ρ c h) (r0 : ρ x0 = 16) (P : RfI x0 h) (M : RmR x0 B h) (Z : Sat m (fun o => ∃ ρ' c', Ext ρ (cat c (fun _ _ _ => false) h) ρ' c' ∧ TH ρ' c' o.2 ∧ Rg lo hi o.1)) (K : ∀ o, m = some o → o.2.1.1 ≤ h.1.1 + 1 ∧ o.2.1.2 ≤ h.1.2 + 8) : Sat m (RP ρ c x0 (B.1 + 1, B.2 + 8) (TpR x0 h)) := by
  have Z2 : Sat m (MkI ρ (cat c (fun _ _ _ => false) h) lo hi (fun o => o.1.1 ≤ h.1.1 + 1 ∧ o.1.2 ≤ h.1.2 + 8)) := by
    obtain ⟨o, eo, ρ', c', X, T', r⟩ := Z
    exact ⟨o, eo, ρ', c', X, T', r, K o eo⟩
  refine rp_m (S := fun _ _ _ => false) (fun _ _ _ z => absurd z (by decide)) T Z2 (fun o ρ1 c1 X T1 f k => ?_)
  have hb : ∀ k w i, badR k w i = true → (fun (_ _ _ : Nat) => false) k w i = false := fun _ _ _ _ => rfl
  obtain ⟨na, ha⟩ := da_i T r0
  obtain ⟨nd, hd⟩ := dd_i T r0
  obtain ⟨ng, hg⟩ := dg_i T r0
  obtain ⟨nf, hf⟩ := df_i T r0
  have N := rm_i M ha hd hg hf
  refine ⟨rfi_f T r0 f hb P, rm_o (da_f T r0 f (fun _ => rfl) (fun _ _ => rfl) ha) (dd_f T r0 f (fun _ => rfl) (fun _ _ => rfl) hd) (dg_f T r0 f (fun _ => rfl) (fun _ _ => rfl) hg) (df_f T r0 f (fun _ => rfl) (fun _ _ => rfl) hf) ?_, (fr_RI f r0 (by decide) (fun _ => rfl)).1⟩
  rw [d52_f r0 f (fun _ => rfl)]
  show _ ≤ B.1 + 1 ∧ _ ≤ B.2 + 8
  omega
theorem rw_told (hF : 700000 ≤ F) (T : TH ρ c h) (r0 : ρ x0 = 16) (P : RfI x0 h) (M : RmR x0 B h) : Sat (sX15_told F h x0 x1) (RP ρ c x0 (B.1 + 1, B.2 + 8) (TpR x0 h)) := rp_1 T r0 P M (zX15_told hF (th_in _ T) r0 (rg_top _)) (fun o e => by rw [told_1 e]; exact ⟨Nat.le_refl _, Nat.le_refl _⟩)
theorem rw_figure (hF : 700000 ≤ F) (T : TH ρ c h) (r0 : ρ x0 = 16) (P : RfI x0 h) (M : RmR x0 B h) : Sat (sX15_figure F h x0 x1 x2) (RP ρ c x0 (B.1 + 1, B.2 + 8) (TpR x0 h)) := rp_1 T r0 P M (zX15_figure hF (th_in _ T) r0 (rg_top _) (rg_top _) (rf_b P)) (fun o e => by
  rcases figure_1 e with q | q <;> rw [q]
  · exact ⟨Nat.le_succ _, Nat.le_add_right _ _⟩
  · exact ⟨Nat.le_refl _, by show h.1.2 + 6 ≤ h.1.2 + 8; omega⟩)
end
