/-! the men of a state stand where its number says -/
def rsD (q sq : Int) : Nat → Int
  | 0 => q
  | i + 1 => rsD q sq i / sq
section
variable {ρ : Nat → Nat} {h o : Hp} {x0 b M H C F : Nat} {x1 x2 x3 x4 x5 : Int32}
/-- what clearing a board leaves -/
def OB (ρ : Nat → Nat) (a : Nat) : Prop := ρ a ≠ 13 ∧ ρ a ≠ 62 ∧ ρ a ≠ 64 ∧ ρ a ≠ 65
theorem cb_38 (rb : ρ b = 13) (rH : ρ H = 64) (rC : ρ C = 65) : ∀ (f : Nat) {h : Hp} {x1 : Int32}, hR h b 5 = some H → hR h b 6 = some C → sX12_clear_38 F f h b x1 = some o → (∀ a i, hR o a i = hR h a i) ∧ (∀ a i, OB ρ a ∨ ρ a = 62 → hI o a i = hI h a i) := by
  intro f
  induction f with
  | zero => intro h x1 _ _ e; exact absurd e (by rw [sX12_clear_38]; simp)
  | succ f ih =>
    intro h x1 eH eC e
    rw [sX12_clear_38] at e
    have nb : ∀ {a : Nat}, OB ρ a ∨ ρ a = 62 → a ≠ b ∧ a ≠ H ∧ a ≠ C := fun {a} q => by
      refine ⟨fun z => ?_, fun z => ?_, fun z => ?_⟩
      · rw [z] at q; unfold OB at q; rw [rb] at q; omega
      · rw [z] at q; unfold OB at q; rw [rH] at q; omega
      · rw [z] at q; unfold OB at q; rw [rC] at q; omega
    rcases br_s e with ⟨_, e1⟩ | ⟨_, e1⟩
    · obtain ⟨r2, f2, e2⟩ := cl_s e1
      have hz := r_eq eC f2
      subst hz
      obtain ⟨_, e3⟩ := gd_s e2
      obtain ⟨h4, w4, e4⟩ := nm_s e3
      obtain ⟨r5, f5, e5⟩ := cl_s e4
      have f5' : hR h b 6 = some r5 := by rw [w4] at f5; exact f5
      have hz := r_eq f2 f5'
      subst hz
      obtain ⟨_, e6⟩ := gd_s e5
      obtain ⟨h7, w7, e7⟩ := nm_s e6
      obtain ⟨h8, w8, e8⟩ := nm_s e7
      have eo := Option.some.inj e8
      refine ⟨fun a i => by rw [← eo, w8, w7, w4]; rfl, fun a i q => ?_⟩
      obtain ⟨n1, n2, n3⟩ := nb q
      rw [← eo, w8, r_I, if_neg (fun y => n1 y.1), w7, r_I, if_neg (fun y => n3 y.1), w4, r_I, if_neg (fun y => n3 y.1)]
    · obtain ⟨r9, f9, e2⟩ := cl_s e1
      have hz := r_eq eH f9
      subst hz
      obtain ⟨_, e3⟩ := gd_s e2
      obtain ⟨h4, w4, e4⟩ := nm_s e3
      obtain ⟨v, _, e5⟩ := nm_s e4
      obtain ⟨p1, p2⟩ := ih (h := h4) (by rw [w4]; exact f9) (by rw [w4]; exact eC) e5
      refine ⟨fun a i => by rw [p1, w4]; rfl, fun a i q => ?_⟩
      obtain ⟨n1, n2, n3⟩ := nb q
      rw [p2 a i q, w4, r_I, if_neg (fun y => n2 y.1)]
theorem cb_2 (rb : ρ b = 13) (rM : ρ M = 62) (rH : ρ H = 64) (rC : ρ C = 65) : ∀ (f : Nat) {h : Hp} {x1 : Int32}, hR h b 0 = some M → hR h b 5 = some H → hR h b 6 = some C → 0 ≤ x1.toInt → x1.toInt ≤ 64 → (∀ s : Nat, (s : Int) < x1.toInt → hI h M s = 0) → sX12_clear_2 F f h b x1 = some o → (∀ a i, hR o a i = hR h a i) ∧ (∀ a i, OB ρ a → hI o a i = hI h a i) ∧ ∀ s : Nat, s < 64 → hI o M s = 0 := by
  intro f
  induction f with
  | zero => intro h x1 _ _ _ _ _ _ e; exact absurd e (by rw [sX12_clear_2]; simp)
  | succ f ih =>
    intro h x1 eM eH eC a1 b1 Z e
    rw [sX12_clear_2] at e
    rcases br_s e with ⟨l, e1⟩ | ⟨l, e1⟩
    · have l' : (64 : Int) ≤ x1.toInt := le_i l
      obtain ⟨h2, w2, e2⟩ := nm_s e1
      obtain ⟨h3, w3, e3⟩ := nm_s e2
      obtain ⟨h4, w4, e4⟩ := nm_s e3
      have R4 : ∀ a i, hR h4 a i = hR h a i := fun a i => by rw [w4, w3, w2]; rfl
      have I4 : ∀ a i, a ≠ b → hI h4 a i = hI h a i := fun a i n => by
        rw [w4, r_I, if_neg (fun y => n y.1), w3]
        show hI h2 a i = _
        rw [w2, r_I, if_neg (fun y => n y.1)]
      obtain ⟨p1, p2⟩ := cb_38 rb rH rC F (by rw [R4]; exact eH) (by rw [R4]; exact eC) e4
      refine ⟨fun a i => by rw [p1, R4], fun a i q => ?_, fun s hs => ?_⟩
      · rw [p2 a i (Or.inl q), I4 a i (fun z => q.1 (by rw [z]; exact rb))]
      · rw [p2 M s (Or.inr rM), I4 M s (fun z => by rw [z, rb] at rM; exact absurd rM (by decide))]
        exact Z s (by omega)
    · have l' : x1.toInt < 64 := nle_i l
      obtain ⟨r5, f5, e2⟩ := cl_s e1
      have hz := r_eq eM f5
      subst hz
      obtain ⟨_, e3⟩ := gd_s e2
      obtain ⟨h7, w7, e4⟩ := nm_s e3
      obtain ⟨v, ev, e5⟩ := nm_s e4
      have i1 : Rg 0 63 x1 := ⟨a1, by omega⟩
      have ev2 : v.toInt = x1.toInt + 1 := by rw [ev]; exact (nc_s i1 (by decide)).2
      have c1 := clamp_i a1
      obtain ⟨p1, p2, p3⟩ := ih (h := h7) (by rw [w7]; exact f5) (by rw [w7]; exact eH) (by rw [w7]; exact eC) (by omega) (by omega) (fun s hs => by
        rw [w7, r_I]
        by_cases z : s = x1.toNatClampNeg
        · rw [if_pos ⟨rfl, z⟩]
        · rw [if_neg (fun y => z y.2)]
          exact Z s (by omega)) e5
      refine ⟨fun a i => by rw [p1, w7]; rfl, fun a i q => ?_, p3⟩
      rw [p2 a i q, w7, r_I, if_neg (fun y => q.2.1 (by rw [y.1]; exact rM))]
/-- a board that is cleared has no men -/
theorem clear_q {c : Cm} (T : TH ρ c h) (rb : ρ b = 13) (eM : hR h b 0 = some M) (e : sX12_clear F h b = some o) : (∀ a i, hR o a i = hR h a i) ∧ (∀ a i, OB ρ a → hI o a i = hI h a i) ∧ ∀ s : Nat, s < 64 → hI o M s = 0 := by
  obtain ⟨H, eH, rH⟩ := thR T rb (i := 5) (k2 := 64) rfl (by decide)
  obtain ⟨C, eC, rC⟩ := thR T rb (i := 6) (k2 := 65) rfl (by decide)
  have rM : ρ M = 62 := rr T (thR T rb (i := 0) (k2 := 62) rfl (by decide)) eM
  have z0 : (0 : Int32).toInt = 0 := rfl
  unfold sX12_clear at e
  exact cb_2 rb rM rH rC F eM eH eC (by decide) (by decide) (fun s hs => by rw [z0] at hs; omega) e
end
