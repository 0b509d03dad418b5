/-! the reference: its slots cleared, its SETS added, its answer -/
section
variable {ρ : Nat → Nat} {c : Cm} {m rm re rb rk rs ro R Bc Bm F : Nat} {g h : Hp} {x1 : Int32} {b : Int32 × Hp}
theorem r203_e (hA : pmA c [(107, 999)]) (e56 : hR h m 56 = some rs) (qs : ρ rs = 107) : ∀ (f : Nat) {g : Hp} {x3 : Int32}, TH ρ c g → (∀ a i, hR g a i = hR h a i) → (∀ a i, hJ g a i = hJ h a i) → (∀ a i, ¬ a = rs → hI g a i = hI h a i) → 0 ≤ x3.toInt → (∀ j : Nat, (j : Int) < x3.toInt → hI g rs j = 0) → sX15_solve_203 F f g m x1 x3 = some b → ∃ o, TH ρ c o ∧ (∀ a i, hR o a i = hR h a i) ∧ (∀ a i, hJ o a i = hJ h a i) ∧ (∀ a i, ¬ a = rs → hI o a i = hI h a i) ∧ (∀ j : Nat, j < 16384 → hI o rs j = 0) ∧ (cl (sX15_addSet F o m x1) fun o_2 => sX15_solve_228 F o_2.2 m o_2.1) = some b := by
  have z1 : (1 : Int32).toInt = 1 := rfl
  have z16 : (16384 : Int32).toInt = 16384 := rfl
  intro f
  induction f with
  | zero => intro g x3 _ _ _ _ _ _ e; exact absurd e (by rw [sX15_solve_203]; exact fun z => nomatch z)
  | succ f ih =>
    intro g x3 T R J I a3 Z e
    rw [sX15_solve_203] at e
    replace e := br_s e
    rcases e with ⟨l, e⟩ | ⟨l, e⟩
    · have l := le_i l
      rw [z16] at l
      exact ⟨g, T, R, J, I, fun j hj => Z j (by omega), e⟩
    have l := nle_i l
    rw [z16] at l
    replace e := cl_s e; obtain ⟨r3, p, e⟩ := e
    rw [r_eq (by rw [R]; exact e56) p] at e
    replace e := (gd_s e).2
    replace e := nm_s e; obtain ⟨h5, w5, e⟩ := e
    replace e := nm_s e; obtain ⟨v6, w6, e⟩ := e
    have c3 := nc_i a3
    have tx : v6.toInt = x3.toInt + 1 := by rw [w6, ta (by rw [z1]; omega), z1]
    refine ih (g := h5) (by rw [w5]; exact th_wI T qs (k := 107) (lo := 0) (hi := 4096) rfl (rg_b rfl) (by decide) (by decide) (pm_a hA rfl)) (fun a i => by rw [w5]; exact R a i) (fun a i => by rw [w5]; exact J a i) (fun a i n => by rw [w5, rI_a n]; exact I a i n) (by omega) (fun j hj => ?_) e
    rw [w5]
    by_cases z : j = x3.toNatClampNeg
    · rw [z, rI_s]
    · rw [rI_o z]; exact Z j (by omega)
theorem ref_e (hF : 2000000 ≤ F) (hA : pmA c soC) (T : TH ρ c g) (SR : SlR ρ m rm re rb rk rs ro g) (eR : hR g m 4 = some R) (eBc : hR g R 13 = some Bc) (eBm : hR g R 14 = some Bm) (i1 : Rg 2 5 x1) (e49 : (hI g m 49).toInt = 0) (e59 : (hJ g m 59).toInt = 0) (W : RW m x1.toInt g) (Z : ∀ j : Nat, j < 16384 → hI g rs j = 0) (sq : SqOk m g) (hz : hI g R 15 = 0) (e : (cl (sX15_addSet F g m x1) fun o_2 => sX15_solve_228 F o_2.2 m o_2.1) = some b) : ∃ o2, sX15_addSet F g m x1 = some o2 ∧ ((o2.1 = 0 ∧ b.1 = (-104 : Int32)) ∨ (¬ o2.1 = 0 ∧ ∃ o3, sX15_addAll F o2.2 m = some o3 ∧ ((o3.1 = 0 ∧ b.1 = (-104 : Int32)) ∨ (¬ o3.1 = 0 ∧ b.1 = hI o3.2 m 49)))) := by
  have hF7 : 700000 ≤ F := by omega
  have z0 : (0 : Int32).toInt = 0 := rfl
  obtain ⟨⟨r0, qm, qe, qb, qk, qs, qo⟩, ⟨e46, e47, e48, e55, e56, e57⟩⟩ := id SR
  have sr : ∀ {q : Hp}, Kf ρ seL g q → SlR ρ m rm re rb rk rs ro q := fun Kg => ⟨⟨r0, qm, qe, qb, qk, qs, qo⟩, ⟨by rw [kfR 46 Kg r0]; exact e46, by rw [kfR 47 Kg r0]; exact e47, by rw [kfR 48 Kg r0]; exact e48, by rw [kfR 55 Kg r0]; exact e55, by rw [kfR 56 Kg r0]; exact e56, by rw [kfR 57 Kg r0]; exact e57⟩⟩
  have qR : ρ R = 15 := rr T (thR T r0 (i := 4) (k2 := 15) rfl (by decide)) eR
  have hA' : pmA c seL := pmA_s hA rfl
  have P := se_init (x0 := m) (h := g) e49 e59 (fun r er j hj => by rw [r_eq e56 er, Z j hj, z0]; exact Int.le_refl _)
  replace e := cl_s e; obtain ⟨o2, eq2, e⟩ := e
  obtain ⟨T2', i2, P2, _, l2⟩ := sat_e (zX15_addSet (c := cat c (fS seL []) g) hF7 fs_a (th_in _ T) r0 (rg_m i1 (by decide)) P W) eq2
  have T2 := th_out T (fs_sub hA' fs_n) T2'
  have K2 : Kf ρ seL g o2.2 := kf_of (fr_u T T2'.2.2) rfl
  refine ⟨o2, eq2, ?_⟩
  unfold sX15_solve_228 sX15_solve_235 sX15_solve_238 at e
  replace e := br_s e
  rcases e with ⟨z, e⟩ | ⟨nz, e⟩
  · exact Or.inl ⟨z, by rw [← Option.some.inj e]⟩
  refine Or.inr ⟨nz, ?_⟩
  replace e := cl_s e; obtain ⟨o3, eq3, e⟩ := e
  obtain ⟨T3', i3, P3, l3⟩ := sat_e (zX15_addAll (c := cat c (fS seL []) o2.2) hF7 fs_a (th_in _ T2) r0 P2 (l2 nz)) eq3
  have T3 := th_out T2 (fs_sub hA' fs_n) T3'
  have K3 : Kf ρ seL g o3.2 := kf_t K2 (kf_of (fr_u T2 T3'.2.2) rfl)
  refine ⟨o3, eq3, ?_⟩
  replace e := br_s e
  rcases e with ⟨z, e⟩ | ⟨nz3, e⟩
  · exact Or.inl ⟨z, by rw [← Option.some.inj e]⟩
  refine Or.inr ⟨nz3, ?_⟩
  have M2 := ((ads_t hF7 hA' SR T P (rg_m i1 (by decide)) W eq2).2 nz).1
  obtain ⟨M3, C3⟩ := all_q hF7 hA' (sr K2) T2 P2 (by rw [kfR 4 K2 r0]; exact eR) (by rw [kfR 13 K2 qR]; exact eBc) (by rw [kfR 14 K2 qR]; exact eBm) eq3 nz3
  have MM := mo_t (fun k => by
    have i := thI T2 qm (k := 99) (i := k) (lo := 0) (hi := 5) rfl
    have := clamp_i i.1
    have := i.2
    omega) M2 M3
  obtain ⟨rp, e58, _⟩ := thR T3 r0 (i := 58) (k2 := 109) rfl (by decide)
  obtain ⟨rt, e61, _⟩ := thR T3 r0 (i := 61) (k2 := 110) rfl (by decide)
  obtain ⟨rw', e51, _⟩ := thR T3 r0 (i := 51) (k2 := 102) rfl (by decide)
  obtain ⟨mb, e53, _⟩ := thR T3 r0 (i := 53) (k2 := 104) rfl (by decide)
  have tl := sat_e (tail_r hF hA T3 (sr K3) e58 e61 e51 e53 (by rw [kfR 4 K3 r0]; exact eR) (by rw [kfR 13 K3 qR]; exact eBc) (by rw [kfR 14 K3 qR]; exact eBm) P3 (fun k hk => by
    obtain ⟨s1, s2⟩ := MM.2.2.2.2.2.2 k (by rw [e49]; omega) hk
    exact ⟨s1, s2, fun i hi => C3 k hk i hi⟩) (by unfold SqOk; rw [kfI 13 K3 r0, kfI 11 K3 r0, kfI 12 K3 r0]; exact sq) (by rw [kfI 15 K3 qR]; exact hz) l3) e
  rw [t246 F e]
  exact tl
end
