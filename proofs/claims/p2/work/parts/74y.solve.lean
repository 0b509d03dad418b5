/-! the rows of a solution are cleared (as many rounds as there may be masks: more than 1500000) -/
section
variable {ρ : Nat → Nat} {c : Cm} {h o h0 : Hp} {x0 rk rc F : Nat} {x3 x4 : Int32}
theorem eqh_t {h1 h2 : Hp} (a : EQh h0 h1) (b : EQh h1 h2) : EQh h0 h2 := ⟨fun x i => (b.1 x i).trans (a.1 x i), fun x i => (b.2 x i).trans (a.2 x i)⟩
/-- so many masks are 0 -/
def MZ (rk : Nat) (n : Int) (h : Hp) : Prop := ∀ i : Nat, (i : Int) < n → hJ h rk i = 0
theorem so_330 {n : Int} (nr : ¬ ρ rk = 105) {Q : Int32 × Hp → Prop} (hA : pmA c [(105, 999)]) (r0 : ρ x0 = 16) (K : ∀ o, TH ρ c o → EQh h0 o → MZ rk n o → Sat (sX15_solve_357 F F o x0 (0 : Int32)) Q) : ∀ (f : Nat) {h : Hp} {x4 : Int32}, TH ρ c h → EQh h0 h → MZ rk n h → 0 ≤ x4.toInt → (9377 - x4.toInt).toNat < f → Sat (sX15_solve_330 F f h x0 x4) Q := by
  intro f
  induction f with
  | zero => intros; omega
  | succ f ih =>
    intro h x4 T E Z a4 hf
    rw [sX15_solve_330]
    obtain ⟨r1, e1, q1⟩ := thR T r0 (i := 54) (k2 := 105) rfl (by decide)
    have hn : hN h r1 = 9376 := thN T q1 (k := 105) (n := 9376) rfl (by decide)
    have z : (nI 9376).toInt = 9376 := rfl
    refine s_ref e1 ?_
    rw [hn]
    refine s_br (fun _ => K h T E Z) (fun n1 => ?_)
    have l4 := nle_i n1
    rw [z] at l4
    have i4 : Rg 0 9375 x4 := ⟨a4, by omega⟩
    refine s_ref e1 ?_
    refine s_gd (by rw [hn]; exact rg_inB i4 (by decide)) ?_
    refine s_hq (th_wJ T q1 (by decide) (pm_a hA rfl)) (fun h5 T5 w5 => ?_)
    refine s_q (fun y ey => ?_)
    have ey2 : y.toInt = x4.toInt + 1 := by rw [ey]; exact (nc_s i4 (by decide)).2
    clear ey
    refine ih T5 (eqh_t E ⟨fun a i => by rw [w5]; rfl, fun a i => by rw [w5]; rfl⟩) (fun i hi => ?_) (by omega) (by omega)
    rw [w5, r_J, if_neg (fun w => nr (by rw [w.1]; exact q1))]
    exact Z i hi
theorem so_307 {Q : Int32 × Hp → Prop} (hF : 1600000 ≤ F) (hA : pmA c [(103, 999), (105, 999)]) (r0 : ρ x0 = 16) (qk : ρ rk = 103) (ek : hR h0 x0 52 = some rk) (i3 : Rg 0 1500000 x3) (K : ∀ o, TH ρ c o → EQh h0 o → MZ rk x3.toInt o → Sat (sX15_solve_357 F F o x0 (0 : Int32)) Q) : ∀ (f : Nat) {h : Hp} {x4 : Int32}, TH ρ c h → EQh h0 h → 0 ≤ x4.toInt → x4.toInt ≤ x3.toInt → MZ rk x4.toInt h → (1500001 - x4.toInt).toNat < f → Sat (sX15_solve_307 F f h x0 x3 x4) Q := by
  have b3 := i3.2
  intro f
  induction f with
  | zero => intros; omega
  | succ f ih =>
    intro h x4 T E a4 b4 Z hf
    rw [sX15_solve_307]
    have z0 : (0 : Int32).toInt = 0 := rfl
    refine s_br (fun l => so_330 (n := x3.toInt) (rk := rk) (by rw [qk]; decide) (pmA_s hA rfl) r0 K F T E (fun i hi => Z i (by have := le_i l; omega)) (by decide) (by rw [z0]; omega)) (fun n1 => ?_)
    have l4 := nle_i n1
    have i4 : Rg 0 1499999 x4 := ⟨a4, by omega⟩
    refine s_ref (by rw [E.2]; exact ek) ?_
    refine s_gd (by rw [thN T qk (k := 103) (n := 1500000) rfl (by decide)]; exact rg_inB i4 (by decide)) ?_
    refine s_hq (th_wJ T qk (by decide) (pm_a hA rfl)) (fun h5 T5 w5 => ?_)
    refine s_q (fun y ey => ?_)
    have ey2 : y.toInt = x4.toInt + 1 := by rw [ey]; exact (nc_s i4 (by decide)).2
    clear ey
    refine ih T5 (eqh_t E ⟨fun a i => by rw [w5]; rfl, fun a i => by rw [w5]; rfl⟩) (by omega) (by omega) (fun i hi => ?_) (by omega)
    have c4 := clamp_i a4
    rw [w5]
    by_cases w : i = x4.toNatClampNeg
    · rw [r_J, if_pos ⟨rfl, w⟩]
    · rw [r_J, if_neg (fun q => w q.2)]
      exact Z i (by omega)
end
