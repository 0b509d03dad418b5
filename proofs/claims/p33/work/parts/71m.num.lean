section
variable {ρ : Nat → Nat} {c : Cm} {h : Hp}
theorem zX2_isNumber {F : Nat} (hF : 700000 ≤ F) {x0 : Nat} {x1 x2 : Int32} {a b d e : Int} (i1 : Rg a b x1) (i2 : Rg d e x2) : Sat (sX2_isNumber h x0 x1 x2) (ZP0 h 0 1 0 (Rg a e (hI h x0 5))) := by
  unfold sX2_isNumber sX2_isNumber_28 sX2_isNumber_29
  refine s_br (fun c1 => ?_) (fun c1 => s_gd (by decide) (s_some ⟨rfl, rg_b rfl, fun q => absurd rfl q⟩))
  refine s_br (fun c2 => s_gd (by decide) (s_some ⟨rfl, rg_b rfl, fun q => absurd rfl q⟩)) (fun c2 => ?_)
  refine s_br (fun c3 => s_gd (by decide) (s_some ⟨rfl, rg_b rfl, fun q => absurd rfl q⟩)) (fun c3 => ?_)
  refine s_gd (by decide) (s_some ⟨rfl, rg_b rfl, fun _ => ?_⟩)
  rw [Int32.lt_iff_toInt_lt] at c2 c3
  have := i1.1
  have := i2.2
  exact ⟨by omega, by omega⟩
theorem zX15_isNumber {F : Nat} (hF : 700000 ≤ F) {x0 : Nat} {x1 x2 : Int32} {a b d e : Int} (i1 : Rg a b x1) (i2 : Rg d e x2) : Sat (sX15_isNumber h x0 x1 x2) (ZP0 h 0 1 0 (Rg a e (hI h x0 9) ∧ Rg 2 2 (hI h x0 6))) := by
  unfold sX15_isNumber sX15_isNumber_28 sX15_isNumber_29
  refine s_br (fun c1 => ?_) (fun c1 => s_gd (by decide) (s_some ⟨rfl, rg_b rfl, fun q => absurd rfl q⟩))
  refine s_br (fun c2 => s_gd (by decide) (s_some ⟨rfl, rg_b rfl, fun q => absurd rfl q⟩)) (fun c2 => ?_)
  refine s_br (fun c3 => s_gd (by decide) (s_some ⟨rfl, rg_b rfl, fun q => absurd rfl q⟩)) (fun c3 => ?_)
  refine s_gd (by decide) (s_some ⟨rfl, rg_b rfl, fun _ => ?_⟩)
  rw [Int32.lt_iff_toInt_lt] at c2 c3
  have := i1.1
  have := i2.2
  exact ⟨⟨by omega, by omega⟩, rg_eq c1 (rg_b rfl)⟩
end
