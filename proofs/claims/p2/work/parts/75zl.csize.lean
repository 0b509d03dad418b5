/-! a man more: a digit more -/
theorem sz_sum {e0 e1 e2 e3 e4 B : Int} (h0 : 0 ≤ e0 ∧ e0 ≤ 24) (h1 : 0 ≤ e1 ∧ e1 ≤ 24) (h2 : 0 ≤ e2 ∧ e2 ≤ 24) (h3 : 0 ≤ e3 ∧ e3 ≤ 24) (h4 : 0 ≤ e4 ∧ e4 ≤ 24) (e : B = e0 + 32 * e1 + 1024 * e2 + 32768 * e3 + 1048576 * e4) : szI B = if e0 = 0 then 0 else if e1 = 0 then 1 else if e2 = 0 then 2 else if e3 = 0 then 3 else if e4 = 0 then 4 else 5 := by
  subst e
  have a0 : (e0 + 32 * e1 + 1024 * e2 + 32768 * e3 + 1048576 * e4) % 32 = e0 := by omega
  have a1 : (e0 + 32 * e1 + 1024 * e2 + 32768 * e3 + 1048576 * e4) / 32 = e1 + 32 * e2 + 1024 * e3 + 32768 * e4 := by omega
  have b1 : (e1 + 32 * e2 + 1024 * e3 + 32768 * e4) % 32 = e1 := by omega
  have a2 : (e0 + 32 * e1 + 1024 * e2 + 32768 * e3 + 1048576 * e4) / 1024 = e2 + 32 * e3 + 1024 * e4 := by omega
  have b2 : (e2 + 32 * e3 + 1024 * e4) % 32 = e2 := by omega
  have a3 : (e0 + 32 * e1 + 1024 * e2 + 32768 * e3 + 1048576 * e4) / 32768 = e3 + 32 * e4 := by omega
  have b3 : (e3 + 32 * e4) % 32 = e3 := by omega
  have a4 : (e0 + 32 * e1 + 1024 * e2 + 32768 * e3 + 1048576 * e4) / 1048576 = e4 := by omega
  have b4 : e4 % 32 = e4 := by omega
  unfold szI
  rw [a0, a1, b1, a2, b2, a3, b3, a4, b4]
section
variable {ρ : Nat → Nat} {c : Cm} {h : Hp} {x x1 : Int32} {F : Nat}
/-- with makes a key one digit longer -/
theorem with3_q (hF : 700000 ≤ F) (a : 0 ≤ x.toInt) (b : x.toInt ≤ 1048575) (K : KyX x) (i : Rg 0 23 x1) : Sat (sX0_with F h x x1) (fun o => o.2 = h ∧ Rg 0 33554431 o.1 ∧ KyX o.1 ∧ szI x.toInt + 1 ≤ szI o.1.toInt) := by
  obtain ⟨d0, d1, d2, d3, d4, h0, h1, h2, h3, h4, ex⟩ := ky_dig a (by omega) ((ky_i a).mp K)
  have z4 : d4 = 0 := by omega
  subst z4
  have i0 := i.1
  have i1 := i.2
  have z1 : (1 : Int32).toInt = 1 := rfl
  have ev : (x1 + (1 : Int32)).toInt = x1.toInt + 1 := by rw [ta (by rw [z1]; omega), z1]
  have iv : Rg 0 31 (x1 + (1 : Int32)) := ⟨by omega, by omega⟩
  have hv : 0 ≤ x1.toInt + 1 ∧ x1.toInt + 1 ≤ 24 := ⟨by omega, by omega⟩
  have sx := sz_sum h0 h1 h2 h3 h4 ex
  have fin : ∀ {z : Int32} {e0 e1 e2 e3 e4 : Int}, (0 ≤ e0 ∧ e0 ≤ 24) → (0 ≤ e1 ∧ e1 ≤ 24) → (0 ≤ e2 ∧ e2 ≤ 24) → (0 ≤ e3 ∧ e3 ≤ 24) → (0 ≤ e4 ∧ e4 ≤ 24) → z.toInt = e0 + 32 * e1 + 1024 * e2 + 32768 * e3 + 1048576 * e4 → szI x.toInt + 1 ≤ (if e0 = 0 then 0 else if e1 = 0 then 1 else if e2 = 0 then 2 else if e3 = 0 then 3 else if e4 = 0 then 4 else 5) → Rg 0 33554431 z ∧ KyX z ∧ szI x.toInt + 1 ≤ szI z.toInt := fun {z e0 e1 e2 e3 e4} q0 q1 q2 q3 q4 e w => ⟨⟨by omega, by omega⟩, (ky_i (by omega)).mpr (ky_sum q0 q1 q2 q3 q4 e), by rw [sz_sum q0 q1 q2 q3 q4 e]; exact w⟩
  have b35 : ∀ s : Int32, (s = 0 ∨ (s = 5 ∧ ¬ d0 = 0) ∨ (s = 10 ∧ ¬ d0 = 0 ∧ ¬ d1 = 0) ∨ (s = 15 ∧ ¬ d0 = 0 ∧ ¬ d1 = 0 ∧ ¬ d2 = 0) ∨ (s = 20 ∧ ¬ d0 = 0 ∧ ¬ d1 = 0 ∧ ¬ d2 = 0 ∧ ¬ d3 = 0)) → Sat (sX0_with_35 F h x x1 s) (fun o => o.2 = h ∧ Rg 0 33554431 o.1 ∧ KyX o.1 ∧ szI x.toInt + 1 ≤ szI o.1.toInt) := by
    intro s hs
    unfold sX0_with_35
    refine s_q (fun v e1 => s_some ⟨rfl, ?_⟩)
    rcases hs with w | ⟨w, n0⟩ | ⟨w, n0, n1⟩ | ⟨w, n0, n1, n2⟩ | ⟨w, n0, n1, n2, n3⟩ <;> subst w <;> subst e1
    · have e := wi_one (x := x) (v := x1 + (1 : Int32)) (m := 0) (s := 0) (s5 := (0 : Int32) + (5 : Int32)) rfl rfl (by decide) rfl a (by omega) iv
      rw [ev] at e
      have e : _ = x.toInt % 1 + (x1.toInt + 1) * 1 + x.toInt / 1 * 32 := e
      refine fin (e0 := x1.toInt + 1) (e1 := d0) (e2 := d1) (e3 := d2) (e4 := d3) hv h0 h1 h2 h3 (by rw [e]; omega) ?_
      rw [sx, if_neg (show ¬ x1.toInt + 1 = 0 by omega)]
      repeat' split
      all_goals omega
    · have e := wi_one (x := x) (v := x1 + (1 : Int32)) (m := 5) (s := 5) (s5 := (5 : Int32) + (5 : Int32)) rfl rfl (by decide) rfl a (by omega) iv
      rw [ev] at e
      have e : _ = x.toInt % 32 + (x1.toInt + 1) * 32 + x.toInt / 32 * 1024 := e
      refine fin (e0 := d0) (e1 := x1.toInt + 1) (e2 := d1) (e3 := d2) (e4 := d3) h0 hv h1 h2 h3 (by rw [e]; omega) ?_
      rw [sx, if_neg n0, if_neg n0, if_neg (show ¬ x1.toInt + 1 = 0 by omega)]
      repeat' split
      all_goals omega
    · have e := wi_one (x := x) (v := x1 + (1 : Int32)) (m := 10) (s := 10) (s5 := (10 : Int32) + (5 : Int32)) rfl rfl (by decide) rfl a (by omega) iv
      rw [ev] at e
      have e : _ = x.toInt % 1024 + (x1.toInt + 1) * 1024 + x.toInt / 1024 * 32768 := e
      refine fin (e0 := d0) (e1 := d1) (e2 := x1.toInt + 1) (e3 := d2) (e4 := d3) h0 h1 hv h2 h3 (by rw [e]; omega) ?_
      rw [sx, if_neg n0, if_neg n1, if_neg n0, if_neg n1, if_neg (show ¬ x1.toInt + 1 = 0 by omega)]
      repeat' split
      all_goals omega
    · have e := wi_one (x := x) (v := x1 + (1 : Int32)) (m := 15) (s := 15) (s5 := (15 : Int32) + (5 : Int32)) rfl rfl (by decide) rfl a (by omega) iv
      rw [ev] at e
      have e : _ = x.toInt % 32768 + (x1.toInt + 1) * 32768 + x.toInt / 32768 * 1048576 := e
      refine fin (e0 := d0) (e1 := d1) (e2 := d2) (e3 := x1.toInt + 1) (e4 := d3) h0 h1 h2 hv h3 (by rw [e]; omega) ?_
      rw [sx, if_neg n0, if_neg n1, if_neg n2, if_neg n0, if_neg n1, if_neg n2, if_neg (show ¬ x1.toInt + 1 = 0 by omega)]
      repeat' split
      all_goals omega
    · have e := wi_one (x := x) (v := x1 + (1 : Int32)) (m := 20) (s := 20) (s5 := (20 : Int32) + (5 : Int32)) rfl rfl (by decide) rfl a (by omega) iv
      rw [ev] at e
      have e : _ = x.toInt % 1048576 + (x1.toInt + 1) * 1048576 + x.toInt / 1048576 * 33554432 := e
      refine fin (e0 := d0) (e1 := d1) (e2 := d2) (e3 := d3) (e4 := x1.toInt + 1) h0 h1 h2 h3 hv (by rw [e]; omega) ?_
      rw [sx, if_neg n0, if_neg n1, if_neg n2, if_neg n3, if_pos rfl, if_neg n0, if_neg n1, if_neg n2, if_neg n3, if_neg (show ¬ x1.toInt + 1 = 0 by omega)]
      omega
  obtain ⟨F, rfl⟩ : ∃ G, F = G + 6 := ⟨F - 6, by omega⟩
  have st : ∀ (f : Nat) (s : Int32), (s = 0 ∨ (s = 5 ∧ ¬ d0 = 0) ∨ (s = 10 ∧ ¬ d0 = 0 ∧ ¬ d1 = 0) ∨ (s = 15 ∧ ¬ d0 = 0 ∧ ¬ d1 = 0 ∧ ¬ d2 = 0) ∨ (s = 20 ∧ ¬ d0 = 0 ∧ ¬ d1 = 0 ∧ ¬ d2 = 0 ∧ ¬ d3 = 0)) → (¬ ((x >>> (s &&& 31)) &&& (31 : Int32)).toInt = 0 → Sat (sX0_with_2 (F + 6) f h x x1 (s + (5 : Int32))) (fun o => o.2 = h ∧ Rg 0 33554431 o.1 ∧ KyX o.1 ∧ szI x.toInt + 1 ≤ szI o.1.toInt)) → Sat (sX0_with_2 (F + 6) (f + 1) h x x1 s) (fun o => o.2 = h ∧ Rg 0 33554431 o.1 ∧ KyX o.1 ∧ szI x.toInt + 1 ≤ szI o.1.toInt) := by
    intro f s hs nx
    rw [sX0_with_2]
    refine s_br (fun _ => b35 s hs) (fun _ => s_br (fun _ => b35 s hs) (fun nd => s_br (fun _ => b35 s hs) (fun _ => s_q (fun y ey => ?_))))
    rw [ey]
    exact nx (fun w => nd (Int32.toInt_inj.mp w))
  have g0 : ((x >>> ((0 : Int32) &&& 31)) &&& (31 : Int32)).toInt = d0 := by rw [dig_i a 0 (0 : Int32) rfl]; show x.toInt / 1 % 32 = d0; omega
  have g1 : ((x >>> ((5 : Int32) &&& 31)) &&& (31 : Int32)).toInt = d1 := by
    rw [dig_i a 5 (5 : Int32) rfl]; show x.toInt / 32 % 32 = d1
    have : x.toInt / 32 = d1 + 32 * d2 + 1024 * d3 := by omega
    rw [this]; omega
  have g2 : ((x >>> ((10 : Int32) &&& 31)) &&& (31 : Int32)).toInt = d2 := by
    rw [dig_i a 10 (10 : Int32) rfl]; show x.toInt / 1024 % 32 = d2
    have : x.toInt / 1024 = d2 + 32 * d3 := by omega
    rw [this]; omega
  have g3 : ((x >>> ((15 : Int32) &&& 31)) &&& (31 : Int32)).toInt = d3 := by
    rw [dig_i a 15 (15 : Int32) rfl]; show x.toInt / 32768 % 32 = d3
    have : x.toInt / 32768 = d3 := by omega
    rw [this]; omega
  have g4 : ((x >>> ((20 : Int32) &&& 31)) &&& (31 : Int32)).toInt = 0 := by
    rw [dig_i a 20 (20 : Int32) rfl]; show x.toInt / 1048576 % 32 = 0
    omega
  unfold sX0_with
  refine st _ 0 (Or.inl rfl) (fun n0 => ?_)
  rw [g0] at n0
  refine st _ 5 (Or.inr (Or.inl ⟨rfl, n0⟩)) (fun n1 => ?_)
  rw [g1] at n1
  refine st _ 10 (Or.inr (Or.inr (Or.inl ⟨rfl, n0, n1⟩))) (fun n2 => ?_)
  rw [g2] at n2
  refine st _ 15 (Or.inr (Or.inr (Or.inr (Or.inl ⟨rfl, n0, n1, n2⟩)))) (fun n3 => ?_)
  rw [g3] at n3
  refine st _ 20 (Or.inr (Or.inr (Or.inr (Or.inr ⟨rfl, n0, n1, n2, n3⟩)))) (fun n4 => ?_)
  exact absurd g4 n4
end
