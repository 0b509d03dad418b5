theorem s_val {α β : Type} {x : Option α} {a : α} {k : α → Option β} {Q : β → Prop} (e : x = some a) (h : Sat (k a) Q) : Sat (cl x k) Q := by
  subst e; exact h
section
variable {ρ : Nat → Nat} {c : Cm} {h : Hp}
theorem digit_ {x0 : Int32} : Sat (sX2_isDigit h x0) (ZP0 h 0 1 0 (Rg 48 57 x0)) := by
  unfold sX2_isDigit sX2_isDigit_16 sX2_isDigit_17
  refine s_br (fun c1 => s_gd (by decide) (s_some ⟨rfl, rg_b rfl, fun q => absurd rfl q⟩)) (fun c1 => ?_)
  refine s_br (fun c2 => s_gd (by decide) (s_some ⟨rfl, rg_b rfl, fun q => absurd rfl q⟩)) (fun c2 => ?_)
  refine s_gd (by decide) (s_some ⟨rfl, rg_b rfl, fun _ => ?_⟩)
  rw [Int32.lt_iff_toInt_lt, show (48 : Int32).toInt = 48 from rfl] at c1
  rw [Int32.lt_iff_toInt_lt, show (57 : Int32).toInt = 57 from rfl] at c2
  exact ⟨by omega, by omega⟩
def Sc (h : Hp) (x0 : Nat) (x1 : Int32) : Prop := x1.toInt ≤ (hI h x0 3).toInt ∧ 0 ≤ (hI h x0 5).toInt ∧ (hI h x0 5).toInt ≤ 99 ∧ ((hI h x0 3).toInt = x1.toInt → (hI h x0 5).toInt = 0) ∧ ((hI h x0 3).toInt = x1.toInt + 1 → (hI h x0 5).toInt ≤ 9)
theorem scan121 {F x0 : Nat} {x1 t0 : Int32} (hA : pmA c [(3, 3), (3, 4), (3, 5)]) (T : TH ρ c h) (r0 : ρ x0 = 3) (it : Rg 0 5 t0) : Sat (sX2_scanNumber_121 F h x0 x1 t0 x0) (ZV ρ c) := by
  unfold sX2_scanNumber_121 sX2_scanNumber_141
  refine s_h (th_wI T r0 (k := 3) (lo := 0) (hi := 5) rfl it (by decide) (by decide)) (fun h1 T1 => ?_)
  refine s_br (fun c1 => s_some T1) (fun c1 => ?_)
  refine s_h (th_wI T1 r0 (k := 3) (lo := -99) (hi := 99) rfl ?_ (by decide) (by decide)) (fun h3 T3 => s_some T3)
  exact rg_neg (thI T1 r0 (k := 3) (i := 5) (lo := -99) (hi := 99) rfl) (by decide)
theorem scan97 {F x0 : Nat} {x1 : Int32} (hA : pmA c [(3, 3), (3, 4), (3, 5)]) (T : TH ρ c h) (r0 : ρ x0 = 3) : Sat (sX2_scanNumber_97 F h x0 x1) (ZV ρ c) := by
  unfold sX2_scanNumber_97 sX2_scanNumber_116
  refine s_br (fun c1 => scan121 hA T r0 (rg_b rfl)) (fun c1 => ?_)
  exact s_br (fun c2 => scan121 hA T r0 (rg_b rfl)) (fun c2 => scan121 hA T r0 (rg_b rfl))
theorem scan81 {F x0 : Nat} {x1 t0 : Int32} {k : Hp → Nat → Int32 → Option Hp} (hA : pmA c [(3, 3), (3, 4), (3, 5)]) (T : TH ρ c h) (r0 : ρ x0 = 3) (it : Rg 0 99 t0) (i3 : Rg 0 1199 (hI h x0 3)) (hk : ∀ g, TH ρ c g → (hI g x0 3).toInt = (hI h x0 3).toInt + 1 → hI g x0 5 = t0 → Sat (k g x0 x1) (ZV ρ c)) : Sat (sX2_scanNumber_81 F k h x0 x1 t0 x0) (ZV ρ c) := by
  unfold sX2_scanNumber_81
  refine s_hq (th_wI T r0 (k := 3) (lo := -99) (hi := 99) rfl (rg_m it (by decide)) (by decide) (by decide)) (fun h1 T1 e1 => ?_)
  have a1 : hI h1 x0 3 = hI h x0 3 := by rw [e1, r_I, if_neg (fun q => absurd q.2 (by decide))]
  have w : (hI h1 x0 3 + (1 : Int32)).toInt = (hI h x0 3).toInt + 1 := by rw [a1]; exact rg_inc i3 (by decide)
  have j1 := i3.1
  have j2 := i3.2
  refine s_hq (th_wI T1 r0 (k := 3) (lo := 0) (hi := 1201) rfl ⟨by omega, by omega⟩ (by decide) (by decide)) (fun h2 T2 e2 => ?_)
  refine hk h2 T2 ?_ ?_
  · rw [e2, r_I, if_pos ⟨rfl, rfl⟩]; exact w
  · rw [e2, r_I, if_neg (fun q => absurd q.2 (by decide)), e1, r_I, if_pos ⟨rfl, rfl⟩]
theorem scan10 {F x0 : Nat} {x1 : Int32} (hF : 700000 ≤ F) (m1 : c.2.1 1 = true) (hA : pmA c [(3, 3), (3, 4), (3, 5)]) (r0 : ρ x0 = 3) (ix : Rg 0 1201 x1) : ∀ (f : Nat) {h : Hp}, TH ρ c h → Sc h x0 x1 → (1201 - (hI h x0 3).toInt).toNat < f → Sat (sX2_scanNumber_10 F f h x0 x1) (ZV ρ c) := by
  intro f
  induction f with
  | zero => intros; omega
  | succ f ih =>
    intro h T K hm
    rw [sX2_scanNumber_10]
    obtain ⟨r, er, qr⟩ := thM T r0 (i := 0) (j := 1) (k2 := 10) rfl (by decide) rfl (by decide) m1
    refine s_ref er ?_
    refine s_br (fun c1 => scan97 hA T r0) (fun c1 => ?_)
    refine s_ref er ?_
    obtain ⟨⟨v4, g4⟩, eb, e4, i4, p4⟩ := zX9_byteAt hF T qr (rg_top (hI h x0 3))
    dsimp only at e4 i4 p4
    subst e4
    refine s_val eb ?_
    dsimp only
    refine s_cP0 digit_ (fun o5 e5 i5 p5 => ?_)
    obtain ⟨v5, g5⟩ := o5
    dsimp only at e5 i5 p5 ⊢
    subst e5
    refine s_br (fun c2 => scan97 hA T r0) (fun c2 => ?_)
    have d4 := p5 c2
    have n4 : ¬ v4 = -1 := fun q => rc_eq q d4 (rg_b rfl : Rg (-1) (-1) (-1 : Int32)) (by decide)
    have i3 := p4 n4
    obtain ⟨k1, k2, k3, k4, k5⟩ := K
    refine s_br (fun c3 => ?_) (fun c3 => ?_)
    · have c3' : x1.toInt + 2 ≤ (hI g5 x0 3).toInt := by
        rw [Int32.le_iff_toInt_le, show (2 : Int32).toInt = 2 from rfl] at c3
        have := (rg_sub (lo := -1201) (hi := 1199) i3 ix (by decide))
        have e : (hI g5 x0 3 - x1).toInt = (hI g5 x0 3).toInt - x1.toInt := by
          have a := i3.1
          have b := i3.2
          have a' := ix.1
          have b' := ix.2
          rw [Int32.toInt_sub]
          exact Int.bmod_eq_of_le_mul_two (by omega) (by omega)
        omega
      refine scan81 hA T r0 ⟨k2, k3⟩ i3 (fun g Tg w3 w5 => ?_)
      have b := i3.2
      refine ih Tg ⟨by omega, by rw [w5]; exact k2, by rw [w5]; exact k3, fun q => by omega, fun q => by omega⟩ (by omega)
    · refine s_ref er ?_
      refine s_val eb ?_
      dsimp only
      have c3' : (hI g5 x0 3).toInt ≤ x1.toInt + 1 := by
        rw [Int32.le_iff_toInt_le, show (2 : Int32).toInt = 2 from rfl] at c3
        have e : (hI g5 x0 3 - x1).toInt = (hI g5 x0 3).toInt - x1.toInt := by
          have a := i3.1
          have b := i3.2
          have a' := ix.1
          have b' := ix.2
          rw [Int32.toInt_sub]
          exact Int.bmod_eq_of_le_mul_two (by omega) (by omega)
        omega
      have d1 := d4.1
      have d2 := d4.2
      have v9 : (hI g5 x0 5).toInt ≤ 9 := by
        by_cases z : (hI g5 x0 3).toInt = x1.toInt
        · have := k4 z
          omega
        · exact k5 (by omega)
      have A : ((10 : Int32) * hI g5 x0 5).toInt = 10 * (hI g5 x0 5).toInt := by
        rw [Int32.toInt_mul, show (10 : Int32).toInt = 10 from rfl]
        exact Int.bmod_eq_of_le_mul_two (by omega) (by omega)
      have B : ((10 : Int32) * hI g5 x0 5 + v4).toInt = 10 * (hI g5 x0 5).toInt + v4.toInt := by
        rw [Int32.toInt_add, A]
        exact Int.bmod_eq_of_le_mul_two (by omega) (by omega)
      have C : ((10 : Int32) * hI g5 x0 5 + v4 - (48 : Int32)).toInt = 10 * (hI g5 x0 5).toInt + v4.toInt - 48 := by
        rw [Int32.toInt_sub, B, show (48 : Int32).toInt = 48 from rfl]
        exact Int.bmod_eq_of_le_mul_two (by omega) (by omega)
      refine scan81 hA T r0 ⟨by omega, by omega⟩ i3 (fun g Tg w3 w5 => ?_)
      have b := i3.2
      refine ih Tg ⟨by omega, by rw [w5]; omega, by rw [w5]; omega, fun q => by omega, fun q => ?_⟩ (by omega)
      rw [w5, C]
      have := k4 (by omega)
      omega
theorem zX2_scanNumber {F : Nat} (hF : 700000 ≤ F) (m1 : c.2.1 1 = true) {x0 : Nat} {x1 : Int32} (hA : pmA c [(3, 3), (3, 4), (3, 5)]) (T : TH ρ c h) (r0 : ρ x0 = 3) (ix : Rg 0 1201 x1) : Sat (sX2_scanNumber F h x0 x1) (ZV ρ c) := by
  unfold sX2_scanNumber
  refine s_hq (th_wI T r0 (k := 3) (lo := -99) (hi := 99) rfl (rg_b rfl) (by decide) (by decide)) (fun h1 T1 e1 => ?_)
  refine s_hq (th_wI T1 r0 (k := 3) (lo := 0) (hi := 1201) rfl ix (by decide) (by decide)) (fun h2 T2 e2 => ?_)
  have a3 : hI h2 x0 3 = x1 := by rw [e2, r_I, if_pos ⟨rfl, rfl⟩]
  have a5 : hI h2 x0 5 = 0 := by rw [e2, r_I, if_neg (fun q => absurd q.2 (by decide)), e1, r_I, if_pos ⟨rfl, rfl⟩]
  have z : (0 : Int32).toInt = 0 := rfl
  have j1 := ix.1
  refine scan10 hF m1 hA r0 ix F T2 ⟨by rw [a3]; omega, by rw [a5, z]; omega, by rw [a5, z]; omega, fun _ => by rw [a5, z], fun _ => by rw [a5, z]; omega⟩ (by rw [a3]; omega)
end
