section
theorem s_val {α β : Type} {x : Option α} {a : α} {k : α → Option β} {Q : β → Prop} (e : x = some a) (h : Sat (k a) Q) : Sat (cl x k) Q := by
  subst e; exact h
section
variable {ρ : Nat → Nat} {c : Cm} {h : Hp}
theorem digit_ {x0 : Int32} : Sat (sX2_isDigit h x0) (ZP0 h 0 1 0 (Rg 48 57 x0)) := by
  unfold sX2_isDigit sX2_isDigit_16 sX2_isDigit_17
  refine s_br (fun c1 => s_gd (by decide) (s_some ⟨rfl, rg_b rfl, fun q => absurd rfl q⟩)) (fun c1 => ?_)
  refine s_br (fun c2 => s_gd (by decide) (s_some ⟨rfl, rg_b rfl, fun q => absurd rfl q⟩)) (fun c2 => ?_)
  refine s_gd (by decide) (s_some ⟨rfl, rg_b rfl, fun _ => ?_⟩)
  rw [Int32.lt_iff_toInt_lt, show (48 : Int32).toInt = 48 from rfl] at c1
  rw [Int32.lt_iff_toInt_lt, show (57 : Int32).toInt = 57 from rfl] at c2
  exact ⟨by omega, by omega⟩
def Sc (h : Hp) (x0 : Nat) (x1 : Int32) : Prop := x1.toInt ≤ (hI h x0 3).toInt ∧ 0 ≤ (hI h x0 5).toInt ∧ (hI h x0 5).toInt ≤ 99 ∧ ((hI h x0 3).toInt = x1.toInt → (hI h x0 5).toInt = 0) ∧ ((hI h x0 3).toInt = x1.toInt + 1 → (hI h x0 5).toInt ≤ 9)
theorem scan121 {F x0 : Nat} {x1 t0 : Int32} (hA : pmA c [(3, 3), (3, 4), (3, 5)]) (T : TH ρ c h) (r0 : ρ x0 = 3) (it : Rg 0 5 t0) : Sat (sX2_scanNumber_121 F h x0 x1 t0 x0) (ZV ρ c) := by
  unfold sX2_scanNumber_121 sX2_scanNumber_141
  refine s_h (th_wI T r0 (k := 3) (lo := 0) (hi := 5) rfl it (by decide) (by decide)) (fun h1 T1 => ?_)
  refine s_br (fun c1 => s_some T1) (fun c1 => ?_)
  refine s_h (th_wI T1 r0 (k := 3) (lo := -99) (hi := 99) rfl ?_ (by decide) (by decide)) (fun h3 T3 => s_some T3)
  exact rg_neg (thI T1 r0 (k := 3) (i := 5) (lo := -99) (hi := 99) rfl) (by decide)
theorem scan97 {F x0 : Nat} {x1 : Int32} (hA : pmA c [(3, 3), (3, 4), (3, 5)]) (T : TH ρ c h) (r0 : ρ x0 = 3) : Sat (sX2_scanNumber_97 F h x0 x1) (ZV ρ c) := by
  unfold sX2_scanNumber_97 sX2_scanNumber_116
  refine s_br (fun c1 => scan121 hA T r0 (rg_b rfl)) (fun c1 => ?_)
  exact s_br (fun c2 => scan121 hA T r0 (rg_b rfl)) (fun c2 => scan121 hA T r0 (rg_b rfl))
theorem scan81 {F x0 : Nat} {x1 t0 : Int32} {k : Hp → Nat → Int32 → Option Hp} (hA : pmA c [(3, 3), (3, 4), (3, 5)]) (T : TH ρ c h) (r0 : ρ x0 = 3) (it : Rg 0 99 t0) (i3 : Rg 0 1199 (hI h x0 3)) (hk : ∀ g, TH ρ c g → (hI g x0 3).toInt = (hI h x0 3).toInt + 1 → hI g x0 5 = t0 → Sat (k g x0 x1) (ZV ρ c)) : Sat (sX2_scanNumber_81 F k h x0 x1 t0 x0) (ZV ρ c) := by
  unfold sX2_scanNumber_81
  refine s_hq (th_wI T r0 (k := 3) (lo := -99) (hi := 99) rfl (rg_m it (by decide)) (by decide) (by decide)) (fun h1 T1 e1 => ?_)
  have a1 : hI h1 x0 3 = hI h x0 3 := by rw [e1, r_I, if_neg (fun q => absurd q.2 (by decide))]
  have w : (hI h1 x0 3 + (1 : Int32)).toInt = (hI h x0 3).toInt + 1 := by rw [a1]; exact rg_inc i3 (by decide)
  have j1 := i3.1
  have j2 := i3.2
  refine s_hq (th_wI T1 r0 (k := 3) (lo := 0) (hi := 1201) rfl ⟨by omega, by omega⟩ (by decide) (by decide)) (fun h2 T2 e2 => ?_)
  refine hk h2 T2 ?_ ?_
  · rw [e2, r_I, if_pos ⟨rfl, rfl⟩]; exact w
  · rw [e2, r_I, if_neg (fun q => absurd q.2 (by decide)), e1, r_I, if_pos ⟨rfl, rfl⟩]
theorem scan10 {F x0 : Nat} {x1 : Int32} (hF : 700000 ≤ F) (m1 : c.2.1 1 = true) (hA : pmA c [(3, 3), (3, 4), (3, 5)]) (r0 : ρ x0 = 3) (ix : Rg 0 1201 x1) : ∀ (f : Nat) {h : Hp}, TH ρ c h → Sc h x0 x1 → (1201 - (hI h x0 3).toInt).toNat < f → Sat (sX2_scanNumber_10 F f h x0 x1) (ZV ρ c) := by
  intro f
  induction f with
  | zero => intros; omega
  | succ f ih =>
    intro h T K hm
    rw [sX2_scanNumber_10]
    obtain ⟨r, er, qr⟩ := thM T r0 (i := 0) (j := 1) (k2 := 10) rfl (by decide) rfl (by decide) m1
    refine s_ref er ?_
    refine s_br (fun c1 => scan97 hA T r0) (fun c1 => ?_)
    refine s_ref er ?_
    obtain ⟨⟨v4, g4⟩, eb, e4, i4, p4⟩ := zX9_byteAt hF T qr (rg_top (hI h x0 3))
    dsimp only at e4 i4 p4
    subst e4
    refine s_val eb ?_
    dsimp only
    refine s_cP0 digit_ (fun o5 e5 i5 p5 => ?_)
    obtain ⟨v5, g5⟩ := o5
    dsimp only at e5 i5 p5 ⊢
    subst e5
    refine s_br (fun c2 => scan97 hA T r0) (fun c2 => ?_)
    have d4 := p5 c2
    have n4 : ¬ v4 = -1 := fun q => rc_eq q d4 (rg_b rfl : Rg (-1) (-1) (-1 : Int32)) (by decide)
    have i3 := p4 n4
    obtain ⟨k1, k2, k3, k4, k5⟩ := K
    refine s_br (fun c3 => ?_) (fun c3 => ?_)
    · have c3' : x1.toInt + 2 ≤ (hI g5 x0 3).toInt := by
        rw [Int32.le_iff_toInt_le, show (2 : Int32).toInt = 2 from rfl] at c3
        have := (rg_sub (lo := -1201) (hi := 1199) i3 ix (by decide))
        have e : (hI g5 x0 3 - x1).toInt = (hI g5 x0 3).toInt - x1.toInt := by
          have a := i3.1
          have b := i3.2
          have a' := ix.1
          have b' := ix.2
          rw [Int32.toInt_sub]
          exact Int.bmod_eq_of_le_mul_two (by omega) (by omega)
        omega
      refine scan81 hA T r0 ⟨k2, k3⟩ i3 (fun g Tg w3 w5 => ?_)
      have b := i3.2
      refine ih Tg ⟨by omega, by rw [w5]; exact k2, by rw [w5]; exact k3, fun q => by omega, fun q => by omega⟩ (by omega)
    · refine s_ref er ?_
      refine s_val eb ?_
      dsimp only
      have c3' : (hI g5 x0 3).toInt ≤ x1.toInt + 1 := by
        rw [Int32.le_iff_toInt_le, show (2 : Int32).toInt = 2 from rfl] at c3
        have e : (hI g5 x0 3 - x1).toInt = (hI g5 x0 3).toInt - x1.toInt := by
          have a := i3.1
          have b := i3.2
          have a' := ix.1
          have b' := ix.2
          rw [Int32.toInt_sub]
          exact Int.bmod_eq_of_le_mul_two (by omega) (by omega)
        omega
      have d1 := d4.1
      have d2 := d4.2
      have v9 : (hI g5 x0 5).toInt ≤ 9 := by
        by_cases z : (hI g5 x0 3).toInt = x1.toInt
        · have := k4 z
          omega
        · exact k5 (by omega)
      have A : ((10 : Int32) * hI g5 x0 5).toInt = 10 * (hI g5 x0 5).toInt := by
        rw [Int32.toInt_mul, show (10 : Int32).toInt = 10 from rfl]
        exact Int.bmod_eq_of_le_mul_two (by omega) (by omega)
      have B : ((10 : Int32) * hI g5 x0 5 + v4).toInt = 10 * (hI g5 x0 5).toInt + v4.toInt := by
        rw [Int32.toInt_add, A]
        exact Int.bmod_eq_of_le_mul_two (by omega) (by omega)
      have C : ((10 : Int32) * hI g5 x0 5 + v4 - (48 : Int32)).toInt = 10 * (hI g5 x0 5).toInt + v4.toInt - 48 := by
        rw [Int32.toInt_sub, B, show (48 : Int32).toInt = 48 from rfl]
        exact Int.bmod_eq_of_le_mul_two (by omega) (by omega)
      refine scan81 hA T r0 ⟨by omega, by omega⟩ i3 (fun g Tg w3 w5 => ?_)
      have b := i3.2
      refine ih Tg ⟨by omega, by rw [w5]; omega, by rw [w5]; omega, fun q => by omega, fun q => ?_⟩ (by omega)
      rw [w5, C]
      have := k4 (by omega)
      omega
theorem zX2_scanNumber {F : Nat} (hF : 700000 ≤ F) (m1 : c.2.1 1 = true) {x0 : Nat} {x1 : Int32} (hA : pmA c [(3, 3), (3, 4), (3, 5)]) (T : TH ρ c h) (r0 : ρ x0 = 3) (ix : Rg 0 1201 x1) : Sat (sX2_scanNumber F h x0 x1) (ZV ρ c) := by
  unfold sX2_scanNumber
  refine s_hq (th_wI T r0 (k := 3) (lo := -99) (hi := 99) rfl (rg_b rfl) (by decide) (by decide)) (fun h1 T1 e1 => ?_)
  refine s_hq (th_wI T1 r0 (k := 3) (lo := 0) (hi := 1201) rfl ix (by decide) (by decide)) (fun h2 T2 e2 => ?_)
  have a3 : hI h2 x0 3 = x1 := by rw [e2, r_I, if_pos ⟨rfl, rfl⟩]
  have a5 : hI h2 x0 5 = 0 := by rw [e2, r_I, if_neg (fun q => absurd q.2 (by decide)), e1, r_I, if_pos ⟨rfl, rfl⟩]
  have z : (0 : Int32).toInt = 0 := rfl
  have j1 := ix.1
  refine scan10 hF m1 hA r0 ix F T2 ⟨by rw [a3]; omega, by rw [a5, z]; omega, by rw [a5, z]; omega, fun _ => by rw [a5, z], fun _ => by rw [a5, z]; omega⟩ (by rw [a3]; omega)
end
end
section
section
variable {ρ : Nat → Nat} {c : Cm} {h : Hp}
theorem letter_ {x0 : Int32} : Sat (sX2_isLetter h x0) (ZP0 h 0 1 0 (Rg 97 122 x0)) := by
  unfold sX2_isLetter sX2_isLetter_16 sX2_isLetter_17
  refine s_br (fun c1 => s_gd (by decide) (s_some ⟨rfl, rg_b rfl, fun q => absurd rfl q⟩)) (fun c1 => ?_)
  refine s_br (fun c2 => s_gd (by decide) (s_some ⟨rfl, rg_b rfl, fun q => absurd rfl q⟩)) (fun c2 => ?_)
  refine s_gd (by decide) (s_some ⟨rfl, rg_b rfl, fun _ => ?_⟩)
  rw [Int32.lt_iff_toInt_lt, show (97 : Int32).toInt = 97 from rfl] at c1
  rw [Int32.lt_iff_toInt_lt, show (122 : Int32).toInt = 122 from rfl] at c2
  exact ⟨by omega, by omega⟩
/-- a write that is written over -/
theorem th_w343 {x0 : Nat} {u v w : Int32} (hA : pmA c [(3, 2), (3, 3), (3, 4), (3, 5)]) (T : TH ρ c h) (r0 : ρ x0 = 3) (hv : Rg 0 5 v) (hw : Rg 0 1201 w) : TH ρ c (wI (wI (wI h x0 3 u) x0 4 v) x0 3 w) := by
  have T2 := th_wI (th_wI T r0 (k := 3) (i := 4) (lo := 0) (hi := 5) rfl hv (by decide) (by decide)) r0 (k := 3) (i := 3) (lo := 0) (hi := 1201) rfl hw (by decide) (by decide)
  have e : ∀ b j, hI (wI (wI (wI h x0 3 u) x0 4 v) x0 3 w) b j = hI (wI (wI h x0 4 v) x0 3 w) b j := fun b j => by
    rw [r_I, r_I, r_I, r_I, r_I]
    by_cases q : b = x0 ∧ j = 3
    · rw [if_pos q, if_pos q]
    · rw [if_neg q, if_neg q, if_neg q]
  obtain ⟨⟨t1, t2, t3, t4, t5, t6, t7, t8, t9⟩, t10, t11⟩ := T2
  refine ⟨⟨t1, fun a i => by rw [e]; exact t2 a i, t3, t4, t5, fun t tb ht hr => ?_, ⟨t7.1, fun p on of hp ho hf s hs d hd hb => ?_⟩, t8, t9⟩, t10, ⟨t11.1, fun a i l h0 hs => by rw [e]; exact t11.2.1 a i l h0 hs, t11.2.2⟩⟩
  · rw [e]; exact t6 t tb ht hr
  · rw [e]; exact t7.2 p on of hp ho hf s hs d hd hb
theorem adv122 {F x0 : Nat} (hF : 700000 ≤ F) (m1 : c.2.1 1 = true) (hA : pmA c [(3, 2), (3, 3), (3, 4), (3, 5)]) (r0 : ρ x0 = 3) : ∀ (f : Nat) {h : Hp}, TH ρ c h → (1201 - (hI h x0 3).toInt).toNat < f → Sat (sX2_advance_122 F f h x0) (ZV ρ c) := by
  intro f
  induction f with
  | zero => intros; omega
  | succ f ih =>
    intro h T hm
    rw [sX2_advance_122]
    unfold sX2_advance_230
    obtain ⟨r, er, qr⟩ := thM T r0 (i := 0) (j := 1) (k2 := 10) rfl (by decide) rfl (by decide) m1
    refine s_ref er ?_
    refine s_br (fun c1 => s_some T) (fun c1 => ?_)
    refine s_ref er ?_
    obtain ⟨⟨v4, g4⟩, eb, e4, i4, p4⟩ := zX9_byteAt hF T qr (rg_top (hI h x0 3))
    dsimp only at e4 i4 p4
    subst e4
    refine s_val eb ?_
    dsimp only
    refine s_cP0 letter_ (fun o5 e5 i5 p5 => ?_)
    obtain ⟨v5, g5⟩ := o5
    dsimp only at e5 i5 p5 ⊢
    subst e5
    refine s_br (fun c2 => s_some T) (fun c2 => ?_)
    have n4 : ¬ v4 = -1 := fun q => rc_eq q (p5 c2) (rg_b rfl : Rg (-1) (-1) (-1 : Int32)) (by decide)
    have i3 := p4 n4
    have w : (hI g5 x0 3 + (1 : Int32)).toInt = (hI g5 x0 3).toInt + 1 := rg_inc i3 (by decide)
    have j1 := i3.1
    have j2 := i3.2
    refine s_hq (th_wI T r0 (k := 3) (lo := 0) (hi := 1201) rfl ⟨by omega, by omega⟩ (by decide) (by decide)) (fun h7 T7 e7 => ?_)
    have a7 : (hI h7 x0 3).toInt = (hI g5 x0 3).toInt + 1 := by rw [e7, r_I, if_pos ⟨rfl, rfl⟩]; exact w
    exact ih T7 (by omega)
theorem adv179 {F x0 : Nat} {x1 : Int32} (hF : 700000 ≤ F) (m1 : c.2.1 1 = true) (hA : pmA c [(3, 2), (3, 3), (3, 4), (3, 5)]) (r0 : ρ x0 = 3) (T : TH ρ c h) (i2 : Rg 0 1199 (hI h x0 2)) : Sat (sX2_advance_179 F h x0 x1) (ZV ρ c) := by
  unfold sX2_advance_179 sX2_advance_199 sX2_advance_230
  refine s_br (fun c1 => ?_) (fun c1 => ?_)
  · exact s_cV (zX2_scanNumber hF m1 (pmA_s hA rfl) T r0 (rg_add i2 (rg_b rfl : Rg 1 1 (1 : Int32)) (by decide))) (fun o T1 => s_some T1)
  · exact s_cV (zX2_scanNumber hF m1 (pmA_s hA rfl) T r0 (rg_m i2 (by decide))) (fun o T1 => s_some T1)
theorem adv227 {F x0 : Nat} {t0 : Int32} (hA : pmA c [(3, 2), (3, 3), (3, 4), (3, 5)]) (r0 : ρ x0 = 3) (T : TH ρ c h) (it : Rg 0 5 t0) : Sat (sX2_advance_227 F h t0 x0) (ZV ρ c) := by
  unfold sX2_advance_227 sX2_advance_230
  exact s_h (th_wI T r0 (k := 3) (lo := 0) (hi := 5) rfl it (by decide) (by decide)) (fun h1 T1 => s_some T1)
theorem adv67 {F x0 : Nat} (hF : 700000 ≤ F) (m1 : c.2.1 1 = true) (hA : pmA c [(3, 2), (3, 3), (3, 4), (3, 5)]) (r0 : ρ x0 = 3) (T : TH ρ c h) : Sat (sX2_advance_67 F h x0) (ZV ρ c) := by
  unfold sX2_advance_67
  obtain ⟨r, er, qr⟩ := thM T r0 (i := 0) (j := 1) (k2 := 10) rfl (by decide) rfl (by decide) m1
  refine s_ref er ?_
  obtain ⟨⟨v2, g2⟩, eb, e2, i2, p2⟩ := zX9_byteAt hF T qr (rg_top (hI h x0 2))
  dsimp only at e2 i2 p2
  subst e2
  refine s_val eb ?_
  dsimp only
  refine s_q (fun h3 e3 => ?_)
  refine s_br (fun c1 => ?_) (fun c1 => ?_)
  · refine s_q (fun h13 e13 => ?_)
    refine s_q (fun h14 e14 => ?_)
    unfold sX2_advance_230
    refine s_some ?_
    have a2 : hI h13 x0 2 = hI g2 x0 2 := by rw [e13, r_I, if_neg (fun q => absurd q.2 (by decide)), e3, r_I, if_neg (fun q => absurd q.2 (by decide))]
    have i2' : Rg 0 1201 (hI h13 x0 2) := by rw [a2]; exact thI T r0 (k := 3) rfl
    show TH ρ c h14
    rw [e14]
    rw [e13, e3] at i2' ⊢
    exact th_w343 hA T r0 (rg_b rfl) i2'
  · have is := p2 c1
    have T3 : TH ρ c h3 := by
      rw [e3]
      exact th_wI T r0 (k := 3) (lo := 0) (hi := 1201) rfl (rg_add is (rg_b rfl : Rg 1 1 (1 : Int32)) (by decide)) (by decide) (by decide)
    have is3 : Rg 0 1199 (hI h3 x0 2) := by rw [e3, r_I, if_neg (fun q => absurd q.2 (by decide))]; exact is
    refine s_cP0 letter_ (fun o5 e5 i5 p5 => ?_)
    obtain ⟨v5, g5⟩ := o5
    dsimp only at e5 i5 p5 ⊢
    subst e5
    refine s_br (fun c2 => ?_) (fun c2 => ?_)
    · refine s_cP0 digit_ (fun o7 e7 i7 p7 => ?_)
      obtain ⟨v7, g7⟩ := o7
      dsimp only at e7 i7 p7 ⊢
      subst e7
      refine s_br (fun c3 => ?_) (fun c3 => adv179 hF m1 hA r0 T3 is3)
      refine s_br (fun c4 => adv179 hF m1 hA r0 T3 is3) (fun c4 => ?_)
      refine s_br (fun c5 => adv227 hA r0 T3 (rg_b rfl)) (fun c5 => ?_)
      exact s_br (fun c6 => adv227 hA r0 T3 (rg_b rfl)) (fun c6 => adv227 hA r0 T3 (rg_b rfl))
    · refine s_h (th_wI T3 r0 (k := 3) (lo := 0) (hi := 5) rfl (rg_b rfl) (by decide) (by decide)) (fun h12 T12 => ?_)
      have q := thI T12 r0 (k := 3) (i := 3) (lo := 0) (hi := 1201) rfl
      exact adv122 hF m1 hA r0 F T12 (by have := q.1; omega)
theorem adv8 {F x0 : Nat} (hF : 700000 ≤ F) (m1 : c.2.1 1 = true) (hA : pmA c [(3, 2), (3, 3), (3, 4), (3, 5)]) (r0 : ρ x0 = 3) : ∀ (f : Nat) {h : Hp}, TH ρ c h → (1201 - (hI h x0 2).toInt).toNat < f → Sat (sX2_advance_8 F f h x0) (ZV ρ c) := by
  intro f
  induction f with
  | zero => intros; omega
  | succ f ih =>
    intro h T hm
    rw [sX2_advance_8]
    unfold sX2_advance_54
    obtain ⟨r, er, qr⟩ := thM T r0 (i := 0) (j := 1) (k2 := 10) rfl (by decide) rfl (by decide) m1
    refine s_ref er ?_
    refine s_br (fun c1 => adv67 hF m1 hA r0 T) (fun c1 => ?_)
    have i2 : Rg 0 1199 (hI h x0 2) := by
      have a := thI T r0 (k := 3) (i := 2) (lo := 0) (hi := 1201) rfl
      have b := thI T qr (k := 10) (i := 1) (lo := 0) (hi := 1200) rfl
      exact rg_lt1 (nle_lt c1) a b
    have step : Sat (nm (wI h x0 2 (hI h x0 2 + (1 : Int32))) fun h_1 => sX2_advance_8 F f h_1 x0) (ZV ρ c) := by
      have w : (hI h x0 2 + (1 : Int32)).toInt = (hI h x0 2).toInt + 1 := rg_inc i2 (by decide)
      have j1 := i2.1
      have j2 := i2.2
      refine s_hq (th_wI T r0 (k := 3) (lo := 0) (hi := 1201) rfl ⟨by omega, by omega⟩ (by decide) (by decide)) (fun h7 T7 e7 => ?_)
      have a7 : (hI h7 x0 2).toInt = (hI h x0 2).toInt + 1 := by rw [e7, r_I, if_pos ⟨rfl, rfl⟩]; exact w
      exact ih T7 (by omega)
    refine s_ref er ?_
    obtain ⟨⟨v4, g4⟩, eb, e4, i4, p4⟩ := zX9_byteAt hF T qr (rg_top (hI h x0 2))
    dsimp only at e4 i4 p4
    subst e4
    refine s_val eb ?_
    dsimp only
    refine s_br (fun c2 => step) (fun c2 => ?_)
    refine s_ref er ?_
    refine s_val eb ?_
    dsimp only
    exact s_br (fun c3 => step) (fun c3 => adv67 hF m1 hA r0 T)
theorem zX2_advance {F : Nat} (hF : 700000 ≤ F) (m1 : c.2.1 1 = true) {x0 : Nat} (hA : pmA c [(3, 2), (3, 3), (3, 4), (3, 5)]) (T : TH ρ c h) (r0 : ρ x0 = 3) : Sat (sX2_advance F h x0) (ZV ρ c) := by
  unfold sX2_advance
  refine s_h (th_wI T r0 (k := 3) (lo := 0) (hi := 1201) rfl (thI T r0 (k := 3) rfl) (by decide) (by decide)) (fun h1 T1 => ?_)
  have q := thI T1 r0 (k := 3) (i := 2) (lo := 0) (hi := 1201) rfl
  exact adv8 hF m1 hA r0 F T1 (by have := q.1; omega)
end
end
section
theorem rg_inck {a b n : Int} {x y : Int32} (hx : Rg a b x) (hy : Rg n n y) (e : -2147483648 ≤ a + n ∧ b + n ≤ 2147483647) : (x + y).toInt = x.toInt + n := by
  have x1 := hx.1
  have x2 := hx.2
  have y1 := hy.1
  have y2 := hy.2
  rw [Int32.toInt_add]
  have : y.toInt = n := by omega
  rw [this]
  exact Int.bmod_eq_of_le_mul_two (by omega) (by omega)
section
variable {ρ : Nat → Nat} {c : Cm} {h : Hp}
theorem find9 {F x0 : Nat} {x1 : Int32} (T : TH ρ c h) (r0 : ρ x0 = 1) : ∀ (f : Nat) {x2 x3 : Int32}, Rg 0 1024 x2 → Rg (-1) 1023 x3 → (x3.toInt - x2.toInt + 1).toNat < f → Sat (sX0_findSet_9 F f h x0 x1 x2 x3) (ZI0 h (-1) 1023) := by
  intro f
  induction f with
  | zero => intros; omega
  | succ f ih =>
    intro x2 x3 i2 i3 hm
    rw [sX0_findSet_9]
    unfold sX0_findSet_59
    refine s_br (fun c1 => s_some ⟨rfl, rg_b rfl⟩) (fun c1 => ?_)
    rw [Int32.lt_iff_toInt_lt] at c1
    have a1 := i2.1
    have a2 := i2.2
    have b1 := i3.1
    have b2 := i3.2
    refine s_q (fun v ev => ?_)
    have w : v.toInt = (x2.toInt + x3.toInt) / 2 := by
      rw [ev, Jvm.RoadKit.c_ishr _ (1 : Int32) 1 (by decide), Int32.toInt_add]
      have : (x2.toInt + x3.toInt).bmod (2 ^ 32) = x2.toInt + x3.toInt := Int.bmod_eq_of_le_mul_two (by omega) (by omega)
      rw [this]
      rfl
    have iv : Rg 0 1023 v := ⟨by omega, by omega⟩
    obtain ⟨r, er, qr⟩ := thR T r0 (i := 4) (k2 := 20) rfl (by decide)
    refine s_ref er ?_
    have gb : inB v (hN h r) := by rw [thN T qr (k := 20) (n := 1024) rfl (by decide)]; exact rg_inB iv (by decide)
    refine s_gd gb ?_
    refine s_br (fun c2 => s_some ⟨rfl, rg_m iv (by decide)⟩) (fun c2 => ?_)
    refine s_ref er (s_gd gb ?_)
    refine s_br (fun c3 => ?_) (fun c3 => ?_)
    · refine s_q (fun v9 e9 => ?_)
      have w9 : v9.toInt = v.toInt - 1 := by rw [e9]; exact rg_decs iv (by decide)
      exact ih i2 ⟨by omega, by omega⟩ (by omega)
    · refine s_q (fun v10 e10 => ?_)
      have w10 : v10.toInt = v.toInt + 1 := by rw [e10]; exact rg_inc iv (by decide)
      exact ih ⟨by omega, by omega⟩ i3 (by omega)
theorem zX0_findSet {F : Nat} (hF : 700000 ≤ F) {x0 : Nat} {x1 : Int32} (T : TH ρ c h) (r0 : ρ x0 = 1) (i1 : Rg (-2147483648) 2147483647 x1) : Sat (sX0_findSet F h x0 x1) (ZI0 h (-1) 1023) := by
  unfold sX0_findSet
  refine s_q (fun v ev => ?_)
  have i9 := thI T r0 (k := 1) (i := 9) (lo := 0) (hi := 1024) rfl
  have iv : Rg (-1) 1023 v := by rw [ev]; exact rg_sub i9 (rg_b rfl : Rg 1 1 (1 : Int32)) (by decide)
  have z : (0 : Int32).toInt = 0 := rfl
  have := iv.2
  exact find9 T r0 F ⟨by rw [z]; omega, by rw [z]; omega⟩ iv (by rw [z]; omega)
end
theorem rg_divn {m c d hi : Int} {x y : Int32} (hx : Rg (-m) m x) (hy : Rg c d y) (e : 0 ≤ m ∧ 1 ≤ c ∧ m / c ≤ hi) : Rg (-hi) hi (x / y) := by
  obtain ⟨e1, e2, e3⟩ := e
  have h1 := hx.1
  have h2 := hx.2
  have h3 := hy.1
  have key : ∀ z : Int, 0 ≤ z → z ≤ m → 0 ≤ z / y.toInt ∧ z / y.toInt ≤ hi := fun z z0 zm => by
    have q0 : 0 ≤ z / y.toInt := Int.ediv_nonneg z0 (by omega)
    refine ⟨q0, Int.le_trans (Int.le_ediv_of_mul_le (by omega) ?_) e3⟩
    have p1 : z / y.toInt * c ≤ z / y.toInt * y.toInt := Int.mul_le_mul_of_nonneg_left h3 q0
    have p2 : z / y.toInt * y.toInt ≤ z := Int.ediv_mul_le _ (by omega)
    omega
  unfold Rg
  rw [Int32.toInt_div_of_ne_right x y (rg_ne1 hy e2)]
  by_cases q : 0 ≤ x.toInt
  · rw [Int.tdiv_eq_ediv_of_nonneg q]
    have := key x.toInt q h2
    omega
  · have n : x.toInt.tdiv y.toInt = -((-x.toInt) / y.toInt) := by
      rw [← Int.tdiv_eq_ediv_of_nonneg (by omega), Int.neg_tdiv, Int.neg_neg]
    rw [n]
    have := key (-x.toInt) (by omega) (by omega)
    omega
theorem rg_muln {m n hi : Int} {x y : Int32} (hx : Rg (-m) m x) (hy : Rg (-n) n y) (e : 0 ≤ m ∧ 0 ≤ n ∧ m * n ≤ hi ∧ hi ≤ 2147483647) : Rg (-hi) hi (x * y) := by
  obtain ⟨e1, e2, e3, e4⟩ := e
  have h1 := hx.1
  have h2 := hx.2
  have h3 := hy.1
  have h4 := hy.2
  have a : x.toInt.natAbs ≤ m.toNat := by omega
  have b : y.toInt.natAbs ≤ n.toNat := by omega
  have c := Nat.mul_le_mul a b
  rw [← Int.natAbs_mul] at c
  have d : ((m.toNat * n.toNat : Nat) : Int) = m * n := by rw [Int.natCast_mul, Int.toNat_of_nonneg e1, Int.toNat_of_nonneg e2]
  generalize m.toNat * n.toNat = K at *
  generalize m * n = L at *
  unfold Rg
  rw [Int32.toInt_mul]
  generalize x.toInt * y.toInt = Z at *
  have : Z.bmod (2 ^ 32) = Z := Int.bmod_eq_of_le_mul_two (by omega) (by omega)
  rw [this]
  omega
end
section
section
variable {ρ : Nat → Nat} {c : Cm} {h : Hp}
theorem zX2_isNumber {F : Nat} (hF : 700000 ≤ F) {x0 : Nat} {x1 x2 : Int32} {a b d e : Int} (i1 : Rg a b x1) (i2 : Rg d e x2) : Sat (sX2_isNumber h x0 x1 x2) (ZP0 h 0 1 0 (Rg a e (hI h x0 5))) := by
  unfold sX2_isNumber sX2_isNumber_28 sX2_isNumber_29
  refine s_br (fun c1 => ?_) (fun c1 => s_gd (by decide) (s_some ⟨rfl, rg_b rfl, fun q => absurd rfl q⟩))
  refine s_br (fun c2 => s_gd (by decide) (s_some ⟨rfl, rg_b rfl, fun q => absurd rfl q⟩)) (fun c2 => ?_)
  refine s_br (fun c3 => s_gd (by decide) (s_some ⟨rfl, rg_b rfl, fun q => absurd rfl q⟩)) (fun c3 => ?_)
  refine s_gd (by decide) (s_some ⟨rfl, rg_b rfl, fun _ => ?_⟩)
  rw [Int32.lt_iff_toInt_lt] at c2 c3
  have := i1.1
  have := i2.2
  exact ⟨by omega, by omega⟩
theorem zX15_isNumber {F : Nat} (hF : 700000 ≤ F) {x0 : Nat} {x1 x2 : Int32} {a b d e : Int} (i1 : Rg a b x1) (i2 : Rg d e x2) : Sat (sX15_isNumber h x0 x1 x2) (ZP0 h 0 1 0 (Rg a e (hI h x0 9) ∧ Rg 2 2 (hI h x0 6))) := by
  unfold sX15_isNumber sX15_isNumber_28 sX15_isNumber_29
  refine s_br (fun c1 => ?_) (fun c1 => s_gd (by decide) (s_some ⟨rfl, rg_b rfl, fun q => absurd rfl q⟩))
  refine s_br (fun c2 => s_gd (by decide) (s_some ⟨rfl, rg_b rfl, fun q => absurd rfl q⟩)) (fun c2 => ?_)
  refine s_br (fun c3 => s_gd (by decide) (s_some ⟨rfl, rg_b rfl, fun q => absurd rfl q⟩)) (fun c3 => ?_)
  refine s_gd (by decide) (s_some ⟨rfl, rg_b rfl, fun _ => ?_⟩)
  rw [Int32.lt_iff_toInt_lt] at c2 c3
  have := i1.1
  have := i2.2
  exact ⟨⟨by omega, by omega⟩, rg_eq c1 (rg_b rfl)⟩
end
end
section
section
variable {a b c d : Int} {x y : Int32}
theorem ti_add (hx : Rg a b x) (hy : Rg c d y) (e : -2147483648 ≤ a + c ∧ b + d ≤ 2147483647) : (x + y).toInt = x.toInt + y.toInt := by
  have := hx.1; have := hx.2; have := hy.1; have := hy.2
  rw [Int32.toInt_add]
  exact Int.bmod_eq_of_le_mul_two (by omega) (by omega)
theorem ti_sub (hx : Rg a b x) (hy : Rg c d y) (e : -2147483648 ≤ a - d ∧ b - c ≤ 2147483647) : (x - y).toInt = x.toInt - y.toInt := by
  have := hx.1; have := hx.2; have := hy.1; have := hy.2
  rw [Int32.toInt_sub]
  exact Int.bmod_eq_of_le_mul_two (by omega) (by omega)
theorem ti_mulc (hx : Rg a b x) (hy : Rg c c y) (e : 0 ≤ c ∧ -2147483648 ≤ a * c ∧ b * c ≤ 2147483647) : (x * y).toInt = c * x.toInt := by
  have e1 := hx.1
  have e2 := hx.2
  have e3 : y.toInt = c := by have := hy.1; have := hy.2; omega
  have p1 : a * c ≤ x.toInt * c := Int.mul_le_mul_of_nonneg_right e1 e.1
  have p2 : x.toInt * c ≤ b * c := Int.mul_le_mul_of_nonneg_right e2 e.1
  rw [Int32.toInt_mul, e3, Int.mul_comm c]
  exact Int.bmod_eq_of_le_mul_two (by omega) (by omega)
theorem ti_mulc' (hx : Rg a b x) (hy : Rg c c y) (e : 0 ≤ c ∧ -2147483648 ≤ a * c ∧ b * c ≤ 2147483647) : (y * x).toInt = c * x.toInt := by
  rw [Int32.mul_comm]; exact ti_mulc hx hy e
theorem ti_iff {p q : Prop} [Decidable p] (e : p ↔ q) : (q ∧ (if p then x else y).toInt = x.toInt) ∨ (¬ q ∧ (if p then x else y).toInt = y.toInt) := by
  by_cases h : p
  · rw [if_pos h]; exact Or.inl ⟨e.mp h, rfl⟩
  · rw [if_neg h]; exact Or.inr ⟨fun w => h (e.mpr w), rfl⟩
theorem ii_eq : x = y ↔ x.toInt = y.toInt := Int32.toInt_inj.symm
theorem ii_lt : x < y ↔ x.toInt < y.toInt := Int32.lt_iff_toInt_lt
theorem ii_le : x ≤ y ↔ x.toInt ≤ y.toInt := Int32.le_iff_toInt_le
theorem eq_i (h : x = y) : x.toInt = y.toInt := ii_eq.mp h
theorem ne_i (h : ¬ x = y) : ¬ x.toInt = y.toInt := fun q => h (ii_eq.mpr q)
theorem lt_i (h : x < y) : x.toInt < y.toInt := ii_lt.mp h
theorem nlt_i (h : ¬ x < y) : y.toInt ≤ x.toInt := by
  have : ¬ x.toInt < y.toInt := fun q => h (ii_lt.mpr q)
  omega
theorem le_i (h : x ≤ y) : x.toInt ≤ y.toInt := ii_le.mp h
theorem nle_i (h : ¬ x ≤ y) : y.toInt < x.toInt := by
  have : ¬ x.toInt ≤ y.toInt := fun q => h (ii_le.mpr q)
  omega
end
theorem he_r {h h2 : Hp} {a i b j : Nat} {v : Option Nat} (e : h2 = wR h b j v) : hI h2 a i = hI h a i := by rw [e]; rfl
theorem pmA_n {c : Cm} : pmA c [] := fun _ _ _ m => absurd m (by simp [mS])
abbrev ZQ {α : Type} (Z P : α → Prop) : α → Prop := fun o => Z o ∧ P o
section
variable {ρ : Nat → Nat} {c : Cm} {β : Type} {Q : β → Prop} {h : Hp} {S : Nat → Nat → Nat → Bool} {lo hi : Int}
theorem s_cIq {P : Int32 × Hp → Prop} {m : Option (Int32 × Hp)} {k : Int32 × Hp → Option β} (Z : Sat m (ZQ (ZI ρ c lo hi) P)) (H : ∀ o, TH ρ c o.2 → Rg lo hi o.1 → P o → Sat (k o) Q) : Sat (cl m k) Q := s_cl (s_imp Z fun o ho => H o ho.1.1 ho.1.2 ho.2)
theorem s_cI0q {P : Int32 × Hp → Prop} {m : Option (Int32 × Hp)} {k : Int32 × Hp → Option β} (Z : Sat m (ZQ (ZI0 h lo hi) P)) (H : ∀ o, o.2 = h → Rg lo hi o.1 → P o → Sat (k o) Q) : Sat (cl m k) Q := s_cl (s_imp Z fun o ho => H o ho.1.1 ho.1.2 ho.2)
theorem s_cP0q {s : Int32} {R : Prop} {P : Int32 × Hp → Prop} {m : Option (Int32 × Hp)} {k : Int32 × Hp → Option β} (Z : Sat m (ZQ (ZP0 h lo hi s R) P)) (H : ∀ o, o.2 = h → Rg lo hi o.1 → (¬ o.1 = s → R) → P o → Sat (k o) Q) : Sat (cl m k) Q := s_cl (s_imp Z fun o ho => H o ho.1.1 ho.1.2.1 ho.1.2.2 ho.2)
theorem s_cVq {P : Hp → Prop} {m : Option Hp} {k : Hp → Option β} (Z : Sat m (ZQ (ZV ρ c) P)) (H : ∀ o, TH ρ c o → P o → Sat (k o) Q) : Sat (cl m k) Q := s_cl (s_imp Z fun o ho => H o ho.1 ho.2)
theorem s_cIfq {P : Int32 × Hp → Prop} {m : Option (Int32 × Hp)} {k : Int32 × Hp → Option β} (T : TH ρ c h) (hs : ∀ k w i, S k w i = true → cPm c k w i = true) (Z : Sat m (ZQ (ZI ρ (cat c S h) lo hi) P)) (H : ∀ o, TH ρ c o.2 → Rg lo hi o.1 → Fr ρ (cat c S h) h o.2 → P o → Sat (k o) Q) : Sat (cl m k) Q := s_cl (s_imp Z fun o ho => H o (th_out T hs ho.1.1) ho.1.2 (fr_u T ho.1.1.2.2) ho.2)
theorem s_cVfq {P : Hp → Prop} {m : Option Hp} {k : Hp → Option β} (T : TH ρ c h) (hs : ∀ k w i, S k w i = true → cPm c k w i = true) (Z : Sat m (ZQ (ZV ρ (cat c S h)) P)) (H : ∀ o, TH ρ c o → Fr ρ (cat c S h) h o → P o → Sat (k o) Q) : Sat (cl m k) Q := s_cl (s_imp Z fun o ho => H o (th_out T hs ho.1) (fr_u T ho.1.2.2) ho.2)
end
section
variable {ρ : Nat → Nat} {c : Cm} {h h2 : Hp} {A B : List (Nat × Nat)} {a k i w : Nat}
theorem fs_t (m : mS A k i = true) : fS A [] k w i = true := by unfold fS; rw [m, Bool.true_or]
theorem fs_u (m : mS B k i = true) : fS [] [(w, B)] k w i = true := by unfold fS; simp [m]
theorem fr1I {v : Int32} (e : ρ a = k) (m : mS A k i = true) (en : h2 = wI h a i v) : Fr ρ (cat c (fS A []) h) h h2 := by
  rw [en]; exact fu_wI ⟨fun _ _ _ _ => ⟨rfl, rfl, rfl⟩, fun _ _ => rfl⟩ e (fs_t m)
theorem fr1J {v : Int64} (e : ρ a = k) (m : mS A k i = true) (en : h2 = wJ h a i v) : Fr ρ (cat c (fS A []) h) h h2 := by
  rw [en]; exact fu_wJ ⟨fun _ _ _ _ => ⟨rfl, rfl, rfl⟩, fun _ _ => rfl⟩ e (fs_t m)
theorem fr1R {v : Option Nat} (e : ρ a = k) (m : mS A k i = true) (en : h2 = wR h a i v) : Fr ρ (cat c (fS A []) h) h h2 := by
  rw [en]; exact fu_wR ⟨fun _ _ _ _ => ⟨rfl, rfl, rfl⟩, fun _ _ => rfl⟩ e (fs_t m)
theorem fr1Io {v : Int32} (e : ρ a = k) (ew : cw c a = w) (m : mS B k i = true) (en : h2 = wI h a i v) : Fr ρ (cat c (fS [] [(w, B)]) h) h h2 := by
  rw [en]; exact fu_wI ⟨fun _ _ _ _ => ⟨rfl, rfl, rfl⟩, fun _ _ => rfl⟩ e (by show fS [] [(w, B)] k (cw c a) i = true; rw [ew]; exact fs_u m)
theorem fr1Jo {v : Int64} (e : ρ a = k) (ew : cw c a = w) (m : mS B k i = true) (en : h2 = wJ h a i v) : Fr ρ (cat c (fS [] [(w, B)]) h) h h2 := by
  rw [en]; exact fu_wJ ⟨fun _ _ _ _ => ⟨rfl, rfl, rfl⟩, fun _ _ => rfl⟩ e (by show fS [] [(w, B)] k (cw c a) i = true; rw [ew]; exact fs_u m)
theorem fr_RI {S : Nat → Nat → Nat → Bool} {r k i : Nat} (f : Fr ρ (cat c S h) h h2) (e : ρ r = k) (h0 : k ≠ 0) (hs : ∀ w, S k w i = false) : hI h2 r i = hI h r i ∧ hJ h2 r i = hJ h r i ∧ hR h2 r i = hR h r i := f.1 r i (by rw [e]; exact h0) (by rw [e]; exact hs _)
end
/-- the rules tell a royal man -/
def RoyOk (x0 : Nat) (h : Hp) : Prop := ∀ r, hR h x0 4 = some r → 0 ≤ (hI h r 10).toInt
section
variable {ρ : Nat → Nat} {c : Cm} {h h2 : Hp} {S : Nat → Nat → Nat → Bool} {x0 : Nat}
theorem roy_fr (T : TH ρ c h) (r0 : ρ x0 = 16) (f : Fr ρ (cat c S h) h h2) (s1 : ∀ w, S 16 w 4 = false) (s2 : ∀ w, S 15 w 10 = false) (P : RoyOk x0 h) : RoyOk x0 h2 := fun r hr => by
  rw [(fr_RI f r0 (by decide) s1).2.2] at hr
  obtain ⟨q, e1, e2⟩ := thR T r0 (i := 4) (k2 := 15) rfl (by decide)
  have : r = q := by rw [e1] at hr; exact (Option.some.inj hr).symm
  rw [(fr_RI f (this ▸ e2) (by decide) s2).1]
  exact P r hr
end
theorem rg_bks {lo hi a b n l u : Int} {x y : Int32} (h : Rg lo hi (x - y)) (hx : Rg a b x) (hy : Rg n n y) (e : (-2147483648 ≤ a - n ∧ b - n ≤ 2147483647) ∧ (l ≤ lo + n ∨ l ≤ a) ∧ (hi + n ≤ u ∨ b ≤ u)) : Rg l u x := by
  have q := ti_sub hx hy e.1
  have := h.1; have := h.2; have := hx.1; have := hx.2; have := hy.1; have := hy.2
  exact ⟨by omega, by omega⟩
theorem rg_bka {lo hi a b n l u : Int} {x y : Int32} (h : Rg lo hi (x + y)) (hx : Rg a b x) (hy : Rg n n y) (e : (-2147483648 ≤ a + n ∧ b + n ≤ 2147483647) ∧ (l ≤ lo - n ∨ l ≤ a) ∧ (hi - n ≤ u ∨ b ≤ u)) : Rg l u x := by
  have q := ti_add hx hy e.1
  have := h.1; have := h.2; have := hx.1; have := hx.2; have := hy.1; have := hy.2
  exact ⟨by omega, by omega⟩
section
variable {ρ : Nat → Nat} {c : Cm} {β : Type} {Q : β → Prop} {h : Hp} {lo hi : Int}
theorem s_dd {α : Type} {Z : α → Prop} {m : Option α} {k : α → Option β} (S : Sat m Z) (H : ∀ o, m = some o → Z o → Sat (k o) Q) : Sat (cl m k) Q := by
  obtain ⟨o, e, z⟩ := S
  exact s_val e (H o e z)
theorem s_dI0 {m : Option (Int32 × Hp)} {k : Int32 × Hp → Option β} (S : Sat m (ZI0 h lo hi)) (H : ∀ o, m = some o → o.2 = h → Rg lo hi o.1 → Sat (k o) Q) : Sat (cl m k) Q := s_dd S fun o e ho => H o e ho.1 ho.2
theorem s_dJ0 {m : Option (Int64 × Hp)} {k : Int64 × Hp → Option β} (S : Sat m (ZJ0 h)) (H : ∀ o, m = some o → o.2 = h → Sat (k o) Q) : Sat (cl m k) Q := s_dd S fun o e ho => H o e ho
theorem s_dP0 {s : Int32} {P : Prop} {m : Option (Int32 × Hp)} {k : Int32 × Hp → Option β} (S : Sat m (ZP0 h lo hi s P)) (H : ∀ o, m = some o → o.2 = h → Rg lo hi o.1 → (¬ o.1 = s → P) → Sat (k o) Q) : Sat (cl m k) Q := s_dd S fun o e ho => H o e ho.1 ho.2.1 ho.2.2
theorem s_dI0q {P : Int32 × Hp → Prop} {m : Option (Int32 × Hp)} {k : Int32 × Hp → Option β} (Z : Sat m (ZQ (ZI0 h lo hi) P)) (H : ∀ o, m = some o → o.2 = h → Rg lo hi o.1 → P o → Sat (k o) Q) : Sat (cl m k) Q := s_dd Z fun o e ho => H o e ho.1.1 ho.1.2 ho.2
theorem s_dP0q {s : Int32} {R : Prop} {P : Int32 × Hp → Prop} {m : Option (Int32 × Hp)} {k : Int32 × Hp → Option β} (Z : Sat m (ZQ (ZP0 h lo hi s R) P)) (H : ∀ o, m = some o → o.2 = h → Rg lo hi o.1 → (¬ o.1 = s → R) → P o → Sat (k o) Q) : Sat (cl m k) Q := s_dd Z fun o e ho => H o e ho.1.1 ho.1.2.1 ho.1.2.2 ho.2
end
theorem p1_or {x s e : Int32} {lo hi : Int} (p : ¬ x = s → Rg lo hi e) : x.toInt = s.toInt ∨ (lo ≤ e.toInt ∧ e.toInt ≤ hi) := by
  by_cases h : x = s
  · exact Or.inl (by rw [h])
  · exact Or.inr (p h)
theorem cat_m {c : Cm} {S : Nat → Nat → Nat → Bool} {h : Hp} {j : Nat} (m : c.2.1 j = true) : (cat c S h).2.1 j = true := m
theorem he_sq {h h2 : Hp} {a b j : Nat} {v : Int32} (q : b = a) (e : h2 = wI h b j v) : hI h2 a j = v := by
  rw [e, r_I, if_pos ⟨q.symm, rfl⟩]
/-- a reference that is never null is set to another one of its kind -/
theorem th_wRk {ρ : Nat → Nat} {c : Cm} {h : Hp} (T : TH ρ c h) {a k i k2 q : Nat} (e : ρ a = k) (hk : rfK k i = k2) (h3 : k2 ≠ 0) (hq : ρ q = k2) (n1 : k ≠ 10) (n2 : k ≠ 4) (n3 : rfN k i = 0) (n6 : nid k i = 0) (n4 : inh k = false) (n5 : kid k i = 0) (hw : cPm c k (cw c a) i = true) : TH ρ c (wR h a i (some q)) := by
  obtain ⟨⟨t1, t2, t3, t4, t5, t6, t7, t8, t9⟩, ⟨o1, o2, o3, o4⟩, f⟩ := T
  refine ⟨⟨t1, t2, fun b l hb => ?_, fun b l hb r hr => ?_, t5, fun t tb ht hr => ?_, ⟨fun p q' i' a' hi' hp hq' h1 h2 => ?_, fun p on of hp ho hf => ?_⟩, fun b l hb hm => ?_, t9⟩, ⟨fun b l r hb hr => ?_, fun b l r hb hr => ?_, o3, fun b l r hb hr => ?_⟩, fr_wR f e hw⟩
  · rw [r_R]
    by_cases w : b = a ∧ l = i
    · rw [if_pos w]; exact ⟨q, rfl, by rw [w.1, w.2, e, hk, hq]⟩
    · rw [if_neg w]; exact t3 b l hb
  · rw [r_R, if_neg (fun w => hb (by rw [w.1, w.2, e, n3]))] at hr
    exact t4 b l hb r hr
  · rw [r_R, if_neg (fun w => n1 (by rw [← e, ← w.1, ht]))] at hr
    exact t6 t tb ht hr
  · rw [r_R, if_neg (fun w => n2 (by rw [← e, ← w.1, hp]))] at h1
    rw [r_R, if_neg (fun w => n2 (by rw [← e, ← w.1, hq']))] at h2
    exact t7.1 p q' i' a' hi' hp hq' h1 h2
  · rw [r_R, if_neg (fun w => n2 (by rw [← e, ← w.1, hp]))] at ho hf
    exact t7.2 p on of hp ho hf
  · rw [r_R, if_neg (fun w => hb (by rw [w.1, w.2, e, n6]))]
    exact t8 b l hb hm
  · rw [r_R, if_neg (fun w => by rw [w.1, e, n4] at hb; exact absurd hb (by decide))] at hr
    exact o1 b l r hb hr
  · rw [r_R, if_neg (fun w => hb (by rw [w.1, w.2, e, n5]))] at hr
    exact o2 b l r hb hr
  · rw [r_R] at hr
    by_cases w : b = a ∧ l = i
    · rw [if_pos w] at hr
      rw [← Option.some.inj hr]
      exact o3 q (by rw [hq]; exact h3)
    · rw [if_neg w] at hr
      exact o4 b l r hb hr
theorem ti_shr1 {x : Int32} : (x >>> ((1 : Int32) &&& 31)).toInt = x.toInt / 2 := by
  have := Jvm.RoadKit.c_ishr x 1 1 rfl
  simpa using this
theorem g_len_i {x y : Int32} {h : Hp} {r n : Nat} (h1 : 0 ≤ x.toInt) (h2 : 0 ≤ y.toInt) (hn : hN h r = n) (e : x.toInt + y.toInt ≤ (n : Int)) : x.toNatClampNeg + y.toNatClampNeg ≤ hN h r := by
  obtain ⟨j, ej, tj, hj⟩ := rg_nI (a := x.toInt) (b := x.toInt) (x := x) ⟨Int.le_refl _, Int.le_refl _⟩ h1
  obtain ⟨k, ek, tk, hk⟩ := rg_nI (a := y.toInt) (b := y.toInt) (x := y) ⟨Int.le_refl _, Int.le_refl _⟩ h2
  have a1 : x.toNatClampNeg = j := by rw [ej, z_clamp hj]
  have a2 : y.toNatClampNeg = k := by rw [ek, z_clamp hk]
  rw [hn, a1, a2]
  omega
end
section
theorem ti_andl {x y : Int32} (hx : 0 ≤ x.toInt) : (x &&& y).toInt ≤ x.toInt := (rg_and' (c := x.toInt) (d := x.toInt) (x := x) (y := y) ⟨Int.le_refl _, Int.le_refl _⟩ hx).2
theorem ti_andr {x y : Int32} (hy : 0 ≤ y.toInt) : (x &&& y).toInt ≤ y.toInt := (rg_and (c := y.toInt) (d := y.toInt) (x := x) (y := y) ⟨Int.le_refl _, Int.le_refl _⟩ hy).2
/-- men that are not told yet have no steps -/
def RulZ (f : Nat) (h : Hp) : Prop := ∀ s, hR h f 4 = some s → ∀ i : Nat, i < 12 → (hI h f 2).toInt ≤ (i : Int) → hI h s i = 0
def FreshZ (x0 : Nat) (h : Hp) : Prop := ∀ f, hR h x0 5 = some f → RulZ f h
def MS (x0 : Nat) (m : Int32) (h : Hp) : Prop := ∀ f s, hR h x0 5 = some f → hR h f 4 = some s → m.toInt < (hI h f 2).toInt ∧ (hI h s m.toNatClampNeg).toInt ≤ 7 ∧ ∀ i : Nat, i < 12 → (hI h f 2).toInt ≤ (i : Int) → hI h s i = 0
section
variable {ρ : Nat → Nat} {c : Cm} {h h2 : Hp} {S : Nat → Nat → Nat → Bool} {x0 : Nat}
theorem th_f5 (T : TH ρ c h) (r0 : ρ x0 = 16) {f : Nat} (hf : hR h x0 5 = some f) : ρ f = 15 := by
  obtain ⟨q, e1, e2⟩ := thR T r0 (i := 5) (k2 := 15) rfl (by decide)
  rw [e1] at hf; rw [← Option.some.inj hf, e2]
theorem th_f4 (T : TH ρ c h) {f s : Nat} (r0 : ρ f = 15) (hf : hR h f 4 = some s) : ρ s = 74 := by
  obtain ⟨q, e1, e2⟩ := thR T r0 (i := 4) (k2 := 74) rfl (by decide)
  rw [e1] at hf; rw [← Option.some.inj hf, e2]
theorem fz_fr (T : TH ρ c h) (r0 : ρ x0 = 16) (f : Fr ρ (cat c S h) h h2) (s1 : ∀ w, S 16 w 5 = false) (s2 : ∀ w, S 15 w 4 = false) (s3 : ∀ w, S 15 w 2 = false) (s4 : ∀ w i, S 74 w i = false) (P : FreshZ x0 h) : FreshZ x0 h2 := fun g hg s hs i hi hm => by
  rw [(fr_RI f r0 (by decide) s1).2.2] at hg
  have rg := th_f5 T r0 hg
  rw [(fr_RI f rg (by decide) s2).2.2] at hs
  have rs := th_f4 T rg hs
  rw [(fr_RI f rg (by decide) s3).1] at hm
  rw [(fr_RI f rs (by decide) (fun w => s4 w i)).1]
  exact P g hg s hs i hi hm
theorem ms_fr {m : Int32} (T : TH ρ c h) (r0 : ρ x0 = 16) (f : Fr ρ (cat c S h) h h2) (s1 : ∀ w, S 16 w 5 = false) (s2 : ∀ w, S 15 w 4 = false) (s3 : ∀ w, S 15 w 2 = false) (s4 : ∀ w i, S 74 w i = false) (P : MS x0 m h) : MS x0 m h2 := fun g s hg hs => by
  rw [(fr_RI f r0 (by decide) s1).2.2] at hg
  have rg := th_f5 T r0 hg
  rw [(fr_RI f rg (by decide) s2).2.2] at hs
  have rs := th_f4 T rg hs
  obtain ⟨a1, a2, a3⟩ := P g s hg hs
  refine ⟨by rw [(fr_RI f rg (by decide) s3).1]; exact a1, by rw [(fr_RI f rs (by decide) (fun w => s4 w _)).1]; exact a2, fun i hi hm => ?_⟩
  rw [(fr_RI f rg (by decide) s3).1] at hm
  rw [(fr_RI f rs (by decide) (fun w => s4 w i)).1]
  exact a3 i hi hm
theorem fz_men {f : Nat} {v : Int32} (T : TH ρ c h) (r0 : ρ x0 = 16) (P : FreshZ x0 h) (hf : hR h x0 5 = some f) (ev : v = hI h f 2) (iv : Rg 0 11 v) (e : h2 = wI h f 2 (hI h f 2 + (1 : Int32))) : MS x0 v h2 := fun g s hg hs => by
  have rf := th_f5 T r0 hf
  have hg1 : hR h x0 5 = some g := by rw [e] at hg; exact hg
  have hs1 : hR h g 4 = some s := by rw [e] at hs; exact hs
  have gf : g = f := by rw [hf] at hg1; exact (Option.some.inj hg1).symm
  subst gf
  have rs := th_f4 T rf hs1
  have m2 : (hI h2 g 2).toInt = v.toInt + 1 := by
    rw [e, r_I, if_pos ⟨rfl, rfl⟩, ← ev]
    exact rg_inc iv (by decide)
  have ss : ∀ i, hI h2 s i = hI h s i := fun i => by rw [e, r_I, if_neg (ne_r rs rf (by decide))]
  obtain ⟨j, ej, tj, hj⟩ := rg_nI iv (Int.le_refl 0)
  have b2 := iv.2
  have cj : v.toNatClampNeg = j := by rw [ej, z_clamp hj]
  have z0 : hI h s j = 0 := P g hf s hs1 j (by omega) (by rw [← ev]; omega)
  refine ⟨by omega, ?_, fun i hi hm => ?_⟩
  · rw [ss, cj, z0]; decide
  · rw [ss]
    exact P g hf s hs1 i hi (by rw [← ev]; omega)
theorem ms_step {f s : Nat} {m v : Int32} (T : TH ρ c h) (r0 : ρ x0 = 16) (P : MS x0 m h) (hf : hR h x0 5 = some f) (hs : hR h f 4 = some s) (im : Rg 0 11 m) (e : h2 = wI h s m.toNatClampNeg v) : FreshZ x0 h2 ∧ (v.toInt ≤ 7 → MS x0 m h2) := by
  have rf := th_f5 T r0 hf
  have rs := th_f4 T rf hs
  obtain ⟨a1, a2, a3⟩ := P f s hf hs
  obtain ⟨j, ej, tj, hj⟩ := rg_nI im (Int.le_refl 0)
  have cj : m.toNatClampNeg = j := by rw [ej, z_clamp hj]
  have mf : hI h2 f 2 = hI h f 2 := by rw [e, r_I, if_neg (ne_r rf rs (by decide))]
  have so : ∀ i : Nat, (hI h f 2).toInt ≤ (i : Int) → hI h2 s i = hI h s i := fun i hm => by
    rw [e, r_I, if_neg (fun q => by have := q.2; omega)]
  have id1 : ∀ g, hR h2 x0 5 = some g → g = f := fun g hg => by
    have hg1 : hR h x0 5 = some g := by rw [e] at hg; exact hg
    rw [hf] at hg1; exact (Option.some.inj hg1).symm
  have id2 : ∀ t, hR h2 f 4 = some t → t = s := fun t ht => by
    have ht1 : hR h f 4 = some t := by rw [e] at ht; exact ht
    rw [hs] at ht1; exact (Option.some.inj ht1).symm
  refine ⟨fun g hg t ht i hi hm => ?_, fun hv g t hg ht => ?_⟩
  · have := id1 g hg; subst this
    have := id2 t ht; subst this
    rw [mf] at hm
    rw [so i hm]
    exact a3 i hi hm
  · have := id1 g hg; subst this
    have := id2 t ht; subst this
    refine ⟨by rw [mf]; exact a1, by rw [e, r_I, if_pos ⟨rfl, rfl⟩]; exact hv, fun i hi hm => ?_⟩
    rw [mf] at hm
    rw [so i hm]
    exact a3 i hi hm
theorem ms_fz {m : Int32} (P : MS x0 m h) : FreshZ x0 h := fun f hf s hs => (P f s hf hs).2.2
theorem ms_use {m : Int32} {f s : Nat} (P : MS x0 m h) (hf : hR h x0 5 = some f) (hs : hR h f 4 = some s) : (hI h s m.toNatClampNeg).toInt ≤ 7 := (P f s hf hs).2.1
theorem rz_fr {f0 : Nat} (T : TH ρ c h) (r0 : ρ f0 = 15) (f : Fr ρ (cat c S h) h h2) (s2 : ∀ w, S 15 w 4 = false) (s3 : ∀ w, S 15 w 2 = false) (s4 : ∀ w i, S 74 w i = false) (P : RulZ f0 h) : RulZ f0 h2 := fun s hs i hi hm => by
  rw [(fr_RI f r0 (by decide) s2).2.2] at hs
  have rs := th_f4 T r0 hs
  rw [(fr_RI f r0 (by decide) s3).1] at hm
  rw [(fr_RI f rs (by decide) (fun w => s4 w i)).1]
  exact P s hs i hi hm
theorem fz_clear {r : Nat} (f : Fr ρ (cat c S h) h h2) (r0 : ρ x0 = 16) (hr : hR h x0 5 = some r) (s1 : ∀ w, S 16 w 5 = false) (P : RulZ r h2) : FreshZ x0 h2 := fun g hg => by
  rw [(fr_RI f r0 (by decide) s1).2.2, hr] at hg
  rw [← Option.some.inj hg]
  exact P
def Kz (x0 s : Nat) (h : Hp) : Prop := hR h x0 4 = some s ∧ ∀ i : Nat, i < 12 → hI h s i = 0
theorem kz_w {s j : Nat} {v : Int32} (r0 : ρ x0 = 15) (q0 : ρ s = 74) (K : Kz x0 s h) (e : h2 = wI h x0 j v) : Kz x0 s h2 := ⟨hr_w e K.1, fun i hi => by rw [e, r_I, if_neg (ne_r q0 r0 (by decide))]; exact K.2 i hi⟩
theorem kz_j {s j : Nat} {v : Int64} (K : Kz x0 s h) (e : h2 = wJ h x0 j v) : Kz x0 s h2 := ⟨hr_j e K.1, fun i hi => by rw [e]; exact K.2 i hi⟩
theorem clr22 {F s : Nat} (hO : pmO c (cw c x0) [(74, 999), (81, 999), (15, 2), (15, 10), (15, 11), (15, 12), (15, 15), (15, 16), (15, 17), (15, 18), (15, 19), (15, 20), (15, 21), (15, 22), (15, 23)]) (r0 : ρ x0 = 15) (q0 : ρ s = 74) : ∀ (f : Nat) {h : Hp} {x1 : Int32}, TH ρ c h → hR h x0 4 = some s → Rg 0 12 x1 → (∀ i : Nat, i < x1.toNatClampNeg → hI h s i = 0) → (12 - x1.toInt).toNat < f → Sat (sX14_clear_22 F f h x0 x1) (ZQ (ZV ρ c) (fun o => RulZ x0 o)) := by
  intro f
  induction f with
  | zero => intros; omega
  | succ f ih =>
    intro h x1 T hs i1 K hm
    rw [sX14_clear_22]
    obtain ⟨j, ej, tj, hj⟩ := rg_nI i1 (Int.le_refl 0)
    have cj : x1.toNatClampNeg = j := by rw [ej, z_clamp hj]
    refine s_br (fun c1 => ?_) (fun c1 => ?_)
    · have := le_i c1
      have e12 : (12 : Int32).toInt = 12 := rfl
      have K0 : Kz x0 s h := ⟨hs, fun i hi => K i (by rw [cj]; omega)⟩
      refine s_hq (th_wI T r0 (k := 15) (lo := 0) (hi := 1) rfl (rg_b rfl) (by decide) (by decide) (pm_o hO rfl rfl)) (fun h2 T2 e2 => ?_)
      refine s_hq (th_wI T2 r0 (k := 15) (lo := 0) (hi := 1) rfl (rg_b rfl) (by decide) (by decide) (pm_o hO rfl rfl)) (fun h3 T3 e3 => ?_)
      refine s_hq (th_wI T3 r0 (k := 15) (lo := 0) (hi := 1) rfl (rg_b rfl) (by decide) (by decide) (pm_o hO rfl rfl)) (fun h4 T4 e4 => ?_)
      refine s_hq (th_wI T4 r0 (k := 15) (lo := 0) (hi := 1) rfl (rg_b rfl) (by decide) (by decide) (pm_o hO rfl rfl)) (fun h5 T5 e5 => ?_)
      refine s_hq (th_wI T5 r0 (k := 15) (lo := 0) (hi := 4095) rfl (rg_b rfl) (by decide) (by decide) (pm_o hO rfl rfl)) (fun h6 T6 e6 => ?_)
      refine s_hq (th_wI T6 r0 (k := 15) (lo := 0) (hi := 9) rfl (rg_b rfl) (by decide) (by decide) (pm_o hO rfl rfl)) (fun h7 T7 e7 => ?_)
      refine s_hq (th_wJ T7 r0 (by decide) (pm_o hO rfl rfl)) (fun h8 T8 e8 => ?_)
      refine s_hq (th_wI T8 r0 (k := 15) (lo := 0) (hi := 2) rfl (rg_b rfl) (by decide) (by decide) (pm_o hO rfl rfl)) (fun h9 T9 e9 => ?_)
      refine s_hq (th_wI T9 r0 (k := 15) (lo := 0) (hi := 2) rfl (rg_b rfl) (by decide) (by decide) (pm_o hO rfl rfl)) (fun h10 T10 e10 => ?_)
      have K10 := kz_w r0 q0 (kz_w r0 q0 (kz_j (kz_w r0 q0 (kz_w r0 q0 (kz_w r0 q0 (kz_w r0 q0 (kz_w r0 q0 (kz_w r0 q0 K0 e2) e3) e4) e5) e6) e7) e8) e9) e10
      refine s_some ⟨T10, fun t ht i hi _ => ?_⟩
      rw [K10.1] at ht
      rw [← Option.some.inj ht]
      exact K10.2 i hi
    · have ix : Rg 0 11 x1 := rg_lt1 (nle_lt c1) i1 (rg_b rfl : Rg 12 12 (12 : Int32))
      refine s_ref hs ?_
      refine s_gd (by rw [thN T q0 (k := 74) (n := 12) rfl (by decide)]; exact rg_inB ix (by decide)) ?_
      refine s_hq (th_wI T q0 (k := 74) (lo := 0) (hi := 8) rfl (rg_b rfl) (by decide) (by decide) (pm_o hO (th_ih T r0 rfl hs rfl) rfl)) (fun h13 T13 e13 => ?_)
      obtain ⟨r, er, qr⟩ := thR T13 r0 (i := 14) (k2 := 81) rfl (by decide)
      refine s_ref er ?_
      refine s_gd (by rw [thN T13 qr (k := 81) (n := 12) rfl (by decide)]; exact rg_inB ix (by decide)) ?_
      refine s_hq (th_wI T13 qr (k := 81) (lo := 0) (hi := 6) rfl (rg_b rfl) (by decide) (by decide) (pm_o hO (th_ih T13 r0 rfl er rfl) rfl)) (fun h16 T16 e16 => ?_)
      refine s_q (fun v ev => ?_)
      have m : v.toInt = x1.toInt + 1 := by rw [ev]; exact rg_inc ix (by decide)
      have b1 := ix.1
      have b2 := ix.2
      have mc : v.toNatClampNeg = j + 1 := by
        have e : v = nI (j + 1) := by rw [ev, ej]; exact z_add j 1
        rw [e, z_clamp (by omega)]
      refine ih T16 (hr_w e16 (hr_w e13 hs)) ⟨by omega, by omega⟩ (fun i hi => ?_) (by omega)
      rw [e16, r_I, if_neg (ne_r q0 qr (by decide)), e13, r_I, cj]
      by_cases z : i = j
      · rw [if_pos ⟨rfl, z⟩]
      · rw [if_neg (fun w => z w.2)]
        exact K i (by rw [cj]; rw [mc] at hi; omega)
theorem zX14_clear {F : Nat} (hF : 700000 ≤ F) (hO : pmO c (cw c x0) [(74, 999), (81, 999), (15, 2), (15, 10), (15, 11), (15, 12), (15, 15), (15, 16), (15, 17), (15, 18), (15, 19), (15, 20), (15, 21), (15, 22), (15, 23)]) (T : TH ρ c h) (r0 : ρ x0 = 15) : Sat (sX14_clear F h x0) (ZQ (ZV ρ c) (fun o => RulZ x0 o)) := by
  unfold sX14_clear
  refine s_hq (th_wI T r0 (k := 15) (lo := 0) (hi := 12) rfl (rg_b rfl) (by decide) (by decide) (pm_o hO rfl rfl)) (fun h1 T1 e1 => ?_)
  refine s_hq (th_wI T1 r0 (k := 15) (lo := -1) (hi := 11) rfl (rg_b rfl) (by decide) (by decide) (pm_o hO rfl rfl)) (fun h2 T2 e2 => ?_)
  refine s_hq (th_wI T2 r0 (k := 15) (lo := -1) (hi := 11) rfl (rg_b rfl) (by decide) (by decide) (pm_o hO rfl rfl)) (fun h3 T3 e3 => ?_)
  refine s_hq (th_wI T3 r0 (k := 15) (lo := -1) (hi := 11) rfl (rg_b rfl) (by decide) (by decide) (pm_o hO rfl rfl)) (fun h4 T4 e4 => ?_)
  obtain ⟨s, hs, qs⟩ := thR T4 r0 (i := 4) (k2 := 74) rfl (by decide)
  have z : (0 : Int32).toInt = 0 := rfl
  exact clr22 hO r0 qs F T4 hs ⟨by rw [z]; omega, by rw [z]; omega⟩ (fun i hi => absurd hi (by rw [show (0 : Int32).toNatClampNeg = 0 from by decide]; omega)) (by rw [z]; omega)
end
def Ta (x0 x1 : Nat) (h : Hp) : Prop := 97 ≤ (hI h x1 (hI h x0 7).toNatClampNeg).toInt ∧ (hI h x1 (hI h x0 7).toNatClampNeg).toInt ≤ 122
def WdP (x0 x1 : Nat) (h : Hp) : Prop := (hI h x0 6).toInt = 1 → Ta x0 x1 h
section
variable {ρ : Nat → Nat} {c : Cm} {h h2 : Hp} {S : Nat → Nat → Nat → Bool} {x0 x1 : Nat}
theorem ta_fr (T : TH ρ c h) (r0 : ρ x0 = 16) (r1 : ρ x1 = 82) (f : Fr ρ (cat c S h) h h2) (s1 : ∀ w, S 16 w 7 = false) (s2 : ∀ w i, S 82 w i = false) (P : Ta x0 x1 h) : Ta x0 x1 h2 := by
  unfold Ta at P ⊢
  rw [(fr_RI f r0 (by decide) s1).1, (fr_RI f r1 (by decide) (fun w => s2 w _)).1]
  exact P
theorem wd_fr (T : TH ρ c h) (r0 : ρ x0 = 16) (r1 : ρ x1 = 82) (f : Fr ρ (cat c S h) h h2) (s0 : ∀ w, S 16 w 6 = false) (s1 : ∀ w, S 16 w 7 = false) (s2 : ∀ w i, S 82 w i = false) (P : WdP x0 x1 h) : WdP x0 x1 h2 := fun q => by
  rw [(fr_RI f r0 (by decide) s0).1] at q
  exact ta_fr T r0 r1 f s1 s2 (P q)
theorem wd_use (P : WdP x0 x1 h) (q : (hI h x0 6).toInt = 1) : Rg 97 122 (hI h x1 (hI h x0 7).toNatClampNeg) := P q
theorem ta_in {x3 : Int32} (e : hI h x0 7 = x3) (P : 97 ≤ (hI h x1 x3.toNatClampNeg).toInt ∧ (hI h x1 x3.toNatClampNeg).toInt ≤ 122) : Ta x0 x1 h := by
  unfold Ta; rw [e]; exact P
theorem ta_wd (P : Ta x0 x1 h) : WdP x0 x1 h := fun _ => P
end
theorem gm_0 : GM (0 : Int32) := ⟨rg_b rfl, Or.inl (rg_b rfl), Or.inl (rg_b rfl)⟩
/-- a man stands on the square of the position that the moves object works on -/
def MenAt (x0 : Nat) (x1 : Int32) (h : Hp) : Prop := ∀ p on, hR h x0 4 = some p → hR h p 0 = some on → 0 ≤ (hI h on x1.toNatClampNeg).toInt
section
variable {ρ : Nat → Nat} {c : Cm} {h h2 : Hp} {S : Nat → Nat → Nat → Bool} {x0 : Nat} {x1 : Int32}
theorem ma_use {p on : Nat} (P : MenAt x0 x1 h) (e1 : hR h x0 4 = some p) (e2 : hR h p 0 = some on) : 0 ≤ (hI h on x1.toNatClampNeg).toInt := P p on e1 e2
theorem ma_fr (T : TH ρ c h) (r0 : ρ x0 = 6) (f : Fr ρ (cat c S h) h h2) (s1 : ∀ w, S 6 w 4 = false) (s2 : ∀ w, S 4 w 0 = false) (s3 : ∀ w i, S 34 w i = false) (P : MenAt x0 x1 h) : MenAt x0 x1 h2 := fun p on e1 e2 => by
  rw [(fr_RI f r0 (by decide) s1).2.2] at e1
  have hp : ρ p = 4 := thRn T r0 (i := 4) (k2 := 4) rfl (by decide) e1
  rw [(fr_RI f hp (by decide) s2).2.2] at e2
  rw [(fr_RI f (th_on T hp e2) (by decide) (fun w => s3 w _)).1]
  exact P p on e1 e2
end
theorem lt_or {x : Int32} (h : LT x) : x.toInt = 0 ∨ (97 ≤ x.toInt ∧ x.toInt ≤ 122) := by
  rcases h with h | h
  · exact Or.inl (by rw [h]; rfl)
  · exact Or.inr h
/-- a step of the man that is led comes to the square -/
def StepAt (x0 : Nat) (x3 : Int32) (h : Hp) : Prop := ∀ r, hR h x0 25 = some r → 0 ≤ (hI h r x3.toNatClampNeg).toInt
theorem sa_fr {ρ : Nat → Nat} {c : Cm} {h h2 : Hp} {S : Nat → Nat → Nat → Bool} {x0 : Nat} {x3 : Int32} (T : TH ρ c h) (r0 : ρ x0 = 16) (f : Fr ρ (cat c S h) h h2) (s1 : ∀ w, S 16 w 25 = false) (s2 : ∀ w i, S 87 w i = false) (P : StepAt x0 x3 h) : StepAt x0 x3 h2 := fun r hr => by
  rw [(fr_RI f r0 (by decide) s1).2.2] at hr
  obtain ⟨q, e1, e2⟩ := thR T r0 (i := 25) (k2 := 87) rfl (by decide)
  have : r = q := by rw [e1] at hr; exact (Option.some.inj hr).symm
  rw [(fr_RI f (this ▸ e2) (by decide) (fun w => s2 w _)).1]
  exact P r hr
end
section
-- things that are made: old addresses keep what they have, new ones take their roles when they are whole
def Ext (ρ : Nat → Nat) (c : Cm) (ρ' : Nat → Nat) (c' : Cm) : Prop := (∀ a, ρ a ≠ 0 → ρ' a = ρ a ∧ cw c' a = cw c a) ∧ c'.2.1 = c.2.1 ∧ c'.2.2.2 = c.2.2.2 ∧ c.1.1 ≤ c'.1.1 ∧ ∀ a, a < c.1.1 → ρ' a = ρ a
theorem ex_0 {ρ : Nat → Nat} {c : Cm} : Ext ρ c ρ c := ⟨fun _ _ => ⟨rfl, rfl⟩, rfl, rfl, Nat.le_refl _, fun _ _ => rfl⟩
theorem ex_t {ρ ρ1 ρ2 : Nat → Nat} {c c1 c2 : Cm} (X : Ext ρ c ρ1 c1) (Y : Ext ρ1 c1 ρ2 c2) : Ext ρ c ρ2 c2 := by
  obtain ⟨x1, x2, x3, x4, x7⟩ := X
  obtain ⟨y1, y2, y3, y4, y7⟩ := Y
  refine ⟨fun a ha => ?_, y2.trans x2, y3.trans x3, by omega, fun a l => (y7 a (by omega)).trans (x7 a l)⟩
  have p := x1 a ha
  have q := y1 a (by rw [p.1]; exact ha)
  exact ⟨q.1.trans p.1, q.2.trans p.2⟩
theorem ex_r {a k : Nat} {ρ ρ1 : Nat → Nat} {c c1 : Cm} (X : Ext ρ c ρ1 c1) (e : ρ a = k) (h0 : k ≠ 0) : ρ1 a = k := ((X.1 a (by rw [e]; exact h0)).1).trans e
theorem ex_w {a k w : Nat} {ρ ρ1 : Nat → Nat} {c c1 : Cm} (X : Ext ρ c ρ1 c1) (e : ρ a = k) (h0 : k ≠ 0) (o : cw c a = w) : cw c1 a = w := ((X.1 a (by rw [e]; exact h0)).2).trans o
theorem ex_j {j : Nat} {ρ ρ1 : Nat → Nat} {c c1 : Cm} (X : Ext ρ c ρ1 c1) (m : c.2.1 j = true) : c1.2.1 j = true := by rw [X.2.1]; exact m
def Old (h o : Hp) : Prop := ∀ b, b < h.1.1 → (∀ i, hI o b i = hI h b i) ∧ (∀ i, hJ o b i = hJ h b i) ∧ (∀ i, hR o b i = hR h b i) ∧ hN o b = hN h b
theorem adopt {ρ : Nat → Nat} {c : Cm} {h o : Hp} (T : TH ρ c h) (O : Old h o) (ρ' w' : Nat → Nat) (le : h.1.1 ≤ o.1.1)
    (e1 : ∀ a, a < h.1.1 → ρ' a = ρ a) (e2 : ∀ a, o.1.1 ≤ a → ρ' a = 0) (ew : ∀ a, a < h.1.1 → w' a = cw c a)
    (n2 : ∀ a i, h.1.1 ≤ a → Rg (rgI (ρ' a) i).1 (rgI (ρ' a) i).2 (hI o a i) ∧ rP (c.2.1 50) (w' a) (ρ' a) i (hI o a i))
    (n3 : ∀ a i, h.1.1 ≤ a → rfK (ρ' a) i ≠ 0 → ∃ r, hR o a i = some r ∧ ρ' r = rfK (ρ' a) i)
    (n4 : ∀ a i, h.1.1 ≤ a → rfN (ρ' a) i = 0) (n5 : ∀ a, h.1.1 ≤ a → rln (ρ' a) ≠ 0 → hN o a = rln (ρ' a))
    (n6 : ∀ a, h.1.1 ≤ a → ρ' a ≠ 10)
    (n7 : ∀ p i r, h.1.1 ≤ p → ρ' p = 4 → i < 3 → hR o p i = some r → h.1.1 ≤ r ∧ (∀ d, hJ o r d = 0))
    (n7u : ∀ p q i r, h.1.1 ≤ p → h.1.1 ≤ q → ρ' p = 4 → ρ' q = 4 → i < 3 → hR o p i = some r → hR o q i = some r → p = q)
    (n8 : ∀ a i, h.1.1 ≤ a → nid (ρ' a) i = 0) (n9 : ∀ a, h.1.1 ≤ a → (sgl (ρ' a) || (ρ' a == 32 || ρ' a == 2)) = false)
    (nw : ∀ a i r, h.1.1 ≤ a → inh (ρ' a) = true → hR o a i = some r → w' r = w' a) (nk : ∀ a i, h.1.1 ≤ a → kid (ρ' a) i = 0)
    (nr : ∀ a i r, h.1.1 ≤ a → ρ' a ≠ 0 → hR o a i = some r → r < o.1.1) :
    TH ρ' (o.1, (c.2.1, (w', c.2.2.2))) o := by
  obtain ⟨⟨t1, t2, t3, t4, t5, t6, t7, t8, t9⟩, ⟨o1, o2, o3, o4⟩, f⟩ := T
  rw [← t1] at o3 o4
  have lt : ∀ a, ρ a ≠ 0 → a < h.1.1 := o3
  have rl : ∀ a i r, ρ a ≠ 0 → hR h a i = some r → r < h.1.1 := o4
  refine ⟨⟨rfl, fun a i => ?_, fun a i hk => ?_, fun a i hk r hr => ?_, fun a hk => ?_, ?_, ?_, fun a i hk hm => ?_, fun a b hab hs => ?_⟩, ⟨fun a i r hi hr => ?_, fun a i r hk hr => ?_, fun a ha => ?_, fun a i r ha hr => ?_⟩, Nat.le_trans f.1 le, fun a i l h0 hs => ?_, fun a l h0 => ?_⟩
  · by_cases q : a < h.1.1
    · rw [e1 a q, (O a q).1]
      have y := t2 a i
      rw [← ew a q] at y
      exact y
    · exact n2 a i (by omega)
  · by_cases q : a < h.1.1
    · rw [e1 a q] at hk ⊢
      obtain ⟨r, h1, h2⟩ := t3 a i hk
      have hr0 : ρ r ≠ 0 := by rw [h2]; exact hk
      exact ⟨r, by rw [(O a q).2.2.1]; exact h1, by rw [e1 r (lt r hr0)]; exact h2⟩
    · exact n3 a i (by omega) hk
  · by_cases q : a < h.1.1
    · rw [e1 a q] at hk ⊢
      rw [(O a q).2.2.1] at hr
      have h2 := t4 a i hk r hr
      rw [e1 r (lt r (by rw [h2]; exact hk))]; exact h2
    · exact absurd (n4 a i (by omega)) hk
  · by_cases q : a < h.1.1
    · rw [e1 a q] at hk ⊢
      rw [(O a q).2.2.2]; exact t5 a hk
    · exact n5 a (by omega) hk
  · intro t tb ht hr
    by_cases q : t < h.1.1
    · rw [e1 t q] at ht
      rw [(O t q).2.2.1] at hr
      have hb := rl t 0 tb (by rw [ht]; decide) hr
      rw [(O t q).1, (O tb hb).2.2.2]
      exact t6 t tb ht hr
    · exact absurd ht (n6 t (by omega))
  · refine ⟨fun p q i a hi hp hq h1 h2 => ?_, fun p on of hp ho hf s hs d hd hb => ?_⟩
    · by_cases u : p < h.1.1
      · rw [e1 p u] at hp
        rw [(O p u).2.2.1] at h1
        have ha := rl p i a (by rw [hp]; decide) h1
        by_cases v : q < h.1.1
        · rw [e1 q v] at hq
          rw [(O q v).2.2.1] at h2
          exact t7.1 p q i a hi hp hq h1 h2
        · have := (n7 q i a (by omega) hq hi h2).1
          omega
      · by_cases v : q < h.1.1
        · rw [e1 q v] at hq
          rw [(O q v).2.2.1] at h2
          have ha := rl q i a (by rw [hq]; decide) h2
          have := (n7 p i a (by omega) hp hi h1).1
          omega
        · exact n7u p q i a (by omega) (by omega) hp hq hi h1 h2
    · by_cases u : p < h.1.1
      · rw [e1 p u] at hp
        rw [(O p u).2.2.1] at ho hf
        have b1 := rl p 0 on (by rw [hp]; decide) ho
        have b2 := rl p 1 of (by rw [hp]; decide) hf
        rw [(O of b2).2.1] at hb
        rw [(O on b1).1]
        exact t7.2 p on of hp ho hf s hs d hd hb
      · rw [(n7 p 1 of (by omega) hp (by decide) hf).2] at hb
        exact absurd hb (by rw [bj_zero]; decide)
  · by_cases q : a < h.1.1
    · rw [e1 a q] at hk hm
      obtain ⟨r, hr⟩ := t8 a i hk hm
      exact ⟨r, by rw [(O a q).2.2.1]; exact hr⟩
    · exact absurd (n8 a i (by omega)) hk
  · by_cases q : a < h.1.1
    · by_cases v : b < h.1.1
      · rw [e1 a q] at hab hs
        rw [e1 b v] at hab
        refine t9 a b hab (hs.imp id (fun z => ⟨z.1, ?_⟩))
        rw [← ew a q, ← ew b v]
        exact z.2
      · have y := n9 b (by omega)
        rw [hab] at hs
        rw [Bool.or_eq_false_iff, Bool.or_eq_false_iff, beq_eq_false_iff_ne, beq_eq_false_iff_ne] at y
        rcases hs with z | ⟨z | z, _⟩
        · rw [y.1] at z; exact absurd z (by decide)
        · exact absurd z y.2.1
        · exact absurd z y.2.2
    · have y := n9 a (by omega)
      rw [Bool.or_eq_false_iff, Bool.or_eq_false_iff, beq_eq_false_iff_ne, beq_eq_false_iff_ne] at y
      rcases hs with z | ⟨z | z, _⟩
      · rw [y.1] at z; exact absurd z (by decide)
      · exact absurd z y.2.1
      · exact absurd z y.2.2
  · show w' r = w' a
    by_cases q : a < h.1.1
    · rw [e1 a q] at hi
      rw [(O a q).2.2.1] at hr
      have a0 : ρ a ≠ 0 := fun z => by rw [z] at hi; exact absurd hi (by decide)
      rw [ew a q, ew r (rl a i r a0 hr)]
      exact o1 a i r hi hr
    · exact nw a i r (by omega) hi hr
  · show w' r = _
    by_cases q : a < h.1.1
    · rw [e1 a q] at hk ⊢
      rw [(O a q).2.2.1] at hr
      have a0 : ρ a ≠ 0 := fun z => by rw [z] at hk; exact absurd rfl hk
      rw [ew r (rl a i r a0 hr)]
      exact o2 a i r hk hr
    · exact absurd (nk a i (by omega)) hk
  · show a < o.1.1
    by_cases q : a < o.1.1
    · exact q
    · exact absurd (e2 a (by omega)) ha
  · show r < o.1.1
    by_cases q : a < h.1.1
    · rw [e1 a q] at ha
      rw [(O a q).2.2.1] at hr
      have := rl a i r ha hr
      omega
    · exact nr a i r (by omega) ha hr
  · have la : a < h.1.1 := Nat.lt_of_lt_of_le l f.1
    rw [e1 a la] at h0
    have hs' : cPm c (ρ a) (cw c a) i = false := by
      have : cPm c (ρ' a) (w' a) i = false := hs
      rw [e1 a la, ew a la] at this
      exact this
    obtain ⟨p1, p2, p3⟩ := f.2.1 a i l h0 hs'
    exact ⟨((O a la).1 i).trans p1, ((O a la).2.1 i).trans p2, ((O a la).2.2.1 i).trans p3⟩
  · have la : a < h.1.1 := Nat.lt_of_lt_of_le l f.1
    rw [e1 a la] at h0
    exact (O a la).2.2.2.trans (f.2.2 a l h0)
-- permissions, and the frame, behind what is made
section
variable {ρ ρ1 : Nat → Nat} {c c1 : Cm}
theorem ex_p (X : Ext ρ c ρ1 c1) {k w i : Nat} (p : cPm c k w i = true) : cPm c1 k w i = true := by
  show c1.2.2.2.1 k w i = true
  rw [X.2.2.1]; exact p
theorem ex_A (X : Ext ρ c ρ1 c1) {A : List (Nat × Nat)} (p : pmA c A) : pmA c1 A := fun w k i m => ex_p X (p w k i m)
theorem ex_O (X : Ext ρ c ρ1 c1) {A : List (Nat × Nat)} {w : Nat} (p : pmO c w A) : pmO c1 w A := fun k i m => ex_p X (p k i m)
/-- the frame of a call that makes things, for what stood before -/
theorem ex_f {S : Nat → Nat → Nat → Bool} {h o : Hp} (T : TH ρ c h) (X : Ext ρ (cat c S h) ρ1 c1) (T1 : TH ρ1 c1 o) : Fr ρ (cat c S h) h o := by
  have lt : ∀ a, ρ a ≠ 0 → a < h.1.1 := fun a ha => by rw [T.1.1]; exact T.2.1.2.2.1 a ha
  have g : FrG ρ1 c1 (c0 c1) o := T1.2.2
  have e0 : c0 c1 = h := by show c1.2.2.2.2 = h; rw [X.2.2.1]; rfl
  rw [e0] at g
  refine ⟨fun a i h0 hs => g.2.1 a i (lt a h0) (by rw [(X.1 a h0).1]; exact h0) ?_, fun a h0 => g.2.2 a (lt a h0) (by rw [(X.1 a h0).1]; exact h0)⟩
  show c1.2.2.2.1 (ρ1 a) (cw c1 a) i = false
  rw [X.2.2.1, (X.1 a h0).1, (X.1 a h0).2]
  exact hs
/-- out of the frame again -/
theorem ex_o {S : Nat → Nat → Nat → Bool} {h o : Hp} (T : TH ρ c h) (hs : ∀ k w i, S k w i = true → cPm c k w i = true) (X : Ext ρ (cat c S h) ρ1 c1) (T1 : TH ρ1 c1 o) : Ext ρ c ρ1 (c1.1, (c1.2.1, (c1.2.2.1, c.2.2.2))) ∧ TH ρ1 (c1.1, (c1.2.1, (c1.2.2.1, c.2.2.2))) o := by
  have fr := ex_f T X T1
  refine ⟨⟨fun a h0 => X.1 a h0, X.2.1, rfl, X.2.2.2.1, X.2.2.2.2⟩, T1.1, T1.2.1, ?_⟩
  have g : FrG ρ1 c1 (c0 c1) o := T1.2.2
  have e0 : c0 c1 = h := by show c1.2.2.2.2 = h; rw [X.2.2.1]; rfl
  rw [e0] at g
  have lt : ∀ a, ρ a ≠ 0 → a < h.1.1 := fun a ha => by rw [T.1.1]; exact T.2.1.2.2.1 a ha
  have f := T.2.2
  have ol : ∀ a, a < (c0 c).1.1 → ρ1 a = ρ a := fun a l => X.2.2.2.2 a (by show a < c.1.1; rw [← T.1.1]; exact Nat.lt_of_lt_of_le l f.1)
  refine ⟨Nat.le_trans f.1 g.1, fun a i l h0 hz => ?_, fun a l h0 => ?_⟩
  · have q : ρ a ≠ 0 := by rw [← ol a l]; exact h0
    have hz' : cPm c (ρ a) (cw c a) i = false := by
      have : cPm c (ρ1 a) (cw c1 a) i = false := hz
      rw [(X.1 a q).1, (X.1 a q).2] at this
      exact this
    obtain ⟨p1, p2, p3⟩ := f.2.1 a i l q hz'
    have hS : (cat c S h).2.2.2.1 (ρ a) (cw c a) i = false := by
      cases w : S (ρ a) (cw c a) i with
      | false => exact w
      | true => exact absurd (hs _ _ _ w) (by rw [hz']; decide)
    obtain ⟨q1, q2, q3⟩ := fr.1 a i q hS
    exact ⟨q1.trans p1, q2.trans p2, q3.trans p3⟩
  · have q : ρ a ≠ 0 := by rw [← ol a l]; exact h0
    exact (fr.2 a q).trans (f.2.2 a l q)
end
end
