section
variable {ρ : Nat → Nat} {c : Cm} {h : Hp}
theorem letter_ {x0 : Int32} : Sat (sX2_isLetter h x0) (ZP0 h 0 1 0 (Rg 97 122 x0)) := by
  unfold sX2_isLetter sX2_isLetter_16 sX2_isLetter_17
  refine s_br (fun c1 => s_gd (by decide) (s_some ⟨rfl, rg_b rfl, fun q => absurd rfl q⟩)) (fun c1 => ?_)
  refine s_br (fun c2 => s_gd (by decide) (s_some ⟨rfl, rg_b rfl, fun q => absurd rfl q⟩)) (fun c2 => ?_)
  refine s_gd (by decide) (s_some ⟨rfl, rg_b rfl, fun _ => ?_⟩)
  rw [Int32.lt_iff_toInt_lt, show (97 : Int32).toInt = 97 from rfl] at c1
  rw [Int32.lt_iff_toInt_lt, show (122 : Int32).toInt = 122 from rfl] at c2
  exact ⟨by omega, by omega⟩
/-- a write that is written over -/
theorem th_w343 {x0 : Nat} {u v w : Int32} (hA : pmA c [(3, 2), (3, 3), (3, 4), (3, 5)]) (T : TH ρ c h) (r0 : ρ x0 = 3) (hv : Rg 0 5 v) (hw : Rg 0 1201 w) : TH ρ c (wI (wI (wI h x0 3 u) x0 4 v) x0 3 w) := by
  have T2 := th_wI (th_wI T r0 (k := 3) (i := 4) (lo := 0) (hi := 5) rfl hv (by decide) (by decide)) r0 (k := 3) (i := 3) (lo := 0) (hi := 1201) rfl hw (by decide) (by decide)
  have e : ∀ b j, hI (wI (wI (wI h x0 3 u) x0 4 v) x0 3 w) b j = hI (wI (wI h x0 4 v) x0 3 w) b j := fun b j => by
    rw [r_I, r_I, r_I, r_I, r_I]
    by_cases q : b = x0 ∧ j = 3
    · rw [if_pos q, if_pos q]
    · rw [if_neg q, if_neg q, if_neg q]
  obtain ⟨⟨t1, t2, t3, t4, t5, t6, t7, t8, t9⟩, t10, t11⟩ := T2
  refine ⟨⟨t1, fun a i => by rw [e]; exact t2 a i, t3, t4, t5, fun t tb ht hr => ?_, ⟨t7.1, fun p on of hp ho hf s hs d hd hb => ?_⟩, t8, t9⟩, t10, ⟨t11.1, fun a i l h0 hs => by rw [e]; exact t11.2.1 a i l h0 hs, t11.2.2⟩⟩
  · rw [e]; exact t6 t tb ht hr
  · rw [e]; exact t7.2 p on of hp ho hf s hs d hd hb
theorem adv122 {F x0 : Nat} (hF : 700000 ≤ F) (m1 : c.2.1 1 = true) (hA : pmA c [(3, 2), (3, 3), (3, 4), (3, 5)]) (r0 : ρ x0 = 3) : ∀ (f : Nat) {h : Hp}, TH ρ c h → (1201 - (hI h x0 3).toInt).toNat < f → Sat (sX2_advance_122 F f h x0) (ZV ρ c) := by
  intro f
  induction f with
  | zero => intros; omega
  | succ f ih =>
    intro h T hm
    rw [sX2_advance_122]
    unfold sX2_advance_230
    obtain ⟨r, er, qr⟩ := thM T r0 (i := 0) (j := 1) (k2 := 10) rfl (by decide) rfl (by decide) m1
    refine s_ref er ?_
    refine s_br (fun c1 => s_some T) (fun c1 => ?_)
    refine s_ref er ?_
    obtain ⟨⟨v4, g4⟩, eb, e4, i4, p4⟩ := zX9_byteAt hF T qr (rg_top (hI h x0 3))
    dsimp only at e4 i4 p4
    subst e4
    refine s_val eb ?_
    dsimp only
    refine s_cP0 letter_ (fun o5 e5 i5 p5 => ?_)
    obtain ⟨v5, g5⟩ := o5
    dsimp only at e5 i5 p5 ⊢
    subst e5
    refine s_br (fun c2 => s_some T) (fun c2 => ?_)
    have n4 : ¬ v4 = -1 := fun q => rc_eq q (p5 c2) (rg_b rfl : Rg (-1) (-1) (-1 : Int32)) (by decide)
    have i3 := p4 n4
    have w : (hI g5 x0 3 + (1 : Int32)).toInt = (hI g5 x0 3).toInt + 1 := rg_inc i3 (by decide)
    have j1 := i3.1
    have j2 := i3.2
    refine s_hq (th_wI T r0 (k := 3) (lo := 0) (hi := 1201) rfl ⟨by omega, by omega⟩ (by decide) (by decide)) (fun h7 T7 e7 => ?_)
    have a7 : (hI h7 x0 3).toInt = (hI g5 x0 3).toInt + 1 := by rw [e7, r_I, if_pos ⟨rfl, rfl⟩]; exact w
    exact ih T7 (by omega)
theorem adv179 {F x0 : Nat} {x1 : Int32} (hF : 700000 ≤ F) (m1 : c.2.1 1 = true) (hA : pmA c [(3, 2), (3, 3), (3, 4), (3, 5)]) (r0 : ρ x0 = 3) (T : TH ρ c h) (i2 : Rg 0 1199 (hI h x0 2)) : Sat (sX2_advance_179 F h x0 x1) (ZV ρ c) := by
  unfold sX2_advance_179 sX2_advance_199 sX2_advance_230
  refine s_br (fun c1 => ?_) (fun c1 => ?_)
  · exact s_cV (zX2_scanNumber hF m1 (pmA_s hA rfl) T r0 (rg_add i2 (rg_b rfl : Rg 1 1 (1 : Int32)) (by decide))) (fun o T1 => s_some T1)
  · exact s_cV (zX2_scanNumber hF m1 (pmA_s hA rfl) T r0 (rg_m i2 (by decide))) (fun o T1 => s_some T1)
theorem adv227 {F x0 : Nat} {t0 : Int32} (hA : pmA c [(3, 2), (3, 3), (3, 4), (3, 5)]) (r0 : ρ x0 = 3) (T : TH ρ c h) (it : Rg 0 5 t0) : Sat (sX2_advance_227 F h t0 x0) (ZV ρ c) := by
  unfold sX2_advance_227 sX2_advance_230
  exact s_h (th_wI T r0 (k := 3) (lo := 0) (hi := 5) rfl it (by decide) (by decide)) (fun h1 T1 => s_some T1)
theorem adv67 {F x0 : Nat} (hF : 700000 ≤ F) (m1 : c.2.1 1 = true) (hA : pmA c [(3, 2), (3, 3), (3, 4), (3, 5)]) (r0 : ρ x0 = 3) (T : TH ρ c h) : Sat (sX2_advance_67 F h x0) (ZV ρ c) := by
  unfold sX2_advance_67
  obtain ⟨r, er, qr⟩ := thM T r0 (i := 0) (j := 1) (k2 := 10) rfl (by decide) rfl (by decide) m1
  refine s_ref er ?_
  obtain ⟨⟨v2, g2⟩, eb, e2, i2, p2⟩ := zX9_byteAt hF T qr (rg_top (hI h x0 2))
  dsimp only at e2 i2 p2
  subst e2
  refine s_val eb ?_
  dsimp only
  refine s_q (fun h3 e3 => ?_)
  refine s_br (fun c1 => ?_) (fun c1 => ?_)
  · refine s_q (fun h13 e13 => ?_)
    refine s_q (fun h14 e14 => ?_)
    unfold sX2_advance_230
    refine s_some ?_
    have a2 : hI h13 x0 2 = hI g2 x0 2 := by rw [e13, r_I, if_neg (fun q => absurd q.2 (by decide)), e3, r_I, if_neg (fun q => absurd q.2 (by decide))]
    have i2' : Rg 0 1201 (hI h13 x0 2) := by rw [a2]; exact thI T r0 (k := 3) rfl
    show TH ρ c h14
    rw [e14]
    rw [e13, e3] at i2' ⊢
    exact th_w343 hA T r0 (rg_b rfl) i2'
  · have is := p2 c1
    have T3 : TH ρ c h3 := by
      rw [e3]
      exact th_wI T r0 (k := 3) (lo := 0) (hi := 1201) rfl (rg_add is (rg_b rfl : Rg 1 1 (1 : Int32)) (by decide)) (by decide) (by decide)
    have is3 : Rg 0 1199 (hI h3 x0 2) := by rw [e3, r_I, if_neg (fun q => absurd q.2 (by decide))]; exact is
    refine s_cP0 letter_ (fun o5 e5 i5 p5 => ?_)
    obtain ⟨v5, g5⟩ := o5
    dsimp only at e5 i5 p5 ⊢
    subst e5
    refine s_br (fun c2 => ?_) (fun c2 => ?_)
    · refine s_cP0 digit_ (fun o7 e7 i7 p7 => ?_)
      obtain ⟨v7, g7⟩ := o7
      dsimp only at e7 i7 p7 ⊢
      subst e7
      refine s_br (fun c3 => ?_) (fun c3 => adv179 hF m1 hA r0 T3 is3)
      refine s_br (fun c4 => adv179 hF m1 hA r0 T3 is3) (fun c4 => ?_)
      refine s_br (fun c5 => adv227 hA r0 T3 (rg_b rfl)) (fun c5 => ?_)
      exact s_br (fun c6 => adv227 hA r0 T3 (rg_b rfl)) (fun c6 => adv227 hA r0 T3 (rg_b rfl))
    · refine s_h (th_wI T3 r0 (k := 3) (lo := 0) (hi := 5) rfl (rg_b rfl) (by decide) (by decide)) (fun h12 T12 => ?_)
      have q := thI T12 r0 (k := 3) (i := 3) (lo := 0) (hi := 1201) rfl
      exact adv122 hF m1 hA r0 F T12 (by have := q.1; omega)
theorem adv8 {F x0 : Nat} (hF : 700000 ≤ F) (m1 : c.2.1 1 = true) (hA : pmA c [(3, 2), (3, 3), (3, 4), (3, 5)]) (r0 : ρ x0 = 3) : ∀ (f : Nat) {h : Hp}, TH ρ c h → (1201 - (hI h x0 2).toInt).toNat < f → Sat (sX2_advance_8 F f h x0) (ZV ρ c) := by
  intro f
  induction f with
  | zero => intros; omega
  | succ f ih =>
    intro h T hm
    rw [sX2_advance_8]
    unfold sX2_advance_54
    obtain ⟨r, er, qr⟩ := thM T r0 (i := 0) (j := 1) (k2 := 10) rfl (by decide) rfl (by decide) m1
    refine s_ref er ?_
    refine s_br (fun c1 => adv67 hF m1 hA r0 T) (fun c1 => ?_)
    have i2 : Rg 0 1199 (hI h x0 2) := by
      have a := thI T r0 (k := 3) (i := 2) (lo := 0) (hi := 1201) rfl
      have b := thI T qr (k := 10) (i := 1) (lo := 0) (hi := 1200) rfl
      exact rg_lt1 (nle_lt c1) a b
    have step : Sat (nm (wI h x0 2 (hI h x0 2 + (1 : Int32))) fun h_1 => sX2_advance_8 F f h_1 x0) (ZV ρ c) := by
      have w : (hI h x0 2 + (1 : Int32)).toInt = (hI h x0 2).toInt + 1 := rg_inc i2 (by decide)
      have j1 := i2.1
      have j2 := i2.2
      refine s_hq (th_wI T r0 (k := 3) (lo := 0) (hi := 1201) rfl ⟨by omega, by omega⟩ (by decide) (by decide)) (fun h7 T7 e7 => ?_)
      have a7 : (hI h7 x0 2).toInt = (hI h x0 2).toInt + 1 := by rw [e7, r_I, if_pos ⟨rfl, rfl⟩]; exact w
      exact ih T7 (by omega)
    refine s_ref er ?_
    obtain ⟨⟨v4, g4⟩, eb, e4, i4, p4⟩ := zX9_byteAt hF T qr (rg_top (hI h x0 2))
    dsimp only at e4 i4 p4
    subst e4
    refine s_val eb ?_
    dsimp only
    refine s_br (fun c2 => step) (fun c2 => ?_)
    refine s_ref er ?_
    refine s_val eb ?_
    dsimp only
    exact s_br (fun c3 => step) (fun c3 => adv67 hF m1 hA r0 T)
theorem zX2_advance {F : Nat} (hF : 700000 ≤ F) (m1 : c.2.1 1 = true) {x0 : Nat} (hA : pmA c [(3, 2), (3, 3), (3, 4), (3, 5)]) (T : TH ρ c h) (r0 : ρ x0 = 3) : Sat (sX2_advance F h x0) (ZV ρ c) := by
  unfold sX2_advance
  refine s_h (th_wI T r0 (k := 3) (lo := 0) (hi := 1201) rfl (thI T r0 (k := 3) rfl) (by decide) (by decide)) (fun h1 T1 => ?_)
  have q := thI T1 r0 (k := 3) (i := 2) (lo := 0) (hi := 1201) rfl
  exact adv8 hF m1 hA r0 F T1 (by have := q.1; omega)
end
