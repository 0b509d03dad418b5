theorem rg_al {h : Hp} {v r i : Nat} {lo hi : Int} (e : v = r) (f : Rg lo hi (hI h r i)) : Rg lo hi (hI h v i) := e ▸ f
theorem hr_e {h2 h : Hp} {a i r : Nat} (e : h2 = h) (f : hR h a i = some r) : hR h2 a i = some r := e ▸ f
theorem hr_w {h2 h : Hp} {a i r b j : Nat} {v : Int32} (e : h2 = wI h b j v) (f : hR h a i = some r) : hR h2 a i = some r := by
  rw [e]; exact f
theorem hr_j {h2 h : Hp} {a i r b j : Nat} {v : Int64} (e : h2 = wJ h b j v) (f : hR h a i = some r) : hR h2 a i = some r := by
  rw [e]; exact f
section
variable {ρ : Nat → Nat} {c : Cm} {h : Hp}
theorem fillI5 {F k n : Nat} {lo hi : Int} {x0 : Nat} {x1 : Int32} (e : ρ x0 = k) (hk : ∀ i, rgI k i = (lo, hi)) (hn : rln k = n) (n0 : n ≠ 0) (nb : n < 2 ^ 31) (hv : Rg lo hi x1) (n1 : k ≠ 10) (n2 : k ≠ 34) (hw : ∀ i, cPm c k (cw c x0) i = true) (hsp : spc k = false) : ∀ (f : Nat) {h : Hp} {x2 : Int32}, TH ρ c h → Rg 0 n x2 → ((n : Int) - x2.toInt).toNat < f → Sat (sJ7_fill_53178_5 F f h x0 x1 x2 (nI n)) (ZV ρ c) := by
  intro f
  induction f with
  | zero => intros; omega
  | succ f ih =>
    intro h x2 T i2 hm
    rw [sJ7_fill_53178_5]
    refine s_br (fun c1 => ?_) (fun c1 => ?_)
    · exact s_some T
    · have i2' : Rg 0 (n - 1) x2 := rg_lt1 (nle_lt c1) i2 (rg_nIn rfl nb)
      refine s_gd (by rw [thN T e hn n0]; exact rg_inB i2' ⟨Int.le_refl 0, by omega⟩) ?_
      refine s_h (th_wI T e (hk _) hv n1 n2 (hw _) (rp0 hsp)) (fun h3 T3 => ?_)
      refine s_q (fun v ev => ?_)
      have m : v.toInt = x2.toInt + 1 := by rw [ev]; exact rg_inc i2' (by omega)
      have b1 := i2'.1
      have b2 := i2'.2
      exact ih T3 ⟨by omega, by omega⟩ (by omega)
theorem zJ7_fill_53178 {F : Nat} (hF : 700000 ≤ F) {k n : Nat} {lo hi : Int} {x0 : Nat} {x1 : Int32} (T : TH ρ c h) (e : ρ x0 = k) (hv : Rg lo hi x1) (hk : ∀ i, rgI k i = (lo, hi)) (hn : rln k = n) (n0 : n ≠ 0) (nb : n < 690000) (n1 : k ≠ 10) (n2 : k ≠ 34) (hw : ∀ i, cPm c k (cw c x0) i = true) (hsp : spc k = false := by rfl) : Sat (sJ7_fill_53178 F h x0 x1) (ZV ρ c) := by
  unfold sJ7_fill_53178
  refine s_nm ?_
  rw [thN T e hn n0]
  have z : (0 : Int32).toInt = 0 := rfl
  exact fillI5 e hk hn n0 (by omega) hv n1 n2 hw hsp F T ⟨by rw [z]; omega, by rw [z]; omega⟩ (by rw [z]; omega)
theorem fillB5 {F k n : Nat} {lo hi : Int} {x0 : Nat} {x1 : Int32} (e : ρ x0 = k) (hk : ∀ i, rgI k i = (lo, hi)) (hn : rln k = n) (n0 : n ≠ 0) (nb : n < 2 ^ 31) (hv : Rg lo hi (vp_nar .byte x1)) (n1 : k ≠ 10) (n2 : k ≠ 34) (hw : ∀ i, cPm c k (cw c x0) i = true) (hsp : spc k = false) : ∀ (f : Nat) {h : Hp} {x2 : Int32}, TH ρ c h → Rg 0 n x2 → ((n : Int) - x2.toInt).toNat < f → Sat (sJ7_fill_031fb_5 F f h x0 x1 x2 (nI n)) (ZV ρ c) := by
  intro f
  induction f with
  | zero => intros; omega
  | succ f ih =>
    intro h x2 T i2 hm
    rw [sJ7_fill_031fb_5]
    refine s_br (fun c1 => ?_) (fun c1 => ?_)
    · exact s_some T
    · have i2' : Rg 0 (n - 1) x2 := rg_lt1 (nle_lt c1) i2 (rg_nIn rfl nb)
      refine s_gd (by rw [thN T e hn n0]; exact rg_inB i2' ⟨Int.le_refl 0, by omega⟩) ?_
      refine s_h (th_wI T e (hk _) hv n1 n2 (hw _) (rp0 hsp)) (fun h3 T3 => ?_)
      refine s_q (fun v ev => ?_)
      have m : v.toInt = x2.toInt + 1 := by rw [ev]; exact rg_inc i2' (by omega)
      have b1 := i2'.1
      have b2 := i2'.2
      exact ih T3 ⟨by omega, by omega⟩ (by omega)
theorem fillJ5 {F k n : Nat} {x0 : Nat} {x1 : Int64} (e : ρ x0 = k) (hn : rln k = n) (n0 : n ≠ 0) (nb : n < 2 ^ 31) (n2 : k ≠ 35) (hw : ∀ i, cPm c k (cw c x0) i = true) : ∀ (f : Nat) {h : Hp} {x3 : Int32}, TH ρ c h → Rg 0 n x3 → ((n : Int) - x3.toInt).toNat < f → Sat (sJ7_fill_d0a16_6 F f h x0 x1 x3 (nI n)) (ZV ρ c) := by
  intro f
  induction f with
  | zero => intros; omega
  | succ f ih =>
    intro h x3 T i2 hm
    rw [sJ7_fill_d0a16_6]
    refine s_br (fun c1 => ?_) (fun c1 => ?_)
    · exact s_some T
    · have i2' : Rg 0 (n - 1) x3 := rg_lt1 (nle_lt c1) i2 (rg_nIn rfl nb)
      refine s_gd (by rw [thN T e hn n0]; exact rg_inB i2' ⟨Int.le_refl 0, by omega⟩) ?_
      refine s_h (th_wJ T e n2 (hw _)) (fun h3 T3 => ?_)
      refine s_q (fun v ev => ?_)
      have m : v.toInt = x3.toInt + 1 := by rw [ev]; exact rg_inc i2' (by omega)
      have b1 := i2'.1
      have b2 := i2'.2
      exact ih T3 ⟨by omega, by omega⟩ (by omega)
theorem zJ7_fill_d0a16 {F : Nat} (hF : 700000 ≤ F) {k n : Nat} {x0 : Nat} {x1 : Int64} (T : TH ρ c h) (e : ρ x0 = k) (hn : rln k = n) (n0 : n ≠ 0) (nb : n < 690000) (n2 : k ≠ 35) (hw : ∀ i, cPm c k (cw c x0) i = true) : Sat (sJ7_fill_d0a16 F h x0 x1) (ZV ρ c) := by
  unfold sJ7_fill_d0a16
  refine s_nm ?_
  rw [thN T e hn n0]
  have z : (0 : Int32).toInt = 0 := rfl
  exact fillJ5 e hn n0 (by omega) n2 hw F T ⟨by rw [z]; omega, by rw [z]; omega⟩ (by rw [z]; omega)
-- texts
theorem th_tx (T : TH ρ c h) {t tb : Nat} (e : ρ t = 10) (er : hR h t 0 = some tb) : (hI h t 1).toInt ≤ (hN h tb : Int) ∧ hN h tb ≤ 1200 := by
  obtain ⟨t1, t2, t3, t4, t5, t6, t7, t8, t9⟩ := T.1
  exact t6 t tb e er
theorem th_wT0 (T : TH0 ρ c h) {t : Nat} {v : Int32} (e : ρ t = 10) (hv : Rg 0 1200 v) (hl : ∀ tb, hR h t 0 = some tb → v.toInt ≤ (hN h tb : Int)) : TH0 ρ c (wI h t 1 v) := by
  obtain ⟨t1, t2, t3, t4, t5, t6, t7, t8, t9⟩ := T
  refine ⟨t1, ?_, t3, t4, t5, ?_, ?_, t8, t9⟩
  · intro b j
    rw [r_I]
    by_cases q : b = t ∧ j = 1
    · rw [if_pos q, q.1, q.2, e]; exact ⟨hv, rp0 rfl⟩
    · rw [if_neg q]; exact t2 b j
  · intro u ub hu hr
    rw [r_I]
    by_cases q : u = t
    · rw [if_pos ⟨q, rfl⟩]
      subst q
      exact ⟨hl ub hr, (t6 u ub hu hr).2⟩
    · rw [if_neg (fun w => q w.1)]
      exact t6 u ub hu hr
  · refine ⟨t7.1, ?_⟩
    intro p on of hp ho hf s hs d hd hb
    have h1 : ρ on = 34 := by
      obtain ⟨r, e1, e2⟩ := t3 p 0 (by rw [hp]; decide)
      have : r = on := by
        have e3 : hR h p 0 = some on := ho
        rw [e1] at e3; exact Option.some.inj e3
      rw [← this, e2, hp]; rfl
    rw [r_I, if_neg (ne_r h1 e (by decide))]
    exact t7.2 p on of hp ho hf s hs d hd hb
theorem th_wT (T : TH ρ c h) {t : Nat} {v : Int32} (e : ρ t = 10) (hv : Rg 0 1200 v) (hl : ∀ tb, hR h t 0 = some tb → v.toInt ≤ (hN h tb : Int)) (hw : cPm c 10 (cw c t) 1 = true) : TH ρ c (wI h t 1 v) := ⟨th_wT0 T.1 e hv hl, T.2.1, fr_wI T.2.2 e hw⟩
theorem zX9_byteAt {F : Nat} (hF : 700000 ≤ F) {x0 : Nat} {x1 : Int32} (T : TH ρ c h) (r0 : ρ x0 = 10) (i1 : Rg (-2147483648) 2147483647 x1) : Sat (sX9_byteAt h x0 x1) (ZP0 h (-1) 255 (-1) (Rg 0 1199 x1)) := by
  unfold sX9_byteAt sX9_byteAt_21 sX9_byteAt_22
  refine s_br (fun c1 => s_some ⟨rfl, rg_b rfl, fun q => absurd rfl q⟩) (fun c1 => ?_)
  refine s_br (fun c2 => s_some ⟨rfl, rg_b rfl, fun q => absurd rfl q⟩) (fun c2 => ?_)
  obtain ⟨r, er, qr⟩ := thR T r0 (i := 0) (k2 := 49) rfl (by decide)
  refine s_ref er ?_
  have tx := th_tx T r0 er
  have lt := nle_lt c2
  rw [Int32.lt_iff_toInt_lt] at lt c1
  have z : (0 : Int32).toInt = 0 := rfl
  rw [z] at c1
  refine s_gd (rg_inB (a := 0) (b := x1.toInt) ⟨by omega, Int.le_refl _⟩ ⟨Int.le_refl 0, by omega⟩) (s_some ⟨rfl, ?_, fun _ => ⟨by omega, by omega⟩⟩)
  exact rg_m (thI T qr (k := 49) rfl) (by decide)
theorem zX9_clear {F : Nat} (hF : 700000 ≤ F) {x0 : Nat} (hO : pmO c (cw c x0) [(10, 1)]) (T : TH ρ c h) (r0 : ρ x0 = 10) : Sat (sX9_clear h x0) (ZV ρ c) := by
  unfold sX9_clear
  refine s_h (th_wT T r0 (rg_b rfl) (fun tb _ => ?_) (pm_o hO rfl rfl)) (fun h1 T1 => s_some T1)
  rw [show (0 : Int32).toInt = 0 from rfl]
  omega
theorem zX9_append {F : Nat} (hF : 700000 ≤ F) {x0 : Nat} {x1 : Int32} (hO : pmO c (cw c x0) [(49, 999), (10, 1)]) (T : TH ρ c h) (r0 : ρ x0 = 10) (i1 : Rg (-2147483648) 2147483647 x1) : Sat (sX9_append h x0 x1) (ZV ρ c) := by
  unfold sX9_append sX9_append_36
  obtain ⟨r, er, qr⟩ := thR T r0 (i := 0) (k2 := 49) rfl (by decide)
  refine s_ref er ?_
  refine s_br (fun c1 => s_some T) (fun c1 => ?_)
  refine s_ref er ?_
  have tx := th_tx T r0 er
  have lt := nle_lt c1
  rw [Int32.lt_iff_toInt_lt, z_toInt (show hN h r < 2 ^ 31 by omega)] at lt
  have i1 : Rg 0 1200 (hI h x0 1) := thI T r0 (k := 10) rfl
  refine s_gd (rg_inB (a := 0) (b := (hI h x0 1).toInt) ⟨i1.1, Int.le_refl _⟩ ⟨Int.le_refl 0, lt⟩) ?_
  refine s_hq (th_wI T qr (k := 49) (lo := 0) (hi := 255) rfl (rg_and (c := 255) (d := 255) (rg_b rfl) (by decide)) (by decide) (by decide) (pm_o hO (th_ih T r0 rfl er rfl) rfl)) (fun h5 T5 e5 => ?_)
  have v5 : hI h5 x0 1 = hI h x0 1 := by rw [e5, r_I, if_neg (ne_r r0 qr (by decide))]
  have n5 : ∀ b, hN h5 b = hN h b := fun b => by rw [e5]; rfl
  have w : (hI h5 x0 1 + (1 : Int32)).toInt = (hI h x0 1).toInt + 1 := by rw [v5]; exact rg_inc i1 (by decide)
  have i0 := i1.1
  refine s_h (th_wT T5 r0 ⟨by omega, by omega⟩ (fun tb hb => ?_) (pm_o hO rfl rfl)) (fun h6 T6 => s_some T6)
  rw [hr_w e5 er] at hb
  rw [← Option.some.inj hb, n5, w]
  omega
theorem zX11_end {F : Nat} (hF : 700000 ≤ F) {x0 : Nat} {x1 : Int32} (hO : pmO c 2100 [(10, 1)]) (T : TH ρ c h) (r0 : ρ x0 = 12) (i1 : Rg (-2147483648) 2147483647 x1) : Sat (sX11_end h x0 x1) (ZI ρ c (-101) 1200) := by
  unfold sX11_end sX11_end_15
  refine s_br (fun c1 => s_some ⟨T, rg_b rfl⟩) (fun c1 => ?_)
  obtain ⟨r, er, qr⟩ := thR T r0 (i := 0) (k2 := 10) rfl (by decide)
  refine s_ref er ?_
  refine s_br (fun c2 => ?_) (fun c2 => s_some ⟨T, rg_b rfl⟩)
  refine s_ref er ?_
  have i2 : Rg 0 1200 (hI h r 1) := thI T qr (k := 10) rfl
  rw [Int32.le_iff_toInt_le] at c2
  rw [Int32.lt_iff_toInt_lt, show (0 : Int32).toInt = 0 from rfl] at c1
  have b2 := i2.2
  refine s_h (th_wT T qr ⟨by omega, by omega⟩ (fun tb hb => ?_) (pm_o hO (th_id T r0 (k := 12) (i := 0) er rfl (by decide)) rfl)) (fun h1 T1 => s_some ⟨T1, ⟨?_, ?_⟩⟩)
  · have := (th_tx T qr hb).1
    omega
  · show -101 ≤ x1.toInt
    omega
  · show x1.toInt ≤ 1200
    omega
end
