section
theorem rg_al {h : Hp} {v r i : Nat} {lo hi : Int} (e : v = r) (f : Rg lo hi (hI h r i)) : Rg lo hi (hI h v i) := e ▸ f
theorem hr_e {h2 h : Hp} {a i r : Nat} (e : h2 = h) (f : hR h a i = some r) : hR h2 a i = some r := e ▸ f
theorem hr_w {h2 h : Hp} {a i r b j : Nat} {v : Int32} (e : h2 = wI h b j v) (f : hR h a i = some r) : hR h2 a i = some r := by
  rw [e]; exact f
theorem hr_j {h2 h : Hp} {a i r b j : Nat} {v : Int64} (e : h2 = wJ h b j v) (f : hR h a i = some r) : hR h2 a i = some r := by
  rw [e]; exact f
section
variable {ρ : Nat → Nat} {c : Cm} {h : Hp}
theorem fillI5 {F k n : Nat} {lo hi : Int} {x0 : Nat} {x1 : Int32} (e : ρ x0 = k) (hk : ∀ i, rgI k i = (lo, hi)) (hn : rln k = n) (n0 : n ≠ 0) (nb : n < 2 ^ 31) (hv : Rg lo hi x1) (n1 : k ≠ 10) (n2 : k ≠ 34) (hw : ∀ i, cPm c k (cw c x0) i = true) (hsp : spc k = false) : ∀ (f : Nat) {h : Hp} {x2 : Int32}, TH ρ c h → Rg 0 n x2 → ((n : Int) - x2.toInt).toNat < f → Sat (sJ7_fill_53178_5 F f h x0 x1 x2 (nI n)) (ZV ρ c) := by
  intro f
  induction f with
  | zero => intros; omega
  | succ f ih =>
    intro h x2 T i2 hm
    rw [sJ7_fill_53178_5]
    refine s_br (fun c1 => ?_) (fun c1 => ?_)
    · exact s_some T
    · have i2' : Rg 0 (n - 1) x2 := rg_lt1 (nle_lt c1) i2 (rg_nIn rfl nb)
      refine s_gd (by rw [thN T e hn n0]; exact rg_inB i2' ⟨Int.le_refl 0, by omega⟩) ?_
      refine s_h (th_wI T e (hk _) hv n1 n2 (hw _) (rp0 hsp)) (fun h3 T3 => ?_)
      refine s_q (fun v ev => ?_)
      have m : v.toInt = x2.toInt + 1 := by rw [ev]; exact rg_inc i2' (by omega)
      have b1 := i2'.1
      have b2 := i2'.2
      exact ih T3 ⟨by omega, by omega⟩ (by omega)
theorem zJ7_fill_53178 {F : Nat} (hF : 700000 ≤ F) {k n : Nat} {lo hi : Int} {x0 : Nat} {x1 : Int32} (T : TH ρ c h) (e : ρ x0 = k) (hv : Rg lo hi x1) (hk : ∀ i, rgI k i = (lo, hi)) (hn : rln k = n) (n0 : n ≠ 0) (nb : n < 690000) (n1 : k ≠ 10) (n2 : k ≠ 34) (hw : ∀ i, cPm c k (cw c x0) i = true) (hsp : spc k = false := by rfl) : Sat (sJ7_fill_53178 F h x0 x1) (ZV ρ c) := by
  unfold sJ7_fill_53178
  refine s_nm ?_
  rw [thN T e hn n0]
  have z : (0 : Int32).toInt = 0 := rfl
  exact fillI5 e hk hn n0 (by omega) hv n1 n2 hw hsp F T ⟨by rw [z]; omega, by rw [z]; omega⟩ (by rw [z]; omega)
theorem fillB5 {F k n : Nat} {lo hi : Int} {x0 : Nat} {x1 : Int32} (e : ρ x0 = k) (hk : ∀ i, rgI k i = (lo, hi)) (hn : rln k = n) (n0 : n ≠ 0) (nb : n < 2 ^ 31) (hv : Rg lo hi (vp_nar .byte x1)) (n1 : k ≠ 10) (n2 : k ≠ 34) (hw : ∀ i, cPm c k (cw c x0) i = true) (hsp : spc k = false) : ∀ (f : Nat) {h : Hp} {x2 : Int32}, TH ρ c h → Rg 0 n x2 → ((n : Int) - x2.toInt).toNat < f → Sat (sJ7_fill_031fb_5 F f h x0 x1 x2 (nI n)) (ZV ρ c) := by
  intro f
  induction f with
  | zero => intros; omega
  | succ f ih =>
    intro h x2 T i2 hm
    rw [sJ7_fill_031fb_5]
    refine s_br (fun c1 => ?_) (fun c1 => ?_)
    · exact s_some T
    · have i2' : Rg 0 (n - 1) x2 := rg_lt1 (nle_lt c1) i2 (rg_nIn rfl nb)
      refine s_gd (by rw [thN T e hn n0]; exact rg_inB i2' ⟨Int.le_refl 0, by omega⟩) ?_
      refine s_h (th_wI T e (hk _) hv n1 n2 (hw _) (rp0 hsp)) (fun h3 T3 => ?_)
      refine s_q (fun v ev => ?_)
      have m : v.toInt = x2.toInt + 1 := by rw [ev]; exact rg_inc i2' (by omega)
      have b1 := i2'.1
      have b2 := i2'.2
      exact ih T3 ⟨by omega, by omega⟩ (by omega)
theorem fillJ5 {F k n : Nat} {x0 : Nat} {x1 : Int64} (e : ρ x0 = k) (hn : rln k = n) (n0 : n ≠ 0) (nb : n < 2 ^ 31) (n2 : k ≠ 35) (hw : ∀ i, cPm c k (cw c x0) i = true) : ∀ (f : Nat) {h : Hp} {x3 : Int32}, TH ρ c h → Rg 0 n x3 → ((n : Int) - x3.toInt).toNat < f → Sat (sJ7_fill_d0a16_6 F f h x0 x1 x3 (nI n)) (ZV ρ c) := by
  intro f
  induction f with
  | zero => intros; omega
  | succ f ih =>
    intro h x3 T i2 hm
    rw [sJ7_fill_d0a16_6]
    refine s_br (fun c1 => ?_) (fun c1 => ?_)
    · exact s_some T
    · have i2' : Rg 0 (n - 1) x3 := rg_lt1 (nle_lt c1) i2 (rg_nIn rfl nb)
      refine s_gd (by rw [thN T e hn n0]; exact rg_inB i2' ⟨Int.le_refl 0, by omega⟩) ?_
      refine s_h (th_wJ T e n2 (hw _)) (fun h3 T3 => ?_)
      refine s_q (fun v ev => ?_)
      have m : v.toInt = x3.toInt + 1 := by rw [ev]; exact rg_inc i2' (by omega)
      have b1 := i2'.1
      have b2 := i2'.2
      exact ih T3 ⟨by omega, by omega⟩ (by omega)
theorem zJ7_fill_d0a16 {F : Nat} (hF : 700000 ≤ F) {k n : Nat} {x0 : Nat} {x1 : Int64} (T : TH ρ c h) (e : ρ x0 = k) (hn : rln k = n) (n0 : n ≠ 0) (nb : n < 690000) (n2 : k ≠ 35) (hw : ∀ i, cPm c k (cw c x0) i = true) : Sat (sJ7_fill_d0a16 F h x0 x1) (ZV ρ c) := by
  unfold sJ7_fill_d0a16
  refine s_nm ?_
  rw [thN T e hn n0]
  have z : (0 : Int32).toInt = 0 := rfl
  exact fillJ5 e hn n0 (by omega) n2 hw F T ⟨by rw [z]; omega, by rw [z]; omega⟩ (by rw [z]; omega)
-- texts
theorem th_tx (T : TH ρ c h) {t tb : Nat} (e : ρ t = 10) (er : hR h t 0 = some tb) : (hI h t 1).toInt ≤ (hN h tb : Int) ∧ hN h tb ≤ 1200 := by
  obtain ⟨t1, t2, t3, t4, t5, t6, t7, t8, t9⟩ := T.1
  exact t6 t tb e er
theorem th_wT0 (T : TH0 ρ c h) {t : Nat} {v : Int32} (e : ρ t = 10) (hv : Rg 0 1200 v) (hl : ∀ tb, hR h t 0 = some tb → v.toInt ≤ (hN h tb : Int)) : TH0 ρ c (wI h t 1 v) := by
  obtain ⟨t1, t2, t3, t4, t5, t6, t7, t8, t9⟩ := T
  refine ⟨t1, ?_, t3, t4, t5, ?_, ?_, t8, t9⟩
  · intro b j
    rw [r_I]
    by_cases q : b = t ∧ j = 1
    · rw [if_pos q, q.1, q.2, e]; exact ⟨hv, rp0 rfl⟩
    · rw [if_neg q]; exact t2 b j
  · intro u ub hu hr
    rw [r_I]
    by_cases q : u = t
    · rw [if_pos ⟨q, rfl⟩]
      subst q
      exact ⟨hl ub hr, (t6 u ub hu hr).2⟩
    · rw [if_neg (fun w => q w.1)]
      exact t6 u ub hu hr
  · refine ⟨t7.1, ?_⟩
    intro p on of hp ho hf s hs d hd hb
    have h1 : ρ on = 34 := by
      obtain ⟨r, e1, e2⟩ := t3 p 0 (by rw [hp]; decide)
      have : r = on := by
        have e3 : hR h p 0 = some on := ho
        rw [e1] at e3; exact Option.some.inj e3
      rw [← this, e2, hp]; rfl
    rw [r_I, if_neg (ne_r h1 e (by decide))]
    exact t7.2 p on of hp ho hf s hs d hd hb
theorem th_wT (T : TH ρ c h) {t : Nat} {v : Int32} (e : ρ t = 10) (hv : Rg 0 1200 v) (hl : ∀ tb, hR h t 0 = some tb → v.toInt ≤ (hN h tb : Int)) (hw : cPm c 10 (cw c t) 1 = true) : TH ρ c (wI h t 1 v) := ⟨th_wT0 T.1 e hv hl, T.2.1, fr_wI T.2.2 e hw⟩
theorem zX9_byteAt {F : Nat} (hF : 700000 ≤ F) {x0 : Nat} {x1 : Int32} (T : TH ρ c h) (r0 : ρ x0 = 10) (i1 : Rg (-2147483648) 2147483647 x1) : Sat (sX9_byteAt h x0 x1) (ZP0 h (-1) 255 (-1) (Rg 0 1199 x1)) := by
  unfold sX9_byteAt sX9_byteAt_21 sX9_byteAt_22
  refine s_br (fun c1 => s_some ⟨rfl, rg_b rfl, fun q => absurd rfl q⟩) (fun c1 => ?_)
  refine s_br (fun c2 => s_some ⟨rfl, rg_b rfl, fun q => absurd rfl q⟩) (fun c2 => ?_)
  obtain ⟨r, er, qr⟩ := thR T r0 (i := 0) (k2 := 49) rfl (by decide)
  refine s_ref er ?_
  have tx := th_tx T r0 er
  have lt := nle_lt c2
  rw [Int32.lt_iff_toInt_lt] at lt c1
  have z : (0 : Int32).toInt = 0 := rfl
  rw [z] at c1
  refine s_gd (rg_inB (a := 0) (b := x1.toInt) ⟨by omega, Int.le_refl _⟩ ⟨Int.le_refl 0, by omega⟩) (s_some ⟨rfl, ?_, fun _ => ⟨by omega, by omega⟩⟩)
  exact rg_m (thI T qr (k := 49) rfl) (by decide)
theorem zX9_clear {F : Nat} (hF : 700000 ≤ F) {x0 : Nat} (hO : pmO c (cw c x0) [(10, 1)]) (T : TH ρ c h) (r0 : ρ x0 = 10) : Sat (sX9_clear h x0) (ZV ρ c) := by
  unfold sX9_clear
  refine s_h (th_wT T r0 (rg_b rfl) (fun tb _ => ?_) (pm_o hO rfl rfl)) (fun h1 T1 => s_some T1)
  rw [show (0 : Int32).toInt = 0 from rfl]
  omega
theorem zX9_append {F : Nat} (hF : 700000 ≤ F) {x0 : Nat} {x1 : Int32} (hO : pmO c (cw c x0) [(49, 999), (10, 1)]) (T : TH ρ c h) (r0 : ρ x0 = 10) (i1 : Rg (-2147483648) 2147483647 x1) : Sat (sX9_append h x0 x1) (ZV ρ c) := by
  unfold sX9_append sX9_append_36
  obtain ⟨r, er, qr⟩ := thR T r0 (i := 0) (k2 := 49) rfl (by decide)
  refine s_ref er ?_
  refine s_br (fun c1 => s_some T) (fun c1 => ?_)
  refine s_ref er ?_
  have tx := th_tx T r0 er
  have lt := nle_lt c1
  rw [Int32.lt_iff_toInt_lt, z_toInt (show hN h r < 2 ^ 31 by omega)] at lt
  have i1 : Rg 0 1200 (hI h x0 1) := thI T r0 (k := 10) rfl
  refine s_gd (rg_inB (a := 0) (b := (hI h x0 1).toInt) ⟨i1.1, Int.le_refl _⟩ ⟨Int.le_refl 0, lt⟩) ?_
  refine s_hq (th_wI T qr (k := 49) (lo := 0) (hi := 255) rfl (rg_and (c := 255) (d := 255) (rg_b rfl) (by decide)) (by decide) (by decide) (pm_o hO (th_ih T r0 rfl er rfl) rfl)) (fun h5 T5 e5 => ?_)
  have v5 : hI h5 x0 1 = hI h x0 1 := by rw [e5, r_I, if_neg (ne_r r0 qr (by decide))]
  have n5 : ∀ b, hN h5 b = hN h b := fun b => by rw [e5]; rfl
  have w : (hI h5 x0 1 + (1 : Int32)).toInt = (hI h x0 1).toInt + 1 := by rw [v5]; exact rg_inc i1 (by decide)
  have i0 := i1.1
  refine s_h (th_wT T5 r0 ⟨by omega, by omega⟩ (fun tb hb => ?_) (pm_o hO rfl rfl)) (fun h6 T6 => s_some T6)
  rw [hr_w e5 er] at hb
  rw [← Option.some.inj hb, n5, w]
  omega
theorem zX11_end {F : Nat} (hF : 700000 ≤ F) {x0 : Nat} {x1 : Int32} (hO : pmO c 2100 [(10, 1)]) (T : TH ρ c h) (r0 : ρ x0 = 12) (i1 : Rg (-2147483648) 2147483647 x1) : Sat (sX11_end h x0 x1) (ZI ρ c (-101) 1200) := by
  unfold sX11_end sX11_end_15
  refine s_br (fun c1 => s_some ⟨T, rg_b rfl⟩) (fun c1 => ?_)
  obtain ⟨r, er, qr⟩ := thR T r0 (i := 0) (k2 := 10) rfl (by decide)
  refine s_ref er ?_
  refine s_br (fun c2 => ?_) (fun c2 => s_some ⟨T, rg_b rfl⟩)
  refine s_ref er ?_
  have i2 : Rg 0 1200 (hI h r 1) := thI T qr (k := 10) rfl
  rw [Int32.le_iff_toInt_le] at c2
  rw [Int32.lt_iff_toInt_lt, show (0 : Int32).toInt = 0 from rfl] at c1
  have b2 := i2.2
  refine s_h (th_wT T qr ⟨by omega, by omega⟩ (fun tb hb => ?_) (pm_o hO (th_id T r0 (k := 12) (i := 0) er rfl (by decide)) rfl)) (fun h1 T1 => s_some ⟨T1, ⟨?_, ?_⟩⟩)
  · have := (th_tx T qr hb).1
    omega
  · show -101 ≤ x1.toInt
    omega
  · show x1.toInt ≤ 1200
    omega
end
end
section
theorem bj_or (a b : Int64) (s : Nat) : bitJ (a ||| b) s = (bitJ a s || bitJ b s) := by
  unfold bitJ
  rw [Int64.toBitVec_or, BitVec.getLsbD_or]
theorem bj_and (a b : Int64) (s : Nat) : bitJ (a &&& b) s = (bitJ a s && bitJ b s) := by
  unfold bitJ
  rw [Int64.toBitVec_and, BitVec.getLsbD_and]
theorem bj_not (a : Int64) {s : Nat} (hs : s < 64) : bitJ (a ^^^ (-1 : Int64)) s = !bitJ a s := by
  unfold bitJ
  rw [Int64.toBitVec_xor, BitVec.getLsbD_xor, show (-1 : Int64).toBitVec = BitVec.allOnes 64 from by decide, BitVec.getLsbD_allOnes]
  simp [hs]
theorem bj_one {x : Int32} (i : Rg 0 63 x) (s : Nat) : bitJ ((1 : Int64) <<< (x.toInt64 &&& 63)) s = decide (x.toNatClampNeg = s) := by
  obtain ⟨j, ej, tj, hj⟩ := rg_nI i (Int.le_refl 0)
  have j64 : j < 64 := by have := i.2; omega
  have all : ∀ j : Fin 64, ((1 : Int64) <<< ((nI j.val).toInt64 &&& 63)).toBitVec = BitVec.twoPow 64 j.val := by decide +kernel
  unfold bitJ
  rw [ej, all ⟨j, j64⟩, BitVec.getLsbD_twoPow, z_clamp hj]
  simp [j64]
theorem and1 {x : Int32} (i : Rg 0 23 x) : (x &&& (1 : Int32)).toNatClampNeg = (x.toInt % 2).toNat ∧ (x &&& (1 : Int32)).toNatClampNeg < 2 ∧ (((x &&& (1 : Int32)).toNatClampNeg : Nat) : Int) = x.toInt % 2 := by
  obtain ⟨j, ej, tj, hj⟩ := rg_nI i (Int.le_refl 0)
  have j24 : j < 24 := by have := i.2; omega
  have all : ∀ j : Fin 24, (nI j.val &&& (1 : Int32)) = nI (j.val % 2) := by decide +kernel
  rw [tj, ej, all ⟨j, j24⟩, z_clamp (by show j % 2 < 2 ^ 31; omega)]
  show j % 2 = ((j : Int) % 2).toNat ∧ j % 2 < 2 ∧ ((j % 2 : Nat) : Int) = (j : Int) % 2
  omega
section
variable {ρ : Nat → Nat} {c : Cm} {h : Hp}
theorem th_wOf0 (T : TH0 ρ c h) {p of d : Nat} {v : Int64} (hp : ρ p = 4) (hf : hR h p 1 = some of) (hb : ∀ s, s < 64 → bitJ v s = true → ∀ on, hR h p 0 = some on → 0 ≤ (hI h on s).toInt ∧ (hI h on s).toInt % 2 = (d : Int) ∧ SqN (c.2.1 50) s) : TH0 ρ c (wJ h of d v) := by
  obtain ⟨t1, t2, t3, t4, t5, t6, t7, t8, t9⟩ := T
  refine ⟨t1, t2, t3, t4, t5, t6, ⟨t7.1, ?_⟩, t8, t9⟩
  intro q on of' hq ho hf' s hs d' hd hx
  rw [r_J] at hx
  by_cases w : of' = of ∧ d' = d
  · rw [if_pos w] at hx
    have hf2 : hR h q 1 = some of := by rw [← w.1]; exact hf'
    have : q = p := t7.1 q p 1 of (by decide) hq hp hf2 hf
    subst this
    rw [w.2]
    exact hb s hs hx on ho
  · rw [if_neg w] at hx
    exact t7.2 q on of' hq ho hf' s hs d' hd hx
theorem th_wOn0 (T : TH0 ρ c h) {p on s : Nat} {v : Int32} (hp : ρ p = 4) (ho : hR h p 0 = some on) (hv : Rg (-2) 23 v) (hb : ∀ of, hR h p 1 = some of → ∀ d, d < 2 → bitJ (hJ h of d) s = true → 0 ≤ v.toInt ∧ v.toInt % 2 = (d : Int) ∧ SqN (c.2.1 50) s) : TH0 ρ c (wI h on s v) := by
  obtain ⟨t1, t2, t3, t4, t5, t6, t7, t8, t9⟩ := T
  have h1 : ρ on = 34 := by
    obtain ⟨r, e1, e2⟩ := t3 p 0 (by rw [hp]; decide)
    rw [e1] at ho
    rw [← Option.some.inj ho, e2, hp]; rfl
  refine ⟨t1, ?_, t3, t4, t5, ?_, ⟨t7.1, ?_⟩, t8, t9⟩
  · intro b j
    rw [r_I]
    by_cases q : b = on ∧ j = s
    · rw [if_pos q, q.1, h1]; exact ⟨hv, rp0 rfl⟩
    · rw [if_neg q]; exact t2 b j
  · intro t tb ht hr
    rw [r_I, if_neg (ne_r ht h1 (by decide))]
    exact t6 t tb ht hr
  · intro q on' of hq ho' hf s' hs d hd hx
    rw [r_I]
    by_cases w : on' = on ∧ s' = s
    · rw [if_pos w]
      have ho2 : hR h q 0 = some on := by rw [← w.1]; exact ho'
      have : q = p := t7.1 q p 0 on (by decide) hq hp ho2 ho
      subst this
      rw [w.2] at hx ⊢
      exact hb of hf d hd hx
    · rw [if_neg w]
      exact t7.2 q on' of hq ho' hf s' hs d hd hx
theorem th_of (T : TH ρ c h) {p of : Nat} (hp : ρ p = 4) (hf : hR h p 1 = some of) : ρ of = 35 := by
  obtain ⟨r, e1, e2⟩ := thR T hp (i := 1) (k2 := 35) rfl (by decide)
  rw [e1] at hf
  rw [← Option.some.inj hf, e2]
theorem th_on (T : TH ρ c h) {p of : Nat} (hp : ρ p = 4) (hf : hR h p 0 = some of) : ρ of = 34 := by
  obtain ⟨r, e1, e2⟩ := thR T hp (i := 0) (k2 := 34) rfl (by decide)
  rw [e1] at hf
  rw [← Option.some.inj hf, e2]
theorem th_wOf (T : TH ρ c h) {p of d : Nat} {v : Int64} (hp : ρ p = 4) (hf : hR h p 1 = some of) (hb : ∀ s, s < 64 → bitJ v s = true → ∀ on, hR h p 0 = some on → 0 ≤ (hI h on s).toInt ∧ (hI h on s).toInt % 2 = (d : Int) ∧ SqN (c.2.1 50) s) (hw : cPm c 35 (cw c p) d = true) : TH ρ c (wJ h of d v) := ⟨th_wOf0 T.1 hp hf hb, T.2.1, fr_wJ T.2.2 (th_of T hp hf) (by rw [th_ih T hp rfl hf rfl]; exact hw)⟩
theorem th_wOn (T : TH ρ c h) {p on s : Nat} {v : Int32} (hp : ρ p = 4) (ho : hR h p 0 = some on) (hv : Rg (-2) 23 v) (hb : ∀ of, hR h p 1 = some of → ∀ d, d < 2 → bitJ (hJ h of d) s = true → 0 ≤ v.toInt ∧ v.toInt % 2 = (d : Int) ∧ SqN (c.2.1 50) s) (hw : cPm c 34 (cw c p) s = true) : TH ρ c (wI h on s v) := ⟨th_wOn0 T.1 hp ho hv hb, T.2.1, fr_wI T.2.2 (th_on T hp ho) (by rw [th_ih T hp rfl ho rfl]; exact hw)⟩
theorem th_ps (T : TH ρ c h) {p on of s d : Nat} (hp : ρ p = 4) (ho : hR h p 0 = some on) (hf : hR h p 1 = some of) (hs : s < 64) (hd : d < 2) (hb : bitJ (hJ h of d) s = true) : 0 ≤ (hI h on s).toInt ∧ (hI h on s).toInt % 2 = (d : Int) ∧ SqN (c.2.1 50) s := by
  obtain ⟨t1, t2, t3, t4, t5, t6, t7, t8, t9⟩ := T.1
  exact t7.2 p on of hp ho hf s hs d hd hb
theorem put70 {x0 on of ro : Nat} {x1 x2 x3 : Int32} (hO : pmO c (cw c x0) [(34, 999), (35, 999), (36, 999), (4, 7)]) (T : TH ρ c h) (r0 : ρ x0 = 4) (ho : hR h x0 0 = some on) (qo : ρ on = 34) (hf : hR h x0 1 = some of) (qf : ρ of = 35) (hr : hR h x0 2 = some ro) (qr : ρ ro = 36) (i1 : Rg 0 63 x1) (i2 : Rg (-2) 23 x2) (sq : 0 ≤ x2.toInt → SqB (c.2.1 50) x1) (nb : ∀ d, d < 2 → bitJ (hJ h of d) x1.toNatClampNeg = false) : Sat (sX3_put_70 h x0 x1 x2 x3 ((1 : Int64) <<< (x1.toInt64 &&& 63))) (ZV ρ c) := by
  unfold sX3_put_70 sX3_put_111
  have x64 : x1.toNatClampNeg < 64 := by have := rg_clamp (n := 63) i1 (by decide); omega
  refine s_ref ho ?_
  refine s_gd (by rw [thN T qo (k := 34) (n := 64) rfl (by decide)]; exact rg_inB i1 (by decide)) ?_
  have ev : (vp_nar .byte x2.toInt8.toInt32) = x2 := by
    have h1 : (vp_nar .byte x2.toInt8.toInt32).toInt = x2.toInt := by
      show x2.toInt8.toInt32.toInt8.toInt32.toInt = x2.toInt
      have a1 := i2.1
      have a2 := i2.2
      have e8 : (2 ^ 8 : Nat) = 256 := by decide
      have b1 : x2.toInt8.toInt32.toInt = x2.toInt := by
        rw [Int8.toInt_toInt32, Int32.toInt_toInt8, e8]
        exact Int.bmod_eq_of_le_mul_two (by omega) (by omega)
      rw [Int8.toInt_toInt32, Int32.toInt_toInt8, b1, e8]
      exact Int.bmod_eq_of_le_mul_two (by omega) (by omega)
    exact Int32.toInt_inj.mp h1
  rw [ev]
  refine s_hq (th_wOn T r0 ho i2 (fun of' hf' d hd hb => ?_) (hO _ _ rfl)) (fun h3 T3 e3 => ?_)
  · have : of' = of := by rw [hf] at hf'; exact (Option.some.inj hf').symm
    rw [this, nb d hd] at hb
    exact absurd hb (by decide)
  refine s_br (fun c1 => ?_) (fun c1 => ?_)
  · exact s_h (th_wJ T3 r0 (by decide) (pm_o hO rfl rfl)) (fun h1 T1 => s_some T1)
  · have i2' : Rg 0 23 x2 := by
      rw [Int32.lt_iff_toInt_lt, show (0 : Int32).toInt = 0 from rfl] at c1
      exact ⟨by omega, i2.2⟩
    obtain ⟨a1, a2, a3⟩ := and1 i2'
    have ia : Rg 0 1 (x2 &&& (1 : Int32)) := rg_and (c := 1) (d := 1) (rg_b rfl) (by decide)
    have hf3 := hr_w e3 hf
    refine s_ref hf3 ?_
    have gb : inB (x2 &&& (1 : Int32)) (hN h3 of) := by rw [thN T3 qf (k := 35) (n := 2) rfl (by decide)]; exact rg_inB ia (by decide)
    refine s_gd gb (s_gd gb ?_)
    refine s_hq (th_wOf T3 r0 hf3 (fun s hs hb on' ho' => ?_) (hO _ _ rfl)) (fun h8 T8 e8 => ?_)
    · have : on' = on := by rw [hr_w e3 ho] at ho'; exact (Option.some.inj ho').symm
      subst this
      rw [bj_or] at hb
      by_cases w : x1.toNatClampNeg = s
      · subst w
        rw [e3, r_I, if_pos ⟨rfl, rfl⟩]
        exact ⟨i2'.1, a3.symm, sq_b (sq i2'.1) i1.1⟩
      · rw [bj_one i1, decide_eq_false w, Bool.or_false] at hb
        exact th_ps T3 r0 (hr_w e3 ho) hf3 hs a2 hb
    · refine s_br (fun c2 => ?_) (fun c2 => ?_)
      · refine s_ref (hr_j e8 (hr_w e3 hr)) ?_
        refine s_gd (by rw [thN T8 qr (k := 36) (n := 2) rfl (by decide)]; exact rg_inB ia (by decide)) ?_
        refine s_h (th_wI T8 qr (k := 36) (lo := -1) (hi := 63) rfl (rg_m i1 (by decide)) (by decide) (by decide) (pm_o hO (th_ih T r0 rfl hr rfl) rfl)) (fun h12 T12 => ?_)
        exact s_h (th_wJ T12 r0 (by decide) (pm_o hO rfl rfl)) (fun h1 T1 => s_some T1)
      · exact s_h (th_wJ T8 r0 (by decide) (pm_o hO rfl rfl)) (fun h1 T1 => s_some T1)
theorem zX3_put {F : Nat} (hF : 700000 ≤ F) {x0 : Nat} {x1 x2 x3 : Int32} (hO : pmO c (cw c x0) [(34, 999), (35, 999), (36, 999), (4, 7)]) (T : TH ρ c h) (r0 : ρ x0 = 4) (i1 : Rg (-2147483648) 2147483647 x1) (i2 : Rg (-2) 23 x2) (i3 : Rg (-2147483648) 2147483647 x3) (sq : 0 ≤ x2.toInt → SqB (c.2.1 50) x1) : Sat (sX3_put h x0 x1 x2 x3) (ZV ρ c) := by
  unfold sX3_put sX3_put_10
  refine s_br (fun c1 => s_some T) (fun c1 => ?_)
  refine s_br (fun c2 => ?_) (fun c2 => s_some T)
  have ix : Rg 0 63 x1 := by
    rw [Int32.lt_iff_toInt_lt, show (0 : Int32).toInt = 0 from rfl] at c1
    rw [Int32.lt_iff_toInt_lt, show (64 : Int32).toInt = 64 from rfl] at c2
    exact ⟨by omega, by omega⟩
  have x64 : x1.toNatClampNeg < 64 := by have := rg_clamp (n := 63) ix (by decide); omega
  obtain ⟨on, ho, qo⟩ := thR T r0 (i := 0) (k2 := 34) rfl (by decide)
  obtain ⟨of, hf, qf⟩ := thR T r0 (i := 1) (k2 := 35) rfl (by decide)
  obtain ⟨ro, hr, qr⟩ := thR T r0 (i := 2) (k2 := 36) rfl (by decide)
  refine s_nm ?_
  refine s_ref ho ?_
  refine s_gd (by rw [thN T qo (k := 34) (n := 64) rfl (by decide)]; exact rg_inB ix (by decide)) ?_
  refine s_q (fun v6 e6 => ?_)
  have i6 : Rg (-2) 23 v6 := by rw [e6]; exact thI T qo (k := 34) rfl
  refine s_br (fun c3 => ?_) (fun c3 => ?_)
  · refine put70 hO T r0 ho qo hf qf hr qr ix i2 sq (fun d hd => ?_)
    cases q : bitJ (hJ h of d) x1.toNatClampNeg with
    | false => rfl
    | true =>
      have := (th_ps T r0 ho hf x64 hd q).1
      rw [← e6] at this
      rw [Int32.lt_iff_toInt_lt, show (0 : Int32).toInt = 0 from rfl] at c3
      omega
  · have i6' : Rg 0 23 v6 := by
      rw [Int32.lt_iff_toInt_lt, show (0 : Int32).toInt = 0 from rfl] at c3
      exact ⟨by omega, i6.2⟩
    obtain ⟨a1, a2, a3⟩ := and1 i6'
    have ia : Rg 0 1 (v6 &&& (1 : Int32)) := rg_and (c := 1) (d := 1) (rg_b rfl) (by decide)
    refine s_ref hf ?_
    have gb : inB (v6 &&& (1 : Int32)) (hN h of) := by rw [thN T qf (k := 35) (n := 2) rfl (by decide)]; exact rg_inB ia (by decide)
    refine s_gd gb (s_gd gb ?_)
    refine s_hq (th_wOf T r0 hf (fun s hs hb on' ho' => ?_) (hO _ _ rfl)) (fun h11 T11 e11 => ?_)
    · rw [bj_and, Bool.and_eq_true] at hb
      exact th_ps T r0 ho' hf hs a2 hb.1
    · have nb : ∀ d, d < 2 → bitJ (hJ h11 of d) x1.toNatClampNeg = false := fun d hd => by
        rw [e11, r_J]
        by_cases w : d = (v6 &&& (1 : Int32)).toNatClampNeg
        · rw [if_pos ⟨rfl, w⟩, bj_and, bj_not _ x64, bj_one ix]
          simp
        · rw [if_neg (fun q => w q.2)]
          cases q : bitJ (hJ h of d) x1.toNatClampNeg with
          | false => rfl
          | true =>
            have := (th_ps T r0 ho hf x64 hd q).2.1
            rw [← e6] at this
            omega
      have ho1 := hr_j e11 ho
      have hf1 := hr_j e11 hf
      have hr1 := hr_j e11 hr
      refine s_ref hr1 ?_
      have gr : inB (v6 &&& (1 : Int32)) (hN h11 ro) := by rw [thN T11 qr (k := 36) (n := 2) rfl (by decide)]; exact rg_inB ia (by decide)
      refine s_gd gr ?_
      refine s_br (fun c4 => ?_) (fun c4 => ?_)
      · refine s_ref hr1 (s_gd gr ?_)
        refine s_hq (th_wI T11 qr (k := 36) (lo := -1) (hi := 63) rfl (rg_b rfl) (by decide) (by decide) (pm_o hO (th_ih T r0 rfl hr rfl) rfl)) (fun h17 T17 e17 => ?_)
        exact put70 hO T17 r0 (hr_w e17 ho1) qo (hr_w e17 hf1) qf (hr_w e17 hr1) qr ix i2 sq (fun d hd => by rw [e17]; exact nb d hd)
      · exact put70 hO T11 r0 ho1 qo hf1 qf hr1 qr ix i2 sq nb
end
end
section
theorem fits_b {x : Int32} (i : Rg (-128) 127 x) : fits .byte (.int x) = true := by
  show (decide ((-128 : Int32) ≤ x) && decide (x ≤ (127 : Int32))) = true
  rw [Bool.and_eq_true, decide_eq_true_eq, decide_eq_true_eq, Int32.le_iff_toInt_le, Int32.le_iff_toInt_le]
  exact i
section
variable {ρ : Nat → Nat} {c : Cm} {h : Hp}
theorem cp_at (h : Hp) (a0 sp a dp n b j : Nat) : hI (cpI h a0 sp a dp n) b j = if b = a ∧ dp ≤ j ∧ j < dp + n then hI h a0 (sp + (j - dp)) else hI h b j := by
  rw [cpI_I]
  by_cases q : b = a
  · rw [if_pos q]
    show (if dp ≤ j ∧ j < dp + n then _ else _) = _
    by_cases w : dp ≤ j ∧ j < dp + n
    · rw [if_pos w, if_pos ⟨q, w⟩]
    · rw [if_neg w, if_neg (fun z => w z.2)]
  · rw [if_neg q, if_neg (fun z => q z.1)]
theorem th_cpI0 (T : TH0 ρ c h) {a0 a k0 k sp dp n : Nat} {lo hi lo0 hi0 : Int} (e0 : ρ a0 = k0) (e : ρ a = k) (hk0 : ∀ i, rgI k0 i = (lo0, hi0)) (hk : ∀ i, rgI k i = (lo, hi)) (le : lo ≤ lo0 ∧ hi0 ≤ hi) (n1 : k ≠ 10) (n2 : k ≠ 34) (hp : ∀ i j x, rP (c.2.1 50) (cw c a0) k0 i x → rP (c.2.1 50) (cw c a) k j x) : TH0 ρ c (cpI h a0 sp a dp n) := by
  obtain ⟨t1, t2, t3, t4, t5, t6, t7, t8, t9⟩ := T
  refine ⟨t1, ?_, t3, t4, t5, ?_, ⟨t7.1, ?_⟩, t8, t9⟩
  · intro b j
    rw [cp_at]
    by_cases q : b = a ∧ dp ≤ j ∧ j < dp + n
    · rw [if_pos q, q.1, e, hk]
      have := t2 a0 (sp + (j - dp))
      rw [e0, hk0] at this
      exact ⟨rg_m this.1 le, hp _ _ _ this.2⟩
    · rw [if_neg q]; exact t2 b j
  · intro t tb ht hr
    rw [cp_at, if_neg (fun q => n1 (by rw [← e, ← q.1, ht]))]
    exact t6 t tb ht hr
  · intro p on of hp ho hf s hs d hd hb
    have h1 : ρ on = 34 := by
      obtain ⟨r, e1, e2⟩ := t3 p 0 (by rw [hp]; decide)
      have e3 : hR h p 0 = some on := ho
      rw [e1] at e3
      rw [← Option.some.inj e3, e2, hp]; rfl
    rw [cp_at, if_neg (fun q => n2 (by rw [← e, ← q.1, h1]))]
    exact t7.2 p on of hp ho hf s hs d hd hb
-- the typed heap with one position left out
theorem fr_cp {g : Hp} (f : FrG ρ c g h) {a0 a k sp dp n : Nat} (e : ρ a = k) (hw : ∀ i, cPm c k (cw c a) i = true) : FrG ρ c g (cpI h a0 sp a dp n) := by
  refine ⟨f.1, fun b j l hb hs => ?_, f.2.2⟩
  rw [cp_at, if_neg (fun q => by rw [q.1, e, hw] at hs; exact absurd hs (by decide))]
  exact f.2.1 b j l hb hs
theorem th_cpI (T : TH ρ c h) {a0 a k0 k sp dp n : Nat} {lo hi lo0 hi0 : Int} (e0 : ρ a0 = k0) (e : ρ a = k) (hk0 : ∀ i, rgI k0 i = (lo0, hi0)) (hk : ∀ i, rgI k i = (lo, hi)) (le : lo ≤ lo0 ∧ hi0 ≤ hi) (n1 : k ≠ 10) (n2 : k ≠ 34) (hw : ∀ i, cPm c k (cw c a) i = true) (hp : ∀ i j x, rP (c.2.1 50) (cw c a0) k0 i x → rP (c.2.1 50) (cw c a) k j x := by exact fun _ _ _ _ => rp0 rfl) : TH ρ c (cpI h a0 sp a dp n) := ⟨th_cpI0 T.1 e0 e hk0 hk le n1 n2 hp, T.2.1, fr_cp T.2.2 e hw⟩
def PsX (ρ : Nat → Nat) (qb : Bool) (p0 : Nat) (h : Hp) : Prop := PsU ρ h ∧ ∀ p on of, p ≠ p0 → ρ p = 4 → hR h p 0 = some on → hR h p 1 = some of → ∀ s, s < 64 → ∀ d, d < 2 → bitJ (hJ h of d) s = true → 0 ≤ (hI h on s).toInt ∧ (hI h on s).toInt % 2 = (d : Int) ∧ SqN qb s
def THx0 (ρ : Nat → Nat) (c : Cm) (p0 : Nat) (h : Hp) : Prop :=
  h.1 = c.1 ∧ (∀ a i, Rg (rgI (ρ a) i).1 (rgI (ρ a) i).2 (hI h a i) ∧ rP (c.2.1 50) (cw c a) (ρ a) i (hI h a i)) ∧ (∀ a i, rfK (ρ a) i ≠ 0 → ∃ r, hR h a i = some r ∧ ρ r = rfK (ρ a) i) ∧ (∀ a i, rfN (ρ a) i ≠ 0 → ∀ r, hR h a i = some r → ρ r = rfN (ρ a) i) ∧ (∀ a, rln (ρ a) ≠ 0 → hN h a = rln (ρ a)) ∧ TxR ρ h ∧ PsX ρ (c.2.1 50) p0 h ∧ (∀ a i, nid (ρ a) i ≠ 0 → c.2.1 (nid (ρ a) i) = true → ∃ r, hR h a i = some r) ∧ (∀ a b, ρ a = ρ b → (sgl (ρ a) = true ∨ ((ρ a = 32 ∨ ρ a = 2) ∧ cw c a = cw c b)) → a = b)
theorem thx_of0 {p0 : Nat} (T : TH0 ρ c h) : THx0 ρ c p0 h := by
  obtain ⟨t1, t2, t3, t4, t5, t6, t7, t8, t9⟩ := T
  exact ⟨t1, t2, t3, t4, t5, t6, ⟨t7.1, fun p on of _ => t7.2 p on of⟩, t8, t9⟩
theorem thx_to0 {p0 : Nat} (T : THx0 ρ c p0 h) (hb : ∀ on of, hR h p0 0 = some on → hR h p0 1 = some of → ∀ s, s < 64 → ∀ d, d < 2 → bitJ (hJ h of d) s = true → 0 ≤ (hI h on s).toInt ∧ (hI h on s).toInt % 2 = (d : Int) ∧ SqN (c.2.1 50) s) : TH0 ρ c h := by
  obtain ⟨t1, t2, t3, t4, t5, t6, t7, t8, t9⟩ := T
  refine ⟨t1, t2, t3, t4, t5, t6, ⟨t7.1, fun p on of hp ho hf s hs d hd hx => ?_⟩, t8, t9⟩
  by_cases q : p = p0
  · subst q; exact hb on of ho hf s hs d hd hx
  · exact t7.2 p on of q hp ho hf s hs d hd hx
theorem pxI0 {p0 : Nat} (T : THx0 ρ c p0 h) {a k i : Nat} {lo hi : Int} (e : ρ a = k) (hk : rgI k i = (lo, hi)) : Rg lo hi (hI h a i) := by
  have := (T.2.1 a i).1
  rw [e, hk] at this
  exact this
theorem pxR0 {p0 : Nat} (T : THx0 ρ c p0 h) {a k i k2 : Nat} (e : ρ a = k) (hk : rfK k i = k2) (h0 : k2 ≠ 0) : ∃ r, hR h a i = some r ∧ ρ r = k2 := by
  have := T.2.2.1 a i
  rw [e, hk] at this
  exact this h0
theorem pxN0 {p0 : Nat} (T : THx0 ρ c p0 h) {a k n : Nat} (e : ρ a = k) (hk : rln k = n) (h0 : n ≠ 0) : hN h a = n := by
  have := T.2.2.2.2.1 a
  rw [e, hk] at this
  exact this h0
theorem px_on0 {p0 : Nat} (T : THx0 ρ c p0 h) {p on : Nat} (hp : ρ p = 4) (ho : hR h p 0 = some on) : ρ on = 34 := by
  obtain ⟨r, e1, e2⟩ := pxR0 T hp (i := 0) (k2 := 34) rfl (by decide)
  rw [e1] at ho
  rw [← Option.some.inj ho, e2]
theorem px_of0 {p0 : Nat} (T : THx0 ρ c p0 h) {p on : Nat} (hp : ρ p = 4) (ho : hR h p 1 = some on) : ρ on = 35 := by
  obtain ⟨r, e1, e2⟩ := pxR0 T hp (i := 1) (k2 := 35) rfl (by decide)
  rw [e1] at ho
  rw [← Option.some.inj ho, e2]
theorem thx_wI0 {p0 : Nat} (T : THx0 ρ c p0 h) {a k i : Nat} {v : Int32} {lo hi : Int} (h4 : ρ p0 = 4) (e : ρ a = k) (hk : rgI k i = (lo, hi)) (hv : Rg lo hi v) (n1 : k ≠ 10) (n2 : k = 34 → hR h p0 0 = some a) (hp : rP (c.2.1 50) (cw c a) k i v) : THx0 ρ c p0 (wI h a i v) := by
  have T0 := T
  obtain ⟨t1, t2, t3, t4, t5, t6, t7, t8, t9⟩ := T
  refine ⟨t1, ?_, t3, t4, t5, ?_, ⟨t7.1, ?_⟩, t8, t9⟩
  · intro b j
    rw [r_I]
    by_cases q : b = a ∧ j = i
    · rw [if_pos q, q.1, q.2, e, hk]; exact ⟨hv, hp⟩
    · rw [if_neg q]; exact t2 b j
  · intro t tb ht hr
    rw [r_I, if_neg (fun q => n1 (by rw [← e, ← q.1, ht]))]
    exact t6 t tb ht hr
  · intro p on of hn hp ho hf s hs d hd hb
    have h1 := px_on0 T0 hp ho
    have : on ≠ a := fun q => by
      have ho2 : hR h p 0 = some a := by rw [← q]; exact ho
      exact hn (t7.1 p p0 0 a (by decide) hp h4 ho2 (n2 (by rw [← e, ← q, h1])))
    rw [r_I, if_neg (fun q => this q.1)]
    exact t7.2 p on of hn hp ho hf s hs d hd hb
theorem thx_wJ0 {p0 : Nat} (T : THx0 ρ c p0 h) {a k i : Nat} {v : Int64} (h4 : ρ p0 = 4) (e : ρ a = k) (n2 : k = 35 → hR h p0 1 = some a) : THx0 ρ c p0 (wJ h a i v) := by
  have T0 := T
  obtain ⟨t1, t2, t3, t4, t5, t6, t7, t8, t9⟩ := T
  refine ⟨t1, t2, t3, t4, t5, t6, ⟨t7.1, ?_⟩, t8, t9⟩
  intro p on of hn hp ho hf s hs d hd hb
  have h1 := px_of0 T0 hp hf
  have : of ≠ a := fun q => by
    have ho2 : hR h p 1 = some a := by rw [← q]; exact hf
    exact hn (t7.1 p p0 1 a (by decide) hp h4 ho2 (n2 (by rw [← e, ← q, h1])))
  rw [r_J, if_neg (fun q => this q.1)] at hb
  exact t7.2 p on of hn hp ho hf s hs d hd hb
theorem thx_cp0 {p0 on0 on1 n : Nat} (T : THx0 ρ c p0 h) (h4 : ρ p0 = 4) (ho : hR h p0 0 = some on0) (q1 : ρ on1 = 34) : THx0 ρ c p0 (cpI h on1 0 on0 0 n) := by
  have q0 := px_on0 T h4 ho
  have T0 := T
  obtain ⟨t1, t2, t3, t4, t5, t6, t7, t8, t9⟩ := T
  refine ⟨t1, ?_, t3, t4, t5, ?_, ⟨t7.1, ?_⟩, t8, t9⟩
  · intro b j
    rw [cp_at]
    by_cases q : b = on0 ∧ 0 ≤ j ∧ j < 0 + n
    · rw [if_pos q, q.1, q0]
      exact ⟨pxI0 T0 q1 (k := 34) rfl, rp0 rfl⟩
    · rw [if_neg q]; exact t2 b j
  · intro t tb ht hr
    rw [cp_at, if_neg (fun q => absurd (q0.symm.trans (by rw [← q.1, ht])) (by decide))]
    exact t6 t tb ht hr
  · intro p on of hn hp ho' hf s hs d hd hb
    have : on ≠ on0 := fun q => by
      have ho2 : hR h p 0 = some on0 := by rw [← q]; exact ho'
      exact hn (t7.1 p p0 0 on0 (by decide) hp h4 ho2 ho)
    rw [cp_at, if_neg (fun q => this q.1)]
    exact t7.2 p on of hn hp ho' hf s hs d hd hb
def Cpy (qb : Bool) (x0 x1 on0 on1 of0 of1 n : Nat) (h : Hp) : Prop :=
  hR h x0 0 = some on0 ∧ hR h x1 0 = some on1 ∧ hR h x0 1 = some of0 ∧ hR h x1 1 = some of1 ∧ (∀ s, s < 64 → hI h on0 s = hI h on1 s) ∧ (∀ d, d < n → hJ h of0 d = hJ h of1 d) ∧ (x0 = x1 → ∀ s, s < 64 → ∀ d, d < 2 → bitJ (hJ h of0 d) s = true → 0 ≤ (hI h on0 s).toInt ∧ (hI h on0 s).toInt % 2 = (d : Int) ∧ SqN qb s)
def THx (ρ : Nat → Nat) (c : Cm) (p0 : Nat) (h : Hp) : Prop := THx0 ρ c p0 h ∧ OwR ρ c h ∧ FrG ρ c (c0 c) h
theorem thx_of {p0 : Nat} (T : TH ρ c h) : THx ρ c p0 h := ⟨thx_of0 T.1, T.2⟩
theorem thx_to {p0 : Nat} (T : THx ρ c p0 h) (hb : ∀ on of, hR h p0 0 = some on → hR h p0 1 = some of → ∀ s, s < 64 → ∀ d, d < 2 → bitJ (hJ h of d) s = true → 0 ≤ (hI h on s).toInt ∧ (hI h on s).toInt % 2 = (d : Int) ∧ SqN (c.2.1 50) s) : TH ρ c h := ⟨thx_to0 T.1 hb, T.2⟩
theorem pxI {p0 : Nat} (T : THx ρ c p0 h) {a k i : Nat} {lo hi : Int} (e : ρ a = k) (hk : rgI k i = (lo, hi)) : Rg lo hi (hI h a i) := pxI0 T.1 e hk
theorem pxR {p0 : Nat} (T : THx ρ c p0 h) {a k i k2 : Nat} (e : ρ a = k) (hk : rfK k i = k2) (h0 : k2 ≠ 0) : ∃ r, hR h a i = some r ∧ ρ r = k2 := pxR0 T.1 e hk h0
theorem pxN {p0 : Nat} (T : THx ρ c p0 h) {a k n : Nat} (e : ρ a = k) (hk : rln k = n) (h0 : n ≠ 0) : hN h a = n := pxN0 T.1 e hk h0
theorem px_on {p0 : Nat} (T : THx ρ c p0 h) {p on : Nat} (hp : ρ p = 4) (ho : hR h p 0 = some on) : ρ on = 34 := px_on0 T.1 hp ho
theorem px_of {p0 : Nat} (T : THx ρ c p0 h) {p on : Nat} (hp : ρ p = 4) (ho : hR h p 1 = some on) : ρ on = 35 := px_of0 T.1 hp ho
theorem px_ih {p0 : Nat} (T : THx ρ c p0 h) {a k i r w : Nat} (e : ρ a = k) (hk : inh k = true) (hr : hR h a i = some r) (ew : cw c a = w) : cw c r = w := (T.2.1.1 a i r (by rw [e]; exact hk) hr).trans ew
theorem thx_wI {p0 : Nat} (T : THx ρ c p0 h) {a k i : Nat} {v : Int32} {lo hi : Int} (h4 : ρ p0 = 4) (e : ρ a = k) (hk : rgI k i = (lo, hi)) (hv : Rg lo hi v) (n1 : k ≠ 10) (n2 : k = 34 → hR h p0 0 = some a) (hw : cPm c k (cw c a) i = true) (hp : rP (c.2.1 50) (cw c a) k i v := by exact rp0 rfl) : THx ρ c p0 (wI h a i v) := ⟨thx_wI0 T.1 h4 e hk hv n1 n2 hp, T.2.1, fr_wI T.2.2 e hw⟩
theorem thx_wJ {p0 : Nat} (T : THx ρ c p0 h) {a k i : Nat} {v : Int64} (h4 : ρ p0 = 4) (e : ρ a = k) (n2 : k = 35 → hR h p0 1 = some a) (hw : cPm c k (cw c a) i = true) : THx ρ c p0 (wJ h a i v) := ⟨thx_wJ0 T.1 h4 e n2, T.2.1, fr_wJ T.2.2 e hw⟩
theorem thx_cp {p0 on0 on1 n : Nat} (T : THx ρ c p0 h) (h4 : ρ p0 = 4) (ho : hR h p0 0 = some on0) (q1 : ρ on1 = 34) (hw : ∀ i, cPm c 34 (cw c p0) i = true) : THx ρ c p0 (cpI h on1 0 on0 0 n) := ⟨thx_cp0 T.1 h4 ho q1, T.2.1, fr_cp T.2.2 (px_on T h4 ho) (fun i => by rw [px_ih T h4 rfl ho rfl]; exact hw i)⟩
theorem cpy_end {x0 x1 on0 on1 of0 of1 : Nat} (T : THx ρ c x0 h) (q1 : ρ x1 = 4) (K : Cpy (c.2.1 50) x0 x1 on0 on1 of0 of1 2 h) : TH ρ c h := by
  obtain ⟨k1, k2, k3, k4, k5, k6, k7⟩ := K
  refine thx_to T (fun on of ho hf s hs d hd hb => ?_)
  have eo : on = on0 := by rw [k1] at ho; exact (Option.some.inj ho).symm
  have ef : of = of0 := by rw [k3] at hf; exact (Option.some.inj hf).symm
  subst eo
  subst ef
  by_cases q : x0 = x1
  · exact k7 q s hs d hd hb
  · rw [k5 s hs]
    rw [k6 d hd] at hb
    obtain ⟨t1, t2, t3, t4, t5, t6, t7, t8, t9⟩ := T.1
    exact t7.2 x1 on1 of1 (fun w => q w.symm) q1 k2 k4 s hs d hd hb
theorem cpy_wI {x0 x1 on0 on1 of0 of1 n a i : Nat} {v : Int32} {h2 : Hp} (e : h2 = wI h a i v) (qa : ρ a ≠ 34) (q0 : ρ on0 = 34) (q1 : ρ on1 = 34) (K : Cpy (c.2.1 50) x0 x1 on0 on1 of0 of1 n h) : Cpy (c.2.1 50) x0 x1 on0 on1 of0 of1 n h2 := by
  obtain ⟨k1, k2, k3, k4, k5, k6, k7⟩ := K
  have i0 : ∀ s, hI h2 on0 s = hI h on0 s := fun s => by rw [e, r_I, if_neg (fun w => qa (by rw [← w.1, q0]))]
  have i1 : ∀ s, hI h2 on1 s = hI h on1 s := fun s => by rw [e, r_I, if_neg (fun w => qa (by rw [← w.1, q1]))]
  have j0 : ∀ b d, hJ h2 b d = hJ h b d := fun b d => by rw [e]; rfl
  refine ⟨hr_w e k1, hr_w e k2, hr_w e k3, hr_w e k4, fun s hs => ?_, fun d hd => ?_, fun w s hs d hd hb => ?_⟩
  · rw [i0, i1]; exact k5 s hs
  · rw [j0, j0]; exact k6 d hd
  · rw [i0]; rw [j0] at hb; exact k7 w s hs d hd hb
theorem cpy_wJ {x0 x1 on0 on1 of0 of1 n a i : Nat} {v : Int64} {h2 : Hp} (e : h2 = wJ h a i v) (qa : ρ a ≠ 35) (q0 : ρ of0 = 35) (q1 : ρ of1 = 35) (K : Cpy (c.2.1 50) x0 x1 on0 on1 of0 of1 n h) : Cpy (c.2.1 50) x0 x1 on0 on1 of0 of1 n h2 := by
  obtain ⟨k1, k2, k3, k4, k5, k6, k7⟩ := K
  have i0 : ∀ b s, hI h2 b s = hI h b s := fun b s => by rw [e]; rfl
  have j0 : ∀ d, hJ h2 of0 d = hJ h of0 d := fun d => by rw [e, r_J, if_neg (fun w => qa (by rw [← w.1, q0]))]
  have j1 : ∀ d, hJ h2 of1 d = hJ h of1 d := fun d => by rw [e, r_J, if_neg (fun w => qa (by rw [← w.1, q1]))]
  refine ⟨hr_j e k1, hr_j e k2, hr_j e k3, hr_j e k4, fun s hs => ?_, fun d hd => ?_, fun w s hs d hd hb => ?_⟩
  · rw [i0, i0]; exact k5 s hs
  · rw [j0, j1]; exact k6 d hd
  · rw [i0]; rw [j0] at hb; exact k7 w s hs d hd hb
theorem copy17 {F x0 x1 on0 on1 of0 of1 : Nat} (hO : pmO c (cw c x0) [(34, 999), (35, 999), (36, 999), (37, 999), (38, 999), (4, 5), (4, 6), (4, 8), (4, 9), (4, 10)]) (r0 : ρ x0 = 4) (r1 : ρ x1 = 4) (p0 : ρ on0 = 34) (p1 : ρ on1 = 34) (q0 : ρ of0 = 35) (q1 : ρ of1 = 35) : ∀ (f : Nat) {h : Hp} {x2 : Int32}, THx ρ c x0 h → Rg 0 2 x2 → Cpy (c.2.1 50) x0 x1 on0 on1 of0 of1 x2.toNatClampNeg h → (2 - x2.toInt).toNat < f → Sat (sX3_copyFrom_17 F f h x0 x1 x2) (ZV ρ c) := by
  intro f
  induction f with
  | zero => intros; omega
  | succ f ih =>
    intro h x2 T i2 K hm
    rw [sX3_copyFrom_17]
    refine s_br (fun c1 => ?_) (fun c1 => ?_)
    · have e2 : x2.toNatClampNeg = 2 := by
        obtain ⟨j, ej, tj, hj⟩ := rg_nI i2 (Int.le_refl 0)
        rw [Int32.le_iff_toInt_le, show (2 : Int32).toInt = 2 from rfl] at c1
        have := i2.2
        rw [ej, z_clamp hj]
        omega
      rw [e2] at K
      have T0 := cpy_end T r1 K
      refine s_h (th_wI T0 r0 (k := 4) (lo := 0) (hi := 1) rfl (thI T0 r1 (k := 4) rfl) (by decide) (by decide) (pm_o hO rfl rfl)) (fun h2 T2 => ?_)
      refine s_h (th_wI T2 r0 (k := 4) (lo := 0) (hi := 999) rfl (thI T2 r1 (k := 4) rfl) (by decide) (by decide) (pm_o hO rfl rfl)) (fun h3 T3 => ?_)
      refine s_h (th_wJ T3 r0 (by decide) (pm_o hO rfl rfl)) (fun h4 T4 => ?_)
      refine s_h (th_wJ T4 r0 (by decide) (pm_o hO rfl rfl)) (fun h5 T5 => ?_)
      exact s_h (th_wJ T5 r0 (by decide) (pm_o hO rfl rfl)) (fun h6 T6 => s_some T6)
    · have ix : Rg 0 1 x2 := by
        have := nle_lt c1
        exact rg_lt1 this i2 (rg_b rfl : Rg 2 2 (2 : Int32))
      obtain ⟨j, ej, tj, hj⟩ := rg_nI i2 (Int.le_refl 0)
      have jx : x2.toNatClampNeg = j := by rw [ej, z_clamp hj]
      have b1 := ix.2
      obtain ⟨k1, k2, k3, k4, k5, k6, k7⟩ := K
      refine s_ref k3 (s_ref k4 ?_)
      refine s_gd (by rw [pxN T q1 (k := 35) (n := 2) rfl (by decide)]; exact rg_inB ix (by decide)) ?_
      refine s_gd (by rw [pxN T q0 (k := 35) (n := 2) rfl (by decide)]; exact rg_inB ix (by decide)) ?_
      refine s_q (fun h11 e11 => ?_)
      have T11 : THx ρ c x0 h11 := by rw [e11]; exact thx_wJ T r0 q0 (fun _ => k3) (pm_o hO (px_ih T r0 rfl k3 rfl) rfl)
      have K11 : Cpy (c.2.1 50) x0 x1 on0 on1 of0 of1 (j + 1) h11 := by
        refine ⟨hr_j e11 k1, hr_j e11 k2, hr_j e11 k3, hr_j e11 k4, fun s hs => ?_, fun d hd => ?_, fun w s hs d hd hb => ?_⟩
        · rw [e11]; exact k5 s hs
        · rw [e11, r_J, r_J, jx]
          by_cases z : d = j
          · rw [if_pos ⟨rfl, z⟩]
            by_cases y : of1 = of0
            · rw [if_pos ⟨y, z⟩]
            · rw [if_neg (fun g => y g.1), z]
          · rw [if_neg (fun g => z g.2), if_neg (fun g => z g.2)]
            exact k6 d (by rw [jx]; omega)
        · have eo : of1 = of0 := by
            subst w
            rw [k3] at k4
            exact (Option.some.inj k4).symm
          rw [e11]
          rw [e11, r_J] at hb
          by_cases z : of0 = of0 ∧ d = x2.toNatClampNeg
          · rw [if_pos z, eo, ← z.2] at hb
            exact k7 w s hs d hd hb
          · rw [if_neg z] at hb
            exact k7 w s hs d hd hb
      obtain ⟨u0, e0, g0⟩ := pxR T11 r0 (i := 2) (k2 := 36) rfl (by decide)
      obtain ⟨u1, e1, g1⟩ := pxR T11 r1 (i := 2) (k2 := 36) rfl (by decide)
      refine s_ref e0 (s_ref e1 ?_)
      refine s_gd (by rw [pxN T11 g1 (k := 36) (n := 2) rfl (by decide)]; exact rg_inB ix (by decide)) ?_
      refine s_gd (by rw [pxN T11 g0 (k := 36) (n := 2) rfl (by decide)]; exact rg_inB ix (by decide)) ?_
      refine s_q (fun h16 e16 => ?_)
      have T16 : THx ρ c x0 h16 := by rw [e16]; exact thx_wI T11 r0 g0 (lo := -1) (hi := 63) rfl (pxI T11 g1 (k := 36) rfl) (by decide) (fun w => absurd w (by decide)) (pm_o hO (px_ih T11 r0 rfl e0 rfl) rfl)
      have K16 := cpy_wI e16 (by rw [g0]; decide) p0 p1 K11
      obtain ⟨v0, f0, y0⟩ := pxR T16 r0 (i := 3) (k2 := 37) rfl (by decide)
      obtain ⟨v1, f1, y1⟩ := pxR T16 r1 (i := 3) (k2 := 37) rfl (by decide)
      refine s_ref f0 (s_ref f1 ?_)
      refine s_gd (by rw [pxN T16 y1 (k := 37) (n := 2) rfl (by decide)]; exact rg_inB ix (by decide)) ?_
      refine s_gd (by rw [pxN T16 y0 (k := 37) (n := 2) rfl (by decide)]; exact rg_inB ix (by decide)) ?_
      refine s_q (fun h21 e21 => ?_)
      have T21 : THx ρ c x0 h21 := by rw [e21]; exact thx_wJ T16 r0 y0 (fun w => absurd w (by decide)) (pm_o hO (px_ih T16 r0 rfl f0 rfl) rfl)
      have K21 := cpy_wJ e21 (by rw [y0]; decide) q0 q1 K16
      obtain ⟨w0, l0, z0⟩ := pxR T21 r0 (i := 4) (k2 := 38) rfl (by decide)
      obtain ⟨w1, l1, z1⟩ := pxR T21 r1 (i := 4) (k2 := 38) rfl (by decide)
      refine s_ref l0 (s_ref l1 ?_)
      refine s_gd (by rw [pxN T21 z1 (k := 38) (n := 2) rfl (by decide)]; exact rg_inB ix (by decide)) ?_
      refine s_gd (by rw [pxN T21 z0 (k := 38) (n := 2) rfl (by decide)]; exact rg_inB ix (by decide)) ?_
      refine s_q (fun h26 e26 => ?_)
      have T26 : THx ρ c x0 h26 := by rw [e26]; exact thx_wI T21 r0 z0 (lo := 0) (hi := 9) rfl (pxI T21 z1 (k := 38) rfl) (by decide) (fun w => absurd w (by decide)) (pm_o hO (px_ih T21 r0 rfl l0 rfl) rfl)
      have K26 := cpy_wI e26 (by rw [z0]; decide) p0 p1 K21
      refine s_q (fun v27 e27 => ?_)
      have m : v27.toInt = x2.toInt + 1 := by rw [e27]; exact rg_inc ix (by decide)
      have mc : v27.toNatClampNeg = j + 1 := by
        have ev : v27 = nI (j + 1) := by
          rw [e27, ej]
          exact z_add j 1
        rw [ev, z_clamp (by omega)]
      have b0 := ix.1
      refine ih T26 ⟨by omega, by omega⟩ ?_ (by omega)
      rw [mc]
      exact K26
theorem zX3_copyFrom {F : Nat} (hF : 700000 ≤ F) {x0 x1 : Nat} (hO : pmO c (cw c x0) [(34, 999), (35, 999), (36, 999), (37, 999), (38, 999), (4, 5), (4, 6), (4, 8), (4, 9), (4, 10)]) (T : TH ρ c h) (r0 : ρ x0 = 4) (r1 : ρ x1 = 4) : Sat (sX3_copyFrom F h x0 x1) (ZV ρ c) := by
  unfold sX3_copyFrom
  obtain ⟨on1, k2, p1⟩ := thR T r1 (i := 0) (k2 := 34) rfl (by decide)
  obtain ⟨on0, k1, p0⟩ := thR T r0 (i := 0) (k2 := 34) rfl (by decide)
  obtain ⟨of1, k4, q1⟩ := thR T r1 (i := 1) (k2 := 35) rfl (by decide)
  obtain ⟨of0, k3, q0⟩ := thR T r0 (i := 1) (k2 := 35) rfl (by decide)
  refine s_ref k2 (s_ref k1 ?_)
  refine s_gd (by decide) (s_gd (by decide) (s_gd (by decide) ?_))
  have c64 : (0 : Int32).toNatClampNeg + (64 : Int32).toNatClampNeg = 64 := by decide
  refine s_gd (by rw [thN T p1 (k := 34) (n := 64) rfl (by decide), c64]; exact Nat.le_refl _) ?_
  refine s_gd (by rw [thN T p0 (k := 34) (n := 64) rfl (by decide), c64]; exact Nat.le_refl _) ?_
  refine s_gd (fun i _ => fits_b (rg_m (thI T p1 (k := 34) (lo := -2) (hi := 23) rfl) (by decide))) ?_
  refine s_q (fun h9 e9 => ?_)
  have e64 : (64 : Int32).toNatClampNeg = 64 := by decide
  have e00 : (0 : Int32).toNatClampNeg = 0 := by decide
  rw [e64, e00] at e9
  have T9 : THx ρ c x0 h9 := by rw [e9]; exact thx_cp (thx_of T) r0 k1 p1 (fun _ => hO _ _ rfl)
  have rr : ∀ a i, hR h9 a i = hR h a i := fun a i => by rw [e9]; rfl
  have jj : ∀ a i, hJ h9 a i = hJ h a i := fun a i => by rw [e9]; rfl
  have ii : ∀ s, s < 64 → hI h9 on0 s = hI h on1 s := fun s hs => by
    rw [e9, cp_at, if_pos ⟨rfl, Nat.zero_le _, by omega⟩]
    congr 1
    omega
  have z : (0 : Int32).toInt = 0 := rfl
  refine copy17 hO r0 r1 p0 p1 q0 q1 F T9 ⟨by rw [z]; omega, by rw [z]; omega⟩ ⟨by rw [rr]; exact k1, by rw [rr]; exact k2, by rw [rr]; exact k3, by rw [rr]; exact k4, fun s hs => ?_, fun d hd => ?_, fun w s hs d hd hb => ?_⟩ (by rw [z]; omega)
  · by_cases q : on1 = on0
    · rw [q]
    · rw [ii s hs, e9, cp_at, if_neg (fun g => q g.1)]
  · rw [e00] at hd
    exact absurd hd (Nat.not_lt_zero _)
  · subst w
    have eo : on0 = on1 := by rw [k1] at k2; exact Option.some.inj k2
    rw [ii s hs, ← eo]
    rw [jj] at hb
    exact th_ps T r0 k1 k3 hs hd hb
end
end
section
theorem bj_zero (s : Nat) : bitJ (0 : Int64) s = false := by
  show (0#64).getLsbD s = false
  exact BitVec.getLsbD_zero
section
variable {ρ : Nat → Nat} {c : Cm} {h : Hp}
theorem fillBx5 {F p0 on : Nat} (hw : ∀ i, cPm c 34 (cw c on) i = true) (r0 : ρ p0 = 4) (q0 : ρ on = 34) : ∀ (f : Nat) {h : Hp} {x2 : Int32}, THx ρ c p0 h → hR h p0 0 = some on → Rg 0 64 x2 → (64 - x2.toInt).toNat < f → Sat (sJ7_fill_031fb_5 F f h on (-1 : Int32) x2 (nI 64)) (fun g => THx ρ c p0 g ∧ ∀ a i, hR g a i = hR h a i) := by
  intro f
  induction f with
  | zero => intros; omega
  | succ f ih =>
    intro h x2 T ho i2 hm
    rw [sJ7_fill_031fb_5]
    refine s_br (fun c1 => ?_) (fun c1 => ?_)
    · exact s_some ⟨T, fun _ _ => rfl⟩
    · have i2' : Rg 0 63 x2 := rg_lt1 (nle_lt c1) i2 (rg_nIn (n := 64) rfl (by decide))
      refine s_gd (by rw [pxN T q0 (k := 34) (n := 64) rfl (by decide)]; exact rg_inB i2' (by decide)) ?_
      refine s_q (fun h3 e3 => ?_)
      have T3 : THx ρ c p0 h3 := by
        rw [e3]
        exact thx_wI T r0 q0 (lo := -2) (hi := 23) rfl (rg_m (rg_narb (a := -1) (b := -1) (rg_b rfl) (by decide)) (by decide)) (by decide) (fun _ => ho) (hw _)
      refine s_q (fun v ev => ?_)
      have m : v.toInt = x2.toInt + 1 := by rw [ev]; exact rg_inc i2' (by decide)
      have b1 := i2'.1
      have b2 := i2'.2
      refine s_imp (ih T3 (hr_w e3 ho) ⟨by omega, by omega⟩ (by omega)) (fun g hg => ⟨hg.1, fun a i => ?_⟩)
      rw [hg.2, e3]
      rfl
theorem fillJx6 {F p0 of : Nat} {x1 : Int64} (hw : ∀ i, cPm c 35 (cw c of) i = true) (r0 : ρ p0 = 4) (q0 : ρ of = 35) : ∀ (f : Nat) {h : Hp} {x3 : Int32}, THx ρ c p0 h → hR h p0 1 = some of → Rg 0 2 x3 → (∀ d, d < x3.toNatClampNeg → hJ h of d = x1) → (2 - x3.toInt).toNat < f → Sat (sJ7_fill_d0a16_6 F f h of x1 x3 (nI 2)) (fun g => THx ρ c p0 g ∧ (∀ d, d < 2 → hJ g of d = x1) ∧ ∀ a i, hR g a i = hR h a i) := by
  intro f
  induction f with
  | zero => intros; omega
  | succ f ih =>
    intro h x3 T ho i2 hd hm
    rw [sJ7_fill_d0a16_6]
    obtain ⟨j, ej, tj, hj⟩ := rg_nI i2 (Int.le_refl 0)
    have jx : x3.toNatClampNeg = j := by rw [ej, z_clamp hj]
    refine s_br (fun c1 => ?_) (fun c1 => ?_)
    · refine s_some ⟨T, fun d h2 => hd d ?_, fun _ _ => rfl⟩
      rw [Int32.le_iff_toInt_le, z_toInt (by decide)] at c1
      rw [jx]
      omega
    · have i2' : Rg 0 1 x3 := rg_lt1 (nle_lt c1) i2 (rg_nIn (n := 2) rfl (by decide))
      refine s_gd (by rw [pxN T q0 (k := 35) (n := 2) rfl (by decide)]; exact rg_inB i2' (by decide)) ?_
      refine s_q (fun h3 e3 => ?_)
      have T3 : THx ρ c p0 h3 := by rw [e3]; exact thx_wJ T r0 q0 (fun _ => ho) (hw _)
      refine s_q (fun v ev => ?_)
      have m : v.toInt = x3.toInt + 1 := by rw [ev]; exact rg_inc i2' (by decide)
      have mc : v.toNatClampNeg = j + 1 := by
        have e : v = nI (j + 1) := by
          rw [ev, ej]
          exact z_add j 1
        have := i2'.2
        rw [e, z_clamp (by omega)]
      have b1 := i2'.1
      have b2 := i2'.2
      refine s_imp (ih T3 (hr_j e3 ho) ⟨by omega, by omega⟩ (fun d hdd => ?_) (by omega)) (fun g hg => ⟨hg.1, hg.2.1, fun a i => ?_⟩)
      · rw [e3, r_J, jx]
        by_cases z : d = j
        · rw [if_pos ⟨rfl, z⟩]
        · rw [if_neg (fun w => z w.2)]
          exact hd d (by rw [jx]; rw [mc] at hdd; omega)
      · rw [hg.2.2, e3]
        rfl
theorem zX3_strip {F : Nat} (hF : 700000 ≤ F) {x0 : Nat} (hO : pmO c (cw c x0) [(37, 999), (38, 999), (4, 6), (4, 8), (4, 9), (4, 10)]) (T : TH ρ c h) (r0 : ρ x0 = 4) : Sat (sX3_strip F h x0) (fun o => ZV ρ c o ∧ (hI o x0 6).toInt = 0) := by
  unfold sX3_strip
  refine s_h (th_wJ T r0 (by decide) (pm_o hO rfl rfl)) (fun h1 T1 => ?_)
  refine s_h (th_wJ T1 r0 (by decide) (pm_o hO rfl rfl)) (fun h2 T2 => ?_)
  refine s_h (th_wJ T2 r0 (by decide) (pm_o hO rfl rfl)) (fun h3 T3 => ?_)
  obtain ⟨r4, e4, q4⟩ := thR T3 r0 (i := 3) (k2 := 37) rfl (by decide)
  refine s_ref e4 ?_
  refine s_cV (zJ7_fill_d0a16 hF T3 q4 (n := 2) rfl (by decide) (by decide) (by decide) (fun _ => pm_o hO (th_ih T3 r0 rfl e4 rfl) rfl)) (fun o5 T5 => ?_)
  obtain ⟨r6, e6, q6⟩ := thR T5 r0 (i := 4) (k2 := 38) rfl (by decide)
  refine s_ref e6 ?_
  refine s_cV (zJ7_fill_53178 hF T5 q6 (lo := 0) (hi := 9) (n := 2) (rg_b rfl) (fun _ => rfl) rfl (by decide) (by decide) (by decide) (by decide) (fun _ => pm_o hO (th_ih T5 r0 rfl e6 rfl) rfl)) (fun o7 T7 => ?_)
  exact s_hq (th_wI T7 r0 (k := 4) (lo := 0) (hi := 999) rfl (rg_b rfl) (by decide) (by decide) (pm_o hO rfl rfl)) (fun h8 T8 e8 => s_some ⟨T8, by rw [e8, r_I, if_pos ⟨rfl, rfl⟩]; rfl⟩)
theorem zX3_clear {F : Nat} (hF : 700000 ≤ F) {x0 : Nat} (hO : pmO c (cw c x0) [(34, 999), (35, 999), (36, 999), (37, 999), (38, 999), (4, 5), (4, 6), (4, 8), (4, 9), (4, 10)]) (T : TH ρ c h) (r0 : ρ x0 = 4) : Sat (sX3_clear F h x0) (fun o => ZV ρ c o ∧ (hI o x0 6).toInt = 0) := by
  unfold sX3_clear
  obtain ⟨on, k1, p1⟩ := thR T r0 (i := 0) (k2 := 34) rfl (by decide)
  obtain ⟨of, k2, p2⟩ := thR T r0 (i := 1) (k2 := 35) rfl (by decide)
  refine s_ref k1 ?_
  have z : (0 : Int32).toInt = 0 := rfl
  refine s_cl (s_imp (Q := fun g => THx ρ c x0 g ∧ ∀ a i, hR g a i = hR h a i) ?_ (fun o2 w2 => ?_))
  · unfold sJ7_fill_031fb
    refine s_nm ?_
    rw [thN T p1 (k := 34) (n := 64) rfl (by decide)]
    exact fillBx5 (fun _ => pm_o hO (th_ih T r0 rfl k1 rfl) rfl) r0 p1 F (thx_of T) k1 ⟨by rw [z]; omega, by rw [z]; omega⟩ (by rw [z]; omega)
  · obtain ⟨T2, g2⟩ := w2
    have k22 : hR o2 x0 1 = some of := by rw [g2]; exact k2
    refine s_ref k22 ?_
    refine s_cl (s_imp (Q := fun g => THx ρ c x0 g ∧ (∀ d, d < 2 → hJ g of d = 0) ∧ ∀ a i, hR g a i = hR o2 a i) ?_ (fun o4 w4 => ?_))
    · unfold sJ7_fill_d0a16
      refine s_nm ?_
      rw [pxN T2 p2 (k := 35) (n := 2) rfl (by decide)]
      refine fillJx6 (fun _ => pm_o hO (th_ih T r0 rfl k2 rfl) rfl) r0 p2 F T2 k22 ⟨by rw [z]; omega, by rw [z]; omega⟩ (fun d hd => ?_) (by rw [z]; omega)
      rw [show (0 : Int32).toNatClampNeg = 0 from by decide] at hd
      exact absurd hd (Nat.not_lt_zero _)
    · obtain ⟨T4x, j4, g4⟩ := w4
      have T4 : TH ρ c o4 := thx_to T4x (fun on' of' ho hf s hs d hd hb => by
        rw [g4, k22] at hf
        rw [← Option.some.inj hf, j4 d hd, bj_zero] at hb
        exact absurd hb (by decide))
      obtain ⟨r5, e5, q5⟩ := thR T4 r0 (i := 2) (k2 := 36) rfl (by decide)
      refine s_ref e5 ?_
      refine s_cV (zJ7_fill_53178 hF T4 q5 (lo := -1) (hi := 63) (n := 2) (rg_b rfl) (fun _ => rfl) rfl (by decide) (by decide) (by decide) (by decide) (fun _ => pm_o hO (th_ih T4 r0 rfl e5 rfl) rfl)) (fun o6 T6 => ?_)
      refine s_h (th_wI T6 r0 (k := 4) (lo := 0) (hi := 1) rfl (rg_b rfl) (by decide) (by decide) (pm_o hO rfl rfl)) (fun h7 T7 => ?_)
      exact s_cl (s_imp (zX3_strip hF (pmO_s hO rfl) T7 r0) (fun o8 T8 => s_some T8))
end
end
section
theorem rg_divw {a b c d hi : Int} {x y : Int32} (hx : Rg a b x) (hy : Rg c d y) (e : 0 ≤ a ∧ 1 ≤ c ∧ b / c ≤ hi) : Rg 0 hi (x / y) := by
  obtain ⟨e1, e2, e3⟩ := e
  have h1 := hx.1
  have h2 := hx.2
  have h3 := hy.1
  unfold Rg
  rw [Int32.toInt_div_of_ne_right x y (rg_ne1 hy e2), Int.tdiv_eq_ediv_of_nonneg (by omega)]
  have q0 : 0 ≤ x.toInt / y.toInt := Int.ediv_nonneg (by omega) (by omega)
  refine ⟨q0, Int.le_trans (Int.le_ediv_of_mul_le (by omega) ?_) e3⟩
  have p1 : x.toInt / y.toInt * c ≤ x.toInt / y.toInt * y.toInt := Int.mul_le_mul_of_nonneg_left h3 q0
  have p2 : x.toInt / y.toInt * y.toInt ≤ x.toInt := Int.ediv_mul_le _ (by omega)
  omega
theorem lB_len (i : Nat) : (lB i).length ≤ 231 := by
  have ha : ∀ y ∈ lits, y.2.2.2.length ≤ 231 := by decide +kernel
  show ((lits.getD i ("", 0, "", [])).2.2.2).length ≤ 231
  rw [List.getD_eq_getElem?_getD]
  cases q : lits[i]? with
  | none => exact Nat.zero_le _
  | some z => exact ha z (List.mem_of_getElem? q)
theorem rg_lB (i : Nat) : Rg 0 231 (nI (lB i).length) := by
  have := lB_len i
  unfold Rg
  rw [z_toInt (by omega)]
  omega
theorem lB_lt2 (i : Nat) : (lB i).length < 2 ^ 31 := by have := lB_len i; omega
theorem rg_schr (i : Nat) (k : Int32) : Rg 0 255 (schr i k) := by
  have h : Rg 0 255 (((lB i).getD k.toNatClampNeg 0) &&& 255) := rg_and (c := 255) (d := 255) (rg_b rfl) (by decide)
  obtain ⟨j, ej, tj, hj⟩ := rg_nI h (Int.le_refl 0)
  have b := h.2
  have all : ∀ m : Fin 256, rgb 0 255 (((nI m.val).toUInt32 % 65536).toInt32) = true := by decide +kernel
  unfold schr
  rw [ej]
  exact rg_b (all ⟨j, by omega⟩)
theorem g_len {a b c d : Int} {x y : Int32} {h : Hp} {r n : Nat} (hx : Rg a b x) (hy : Rg c d y) (hn : hN h r = n) (e : 0 ≤ a ∧ 0 ≤ c ∧ b + d ≤ (n : Int)) : x.toNatClampNeg + y.toNatClampNeg ≤ hN h r := by
  obtain ⟨j, ej, tj, hj⟩ := rg_nI hx e.1
  obtain ⟨k, ek, tk, hk⟩ := rg_nI hy e.2.1
  have x2 := hx.2
  have y2 := hy.2
  have := e.2.2
  rw [hn, ej, ek, z_clamp hj, z_clamp hk]
  omega
section
variable {h h2 : Hp} {a i b j : Nat}
theorem he_e (e : h2 = h) : hI h2 a i = hI h a i := by rw [e]
theorem he_w {v : Int32} (e : h2 = wI h b j v) (n : ¬ (a = b ∧ i = j)) : hI h2 a i = hI h a i := by rw [e, r_I, if_neg n]
theorem he_j {v : Int64} (e : h2 = wJ h b j v) : hI h2 a i = hI h a i := by rw [e]; rfl
theorem he_s {v : Int32} (e : h2 = wI h a i v) : hI h2 a i = v := by rw [e, r_I, if_pos ⟨rfl, rfl⟩]
theorem hr_c {a0 sp dp n x y r : Nat} (e : h2 = cpI h a0 sp b dp n) (f : hR h x y = some r) : hR h2 x y = some r := by rw [e]; exact f
theorem rg_hc {a0 sp dp n : Nat} {lo hi : Int} (e : h2 = cpI h a0 sp b dp n) (q : a ≠ b) (f : Rg lo hi (hI h a i)) : Rg lo hi (hI h2 a i) := by
  rw [e, cp_at, if_neg (fun w => q w.1)]; exact f
end
theorem rz_s {a : Int} {x y : Int32} (h : Rg a a x) (g : Rg a a y) : x = y := by
  rw [← Int32.toInt_inj]
  have := h.1; have := h.2; have := g.1; have := g.2
  omega
end
section
theorem least {P : Nat → Bool} : ∀ n, P n = true → ∃ k, k ≤ n ∧ P k = true ∧ ∀ j, j < k → P j = false := by
  intro n
  induction n using Nat.strongRecOn with
  | ind n ih =>
    intro hn
    by_cases q : ∃ j, j < n ∧ P j = true
    · obtain ⟨j, hj, pj⟩ := q
      obtain ⟨k, hk, pk, hl⟩ := ih j hj pj
      exact ⟨k, by omega, pk, hl⟩
    · refine ⟨n, Nat.le_refl n, hn, fun j hj => ?_⟩
      cases z : P j with
      | false => rfl
      | true => exact absurd ⟨j, hj, z⟩ q
theorem low_bit {x : Int64} (hx : ¬ x = 0) : ∃ k, k < 64 ∧ bitJ x k = true ∧ (x &&& (-x)) = Int64.ofBitVec (BitVec.twoPow 64 k) := by
  have e : ∃ n, n < 64 ∧ bitJ x n = true := by
    refine Classical.byContradiction (fun q => hx ?_)
    apply Int64.toBitVec_inj.mp
    apply BitVec.eq_of_getLsbD_eq
    intro i hi
    have : bitJ x i = false := by
      cases z : bitJ x i with
      | false => rfl
      | true => exact absurd ⟨i, hi, z⟩ q
    show bitJ x i = bitJ (0 : Int64) i
    rw [this, bj_zero]
  obtain ⟨n, hn, pn⟩ := e
  obtain ⟨k, hk, pk, hl⟩ := least (P := fun i => bitJ x i) n pn
  refine ⟨k, by omega, pk, ?_⟩
  apply Int64.toBitVec_inj.mp
  show (x &&& (-x)).toBitVec = BitVec.twoPow 64 k
  apply BitVec.eq_of_getLsbD_eq
  intro i hi
  rw [BitVec.getLsbD_twoPow]
  show (x.toBitVec &&& (-x).toBitVec).getLsbD i = _
  rw [BitVec.getLsbD_and, Int64.toBitVec_neg, BitVec.getLsbD_neg]
  have pk' : x.toBitVec.getLsbD k = true := pk
  have hl' : ∀ j, j < k → x.toBitVec.getLsbD j = false := hl
  by_cases a : i < k
  · rw [hl' i a]
    have : ¬ k = i := by omega
    simp [this]
  · by_cases b : i = k
    · subst b
      have : ¬ ∃ j, j < i ∧ x.toBitVec.getLsbD j = true := fun ⟨j, hj, hz⟩ => by rw [hl' j hj] at hz; exact absurd hz (by decide)
      simp [pk', hi, this]
    · have e2 : ∃ j, j < i ∧ x.toBitVec.getLsbD j = true := ⟨k, by omega, pk'⟩
      have : ¬ k = i := by omega
      simp [hi, e2, this]
theorem sq_pow {k : Nat} (hk : k < 64) : sqT.getD ((((Int64.ofBitVec (BitVec.twoPow 64 k) * (285870213051386505 : Int64)).toUInt64 >>> ((58 : Int32).toInt64.toUInt64 &&& Int64.toUInt64 63)).toInt64).toInt32).toNatClampNeg 0 = nI k := by
  have all : ∀ k : Fin 64, sqT.getD ((((Int64.ofBitVec (BitVec.twoPow 64 k.val) * (285870213051386505 : Int64)).toUInt64 >>> ((58 : Int32).toInt64.toUInt64 &&& Int64.toUInt64 63)).toInt64).toInt32).toNatClampNeg 0 = nI k.val := by decide +kernel
  exact all ⟨k, hk⟩
theorem bj_pow {k s : Nat} (hk : k < 64) : bitJ (Int64.ofBitVec (BitVec.twoPow 64 k)) s = decide (k = s) := by
  show (BitVec.twoPow 64 k).getLsbD s = _
  rw [BitVec.getLsbD_twoPow]
  simp [hk]
theorem bj_xor (a b : Int64) (s : Nat) : bitJ (a ^^^ b) s = (bitJ a s ^^ bitJ b s) := by
  unfold bitJ
  rw [Int64.toBitVec_xor, BitVec.getLsbD_xor]
/-- what is left when the lowest bit is taken away is a part -/
theorem bj_rest {x : Int64} {s : Nat} (hx : ¬ x = 0) (h : bitJ (x ^^^ (x &&& (-x))) s = true) : bitJ x s = true := by
  obtain ⟨k, hk, pk, e⟩ := low_bit hx
  rw [e, bj_xor, bj_pow hk] at h
  by_cases q : k = s
  · subst q; exact pk
  · rw [decide_eq_false q, Bool.xor_false] at h
    exact h
theorem sq_bit {x : Int64} (hx : ¬ x = 0) : bitJ x (sqT.getD (((((x &&& (-x)) * (285870213051386505 : Int64)).toUInt64 >>> ((58 : Int32).toInt64.toUInt64 &&& Int64.toUInt64 63)).toInt64).toInt32).toNatClampNeg 0).toNatClampNeg = true := by
  obtain ⟨k, hk, pk, e⟩ := low_bit hx
  rw [e, sq_pow hk, z_clamp (by omega)]
  exact pk
theorem cmp0 {x : Int64} (h : ¬ lg_cmp x (0 : Int64) = 0) : ¬ x = 0 := fun q => h (by rw [q]; decide)
end
section
/-- the bits of x stand on men of the position that the moves object x0 works on -/
def OnMen (x0 : Nat) (x : Int64) (h : Hp) : Prop := ∀ p on s, hR h x0 4 = some p → hR h p 0 = some on → s < 64 → bitJ x s = true → 0 ≤ (hI h on s).toInt
section
variable {ρ : Nat → Nat} {c : Cm} {h h2 : Hp} {x0 a i : Nat} {x : Int64}
theorem om_e (e : h2 = h) (K : OnMen x0 x h) : OnMen x0 x h2 := e ▸ K
theorem om_j {v : Int64} (e : h2 = wJ h a i v) (K : OnMen x0 x h) : OnMen x0 x h2 := fun p on s h1 h3 hs hb => by
  rw [e] at h1 h3 ⊢
  exact K p on s h1 h3 hs hb
theorem om_w {v : Int32} (T : TH ρ c h) (r0 : ρ x0 = 6) (e : h2 = wI h a i v) (q : ρ a ≠ 34) (K : OnMen x0 x h) : OnMen x0 x h2 := fun p on s h1 h3 hs hb => by
  rw [e] at h1 h3 ⊢
  have hp : ρ p = 4 := thRn T r0 (i := 4) (k2 := 4) rfl (by decide) h1
  obtain ⟨r, e1, e2⟩ := thR T hp (i := 0) (k2 := 34) rfl (by decide)
  have h3' : hR h p 0 = some on := h3
  have ho : ρ on = 34 := by rw [e1] at h3'; rw [← Option.some.inj h3', e2]
  rw [r_I, if_neg (fun w => q (by rw [← w.1, ho]))]
  exact K p on s h1 h3 hs hb
theorem om_rest (hx : ¬ x = 0) (K : OnMen x0 x h) : OnMen x0 (x ^^^ (x &&& (-x))) h := fun p on s h1 h3 hs hb => K p on s h1 h3 hs (bj_rest hx hb)
theorem om_start {p of d : Nat} (T : TH ρ c h) (r0 : ρ x0 = 6) (h1 : hR h x0 4 = some p) (h3 : hR h p 1 = some of) (hd : d < 2) : OnMen x0 (hJ h of d) h := fun p' on s g1 g3 hs hb => by
  rw [h1] at g1
  have : p' = p := (Option.some.inj g1).symm
  subst this
  have hp : ρ p' = 4 := thRn T r0 (i := 4) (k2 := 4) rfl (by decide) h1
  exact (th_ps T hp g3 h3 hs hd hb).1
end
end
