theorem bj_or (a b : Int64) (s : Nat) : bitJ (a ||| b) s = (bitJ a s || bitJ b s) := by
  unfold bitJ
  rw [Int64.toBitVec_or, BitVec.getLsbD_or]
theorem bj_and (a b : Int64) (s : Nat) : bitJ (a &&& b) s = (bitJ a s && bitJ b s) := by
  unfold bitJ
  rw [Int64.toBitVec_and, BitVec.getLsbD_and]
theorem bj_not (a : Int64) {s : Nat} (hs : s < 64) : bitJ (a ^^^ (-1 : Int64)) s = !bitJ a s := by
  unfold bitJ
  rw [Int64.toBitVec_xor, BitVec.getLsbD_xor, show (-1 : Int64).toBitVec = BitVec.allOnes 64 from by decide, BitVec.getLsbD_allOnes]
  simp [hs]
theorem bj_one {x : Int32} (i : Rg 0 63 x) (s : Nat) : bitJ ((1 : Int64) <<< (x.toInt64 &&& 63)) s = decide (x.toNatClampNeg = s) := by
  obtain ⟨j, ej, tj, hj⟩ := rg_nI i (Int.le_refl 0)
  have j64 : j < 64 := by have := i.2; omega
  have all : ∀ j : Fin 64, ((1 : Int64) <<< ((nI j.val).toInt64 &&& 63)).toBitVec = BitVec.twoPow 64 j.val := by decide +kernel
  unfold bitJ
  rw [ej, all ⟨j, j64⟩, BitVec.getLsbD_twoPow, z_clamp hj]
  simp [j64]
theorem and1 {x : Int32} (i : Rg 0 23 x) : (x &&& (1 : Int32)).toNatClampNeg = (x.toInt % 2).toNat ∧ (x &&& (1 : Int32)).toNatClampNeg < 2 ∧ (((x &&& (1 : Int32)).toNatClampNeg : Nat) : Int) = x.toInt % 2 := by
  obtain ⟨j, ej, tj, hj⟩ := rg_nI i (Int.le_refl 0)
  have j24 : j < 24 := by have := i.2; omega
  have all : ∀ j : Fin 24, (nI j.val &&& (1 : Int32)) = nI (j.val % 2) := by decide +kernel
  rw [tj, ej, all ⟨j, j24⟩, z_clamp (by show j % 2 < 2 ^ 31; omega)]
  show j % 2 = ((j : Int) % 2).toNat ∧ j % 2 < 2 ∧ ((j % 2 : Nat) : Int) = (j : Int) % 2
  omega
section
variable {ρ : Nat → Nat} {c : Cm} {h : Hp}
theorem th_wOf0 (T : TH0 ρ c h) {p of d : Nat} {v : Int64} (hp : ρ p = 4) (hf : hR h p 1 = some of) (hb : ∀ s, s < 64 → bitJ v s = true → ∀ on, hR h p 0 = some on → 0 ≤ (hI h on s).toInt ∧ (hI h on s).toInt % 2 = (d : Int) ∧ SqN (c.2.1 50) s) : TH0 ρ c (wJ h of d v) := by
  obtain ⟨t1, t2, t3, t4, t5, t6, t7, t8, t9⟩ := T
  refine ⟨t1, t2, t3, t4, t5, t6, ⟨t7.1, ?_⟩, t8, t9⟩
  intro q on of' hq ho hf' s hs d' hd hx
  rw [r_J] at hx
  by_cases w : of' = of ∧ d' = d
  · rw [if_pos w] at hx
    have hf2 : hR h q 1 = some of := by rw [← w.1]; exact hf'
    have : q = p := t7.1 q p 1 of (by decide) hq hp hf2 hf
    subst this
    rw [w.2]
    exact hb s hs hx on ho
  · rw [if_neg w] at hx
    exact t7.2 q on of' hq ho hf' s hs d' hd hx
theorem th_wOn0 (T : TH0 ρ c h) {p on s : Nat} {v : Int32} (hp : ρ p = 4) (ho : hR h p 0 = some on) (hv : Rg (-2) 23 v) (hb : ∀ of, hR h p 1 = some of → ∀ d, d < 2 → bitJ (hJ h of d) s = true → 0 ≤ v.toInt ∧ v.toInt % 2 = (d : Int) ∧ SqN (c.2.1 50) s) : TH0 ρ c (wI h on s v) := by
  obtain ⟨t1, t2, t3, t4, t5, t6, t7, t8, t9⟩ := T
  have h1 : ρ on = 34 := by
    obtain ⟨r, e1, e2⟩ := t3 p 0 (by rw [hp]; decide)
    rw [e1] at ho
    rw [← Option.some.inj ho, e2, hp]; rfl
  refine ⟨t1, ?_, t3, t4, t5, ?_, ⟨t7.1, ?_⟩, t8, t9⟩
  · intro b j
    rw [r_I]
    by_cases q : b = on ∧ j = s
    · rw [if_pos q, q.1, h1]; exact ⟨hv, rp0 rfl⟩
    · rw [if_neg q]; exact t2 b j
  · intro t tb ht hr
    rw [r_I, if_neg (ne_r ht h1 (by decide))]
    exact t6 t tb ht hr
  · intro q on' of hq ho' hf s' hs d hd hx
    rw [r_I]
    by_cases w : on' = on ∧ s' = s
    · rw [if_pos w]
      have ho2 : hR h q 0 = some on := by rw [← w.1]; exact ho'
      have : q = p := t7.1 q p 0 on (by decide) hq hp ho2 ho
      subst this
      rw [w.2] at hx ⊢
      exact hb of hf d hd hx
    · rw [if_neg w]
      exact t7.2 q on' of hq ho' hf s' hs d hd hx
theorem th_of (T : TH ρ c h) {p of : Nat} (hp : ρ p = 4) (hf : hR h p 1 = some of) : ρ of = 35 := by
  obtain ⟨r, e1, e2⟩ := thR T hp (i := 1) (k2 := 35) rfl (by decide)
  rw [e1] at hf
  rw [← Option.some.inj hf, e2]
theorem th_on (T : TH ρ c h) {p of : Nat} (hp : ρ p = 4) (hf : hR h p 0 = some of) : ρ of = 34 := by
  obtain ⟨r, e1, e2⟩ := thR T hp (i := 0) (k2 := 34) rfl (by decide)
  rw [e1] at hf
  rw [← Option.some.inj hf, e2]
theorem th_wOf (T : TH ρ c h) {p of d : Nat} {v : Int64} (hp : ρ p = 4) (hf : hR h p 1 = some of) (hb : ∀ s, s < 64 → bitJ v s = true → ∀ on, hR h p 0 = some on → 0 ≤ (hI h on s).toInt ∧ (hI h on s).toInt % 2 = (d : Int) ∧ SqN (c.2.1 50) s) (hw : cPm c 35 (cw c p) d = true) : TH ρ c (wJ h of d v) := ⟨th_wOf0 T.1 hp hf hb, T.2.1, fr_wJ T.2.2 (th_of T hp hf) (by rw [th_ih T hp rfl hf rfl]; exact hw)⟩
theorem th_wOn (T : TH ρ c h) {p on s : Nat} {v : Int32} (hp : ρ p = 4) (ho : hR h p 0 = some on) (hv : Rg (-2) 23 v) (hb : ∀ of, hR h p 1 = some of → ∀ d, d < 2 → bitJ (hJ h of d) s = true → 0 ≤ v.toInt ∧ v.toInt % 2 = (d : Int) ∧ SqN (c.2.1 50) s) (hw : cPm c 34 (cw c p) s = true) : TH ρ c (wI h on s v) := ⟨th_wOn0 T.1 hp ho hv hb, T.2.1, fr_wI T.2.2 (th_on T hp ho) (by rw [th_ih T hp rfl ho rfl]; exact hw)⟩
theorem th_ps (T : TH ρ c h) {p on of s d : Nat} (hp : ρ p = 4) (ho : hR h p 0 = some on) (hf : hR h p 1 = some of) (hs : s < 64) (hd : d < 2) (hb : bitJ (hJ h of d) s = true) : 0 ≤ (hI h on s).toInt ∧ (hI h on s).toInt % 2 = (d : Int) ∧ SqN (c.2.1 50) s := by
  obtain ⟨t1, t2, t3, t4, t5, t6, t7, t8, t9⟩ := T.1
  exact t7.2 p on of hp ho hf s hs d hd hb
theorem put70 {x0 on of ro : Nat} {x1 x2 x3 : Int32} (hO : pmO c (cw c x0) [(34, 999), (35, 999), (36, 999), (4, 7)]) (T : TH ρ c h) (r0 : ρ x0 = 4) (ho : hR h x0 0 = some on) (qo : ρ on = 34) (hf : hR h x0 1 = some of) (qf : ρ of = 35) (hr : hR h x0 2 = some ro) (qr : ρ ro = 36) (i1 : Rg 0 63 x1) (i2 : Rg (-2) 23 x2) (sq : 0 ≤ x2.toInt → SqB (c.2.1 50) x1) (nb : ∀ d, d < 2 → bitJ (hJ h of d) x1.toNatClampNeg = false) : Sat (sX3_put_70 h x0 x1 x2 x3 ((1 : Int64) <<< (x1.toInt64 &&& 63))) (ZV ρ c) := by
  unfold sX3_put_70 sX3_put_111
  have x64 : x1.toNatClampNeg < 64 := by have := rg_clamp (n := 63) i1 (by decide); omega
  refine s_ref ho ?_
  refine s_gd (by rw [thN T qo (k := 34) (n := 64) rfl (by decide)]; exact rg_inB i1 (by decide)) ?_
  have ev : (vp_nar .byte x2.toInt8.toInt32) = x2 := by
    have h1 : (vp_nar .byte x2.toInt8.toInt32).toInt = x2.toInt := by
      show x2.toInt8.toInt32.toInt8.toInt32.toInt = x2.toInt
      have a1 := i2.1
      have a2 := i2.2
      have e8 : (2 ^ 8 : Nat) = 256 := by decide
      have b1 : x2.toInt8.toInt32.toInt = x2.toInt := by
        rw [Int8.toInt_toInt32, Int32.toInt_toInt8, e8]
        exact Int.bmod_eq_of_le_mul_two (by omega) (by omega)
      rw [Int8.toInt_toInt32, Int32.toInt_toInt8, b1, e8]
      exact Int.bmod_eq_of_le_mul_two (by omega) (by omega)
    exact Int32.toInt_inj.mp h1
  rw [ev]
  refine s_hq (th_wOn T r0 ho i2 (fun of' hf' d hd hb => ?_) (hO _ _ rfl)) (fun h3 T3 e3 => ?_)
  · have : of' = of := by rw [hf] at hf'; exact (Option.some.inj hf').symm
    rw [this, nb d hd] at hb
    exact absurd hb (by decide)
  refine s_br (fun c1 => ?_) (fun c1 => ?_)
  · exact s_h (th_wJ T3 r0 (by decide) (pm_o hO rfl rfl)) (fun h1 T1 => s_some T1)
  · have i2' : Rg 0 23 x2 := by
      rw [Int32.lt_iff_toInt_lt, show (0 : Int32).toInt = 0 from rfl] at c1
      exact ⟨by omega, i2.2⟩
    obtain ⟨a1, a2, a3⟩ := and1 i2'
    have ia : Rg 0 1 (x2 &&& (1 : Int32)) := rg_and (c := 1) (d := 1) (rg_b rfl) (by decide)
    have hf3 := hr_w e3 hf
    refine s_ref hf3 ?_
    have gb : inB (x2 &&& (1 : Int32)) (hN h3 of) := by rw [thN T3 qf (k := 35) (n := 2) rfl (by decide)]; exact rg_inB ia (by decide)
    refine s_gd gb (s_gd gb ?_)
    refine s_hq (th_wOf T3 r0 hf3 (fun s hs hb on' ho' => ?_) (hO _ _ rfl)) (fun h8 T8 e8 => ?_)
    · have : on' = on := by rw [hr_w e3 ho] at ho'; exact (Option.some.inj ho').symm
      subst this
      rw [bj_or] at hb
      by_cases w : x1.toNatClampNeg = s
      · subst w
        rw [e3, r_I, if_pos ⟨rfl, rfl⟩]
        exact ⟨i2'.1, a3.symm, sq_b (sq i2'.1) i1.1⟩
      · rw [bj_one i1, decide_eq_false w, Bool.or_false] at hb
        exact th_ps T3 r0 (hr_w e3 ho) hf3 hs a2 hb
    · refine s_br (fun c2 => ?_) (fun c2 => ?_)
      · refine s_ref (hr_j e8 (hr_w e3 hr)) ?_
        refine s_gd (by rw [thN T8 qr (k := 36) (n := 2) rfl (by decide)]; exact rg_inB ia (by decide)) ?_
        refine s_h (th_wI T8 qr (k := 36) (lo := -1) (hi := 63) rfl (rg_m i1 (by decide)) (by decide) (by decide) (pm_o hO (th_ih T r0 rfl hr rfl) rfl)) (fun h12 T12 => ?_)
        exact s_h (th_wJ T12 r0 (by decide) (pm_o hO rfl rfl)) (fun h1 T1 => s_some T1)
      · exact s_h (th_wJ T8 r0 (by decide) (pm_o hO rfl rfl)) (fun h1 T1 => s_some T1)
theorem zX3_put {F : Nat} (hF : 700000 ≤ F) {x0 : Nat} {x1 x2 x3 : Int32} (hO : pmO c (cw c x0) [(34, 999), (35, 999), (36, 999), (4, 7)]) (T : TH ρ c h) (r0 : ρ x0 = 4) (i1 : Rg (-2147483648) 2147483647 x1) (i2 : Rg (-2) 23 x2) (i3 : Rg (-2147483648) 2147483647 x3) (sq : 0 ≤ x2.toInt → SqB (c.2.1 50) x1) : Sat (sX3_put h x0 x1 x2 x3) (ZV ρ c) := by
  unfold sX3_put sX3_put_10
  refine s_br (fun c1 => s_some T) (fun c1 => ?_)
  refine s_br (fun c2 => ?_) (fun c2 => s_some T)
  have ix : Rg 0 63 x1 := by
    rw [Int32.lt_iff_toInt_lt, show (0 : Int32).toInt = 0 from rfl] at c1
    rw [Int32.lt_iff_toInt_lt, show (64 : Int32).toInt = 64 from rfl] at c2
    exact ⟨by omega, by omega⟩
  have x64 : x1.toNatClampNeg < 64 := by have := rg_clamp (n := 63) ix (by decide); omega
  obtain ⟨on, ho, qo⟩ := thR T r0 (i := 0) (k2 := 34) rfl (by decide)
  obtain ⟨of, hf, qf⟩ := thR T r0 (i := 1) (k2 := 35) rfl (by decide)
  obtain ⟨ro, hr, qr⟩ := thR T r0 (i := 2) (k2 := 36) rfl (by decide)
  refine s_nm ?_
  refine s_ref ho ?_
  refine s_gd (by rw [thN T qo (k := 34) (n := 64) rfl (by decide)]; exact rg_inB ix (by decide)) ?_
  refine s_q (fun v6 e6 => ?_)
  have i6 : Rg (-2) 23 v6 := by rw [e6]; exact thI T qo (k := 34) rfl
  refine s_br (fun c3 => ?_) (fun c3 => ?_)
  · refine put70 hO T r0 ho qo hf qf hr qr ix i2 sq (fun d hd => ?_)
    cases q : bitJ (hJ h of d) x1.toNatClampNeg with
    | false => rfl
    | true =>
      have := (th_ps T r0 ho hf x64 hd q).1
      rw [← e6] at this
      rw [Int32.lt_iff_toInt_lt, show (0 : Int32).toInt = 0 from rfl] at c3
      omega
  · have i6' : Rg 0 23 v6 := by
      rw [Int32.lt_iff_toInt_lt, show (0 : Int32).toInt = 0 from rfl] at c3
      exact ⟨by omega, i6.2⟩
    obtain ⟨a1, a2, a3⟩ := and1 i6'
    have ia : Rg 0 1 (v6 &&& (1 : Int32)) := rg_and (c := 1) (d := 1) (rg_b rfl) (by decide)
    refine s_ref hf ?_
    have gb : inB (v6 &&& (1 : Int32)) (hN h of) := by rw [thN T qf (k := 35) (n := 2) rfl (by decide)]; exact rg_inB ia (by decide)
    refine s_gd gb (s_gd gb ?_)
    refine s_hq (th_wOf T r0 hf (fun s hs hb on' ho' => ?_) (hO _ _ rfl)) (fun h11 T11 e11 => ?_)
    · rw [bj_and, Bool.and_eq_true] at hb
      exact th_ps T r0 ho' hf hs a2 hb.1
    · have nb : ∀ d, d < 2 → bitJ (hJ h11 of d) x1.toNatClampNeg = false := fun d hd => by
        rw [e11, r_J]
        by_cases w : d = (v6 &&& (1 : Int32)).toNatClampNeg
        · rw [if_pos ⟨rfl, w⟩, bj_and, bj_not _ x64, bj_one ix]
          simp
        · rw [if_neg (fun q => w q.2)]
          cases q : bitJ (hJ h of d) x1.toNatClampNeg with
          | false => rfl
          | true =>
            have := (th_ps T r0 ho hf x64 hd q).2.1
            rw [← e6] at this
            omega
      have ho1 := hr_j e11 ho
      have hf1 := hr_j e11 hf
      have hr1 := hr_j e11 hr
      refine s_ref hr1 ?_
      have gr : inB (v6 &&& (1 : Int32)) (hN h11 ro) := by rw [thN T11 qr (k := 36) (n := 2) rfl (by decide)]; exact rg_inB ia (by decide)
      refine s_gd gr ?_
      refine s_br (fun c4 => ?_) (fun c4 => ?_)
      · refine s_ref hr1 (s_gd gr ?_)
        refine s_hq (th_wI T11 qr (k := 36) (lo := -1) (hi := 63) rfl (rg_b rfl) (by decide) (by decide) (pm_o hO (th_ih T r0 rfl hr rfl) rfl)) (fun h17 T17 e17 => ?_)
        exact put70 hO T17 r0 (hr_w e17 ho1) qo (hr_w e17 hf1) qf (hr_w e17 hr1) qr ix i2 sq (fun d hd => by rw [e17]; exact nb d hd)
      · exact put70 hO T11 r0 ho1 qo hf1 qf hr1 qr ix i2 sq nb
end
