/-! the class: what a move does to the men on squares -/
def cdV (m sd : Int) : Int := 1 + 2 * m + sd
def nwV (sd : Int) (v : MvT) : Int := cdV (if v.2.2.2.1 = -1 then v.2.2.1 else v.2.2.2.1) sd
def mdM (M : Nat → Int) (p0 : Nat) (cas sd : Int) (v : MvT) : Nat → Int := if v.2.2.2.2.2.1 = 2 then updM (updM M v.2.2.2.2.2.2.toNat 0) ((v.1 + v.2.1) / 2).toNat (cdV cas sd) else if v.2.2.2.2.2.1 = 1 then updM M p0 0 else M
/-- men behind a move, blast aside -/
def shM (M : Nat → Int) (p0 : Nat) (cas sd : Int) (v : MvT) : Nat → Int := if v.2.2.2.2.2.1 = 3 then updM M v.2.1.toNat (cdV v.2.2.1 sd) else updM (updM (mdM M p0 cas sd v) v.1.toNat 0) v.2.1.toNat (nwV sd v)
/-- squares that it touches -/
def shT (p0 : Nat) (v : MvT) (q : Nat) : Prop := q = v.2.1.toNat ∨ (¬ v.2.2.2.2.2.1 = 3 ∧ q = v.1.toNat) ∨ (v.2.2.2.2.2.1 = 1 ∧ q = p0) ∨ (v.2.2.2.2.2.1 = 2 ∧ (q = v.2.2.2.2.2.2.toNat ∨ q = ((v.1 + v.2.1) / 2).toNat))
theorem un_0 {M : Nat → Int} {ro : Int} {x : Nat} (U : UnM M ro) : UnM (updM M x 0) ro := fun r d s t hd hs ht a b => by
  by_cases c : s = x
  · rw [c, upm_s] at a
    omega
  · rw [upm_o c] at a
    by_cases c' : t = x
    · rw [c', upm_s] at b
      omega
    · rw [upm_o c'] at b
      exact U r d s t hd hs ht a b
/-- another man than the ROYAL one comes -/
theorem un_o {M : Nat → Int} {ro v : Int} {x : Nat} (U : UnM M ro) (n : ∀ d : Nat, d < 2 → ¬ v = 1 + 2 * ro + d) : UnM (updM M x v) ro := fun r d s t hd hs ht a b => by
  by_cases c : s = x
  · rw [c, upm_s] at a
    exact absurd a (n d hd)
  · rw [upm_o c] at a
    by_cases c' : t = x
    · rw [c', upm_s] at b
      exact absurd b (n d hd)
    · rw [upm_o c'] at b
      exact U r d s t hd hs ht a b
/-- the ROYAL man comes where no other is -/
theorem un_r {M : Nat → Int} {ro v : Int} {x : Nat} (U : UnM M ro) (n : ∀ (d s : Nat), d < 2 → s < 64 → v = 1 + 2 * ro + d → ¬ M s = v) : UnM (updM M x v) ro := fun r d s t hd hs ht a b => by
  by_cases c : s = x
  · rw [c, upm_s] at a
    by_cases c' : t = x
    · omega
    · rw [upm_o c'] at b
      exact absurd (b.trans a.symm) (n d t hd ht a)
  · rw [upm_o c] at a
    by_cases c' : t = x
    · rw [c', upm_s] at b
      exact absurd (a.trans b.symm) (n d s hd hs b)
    · rw [upm_o c'] at b
      exact U r d s t hd hs ht a b
def ShW (V : Nat → Nat) (h : Hp) (L : Nat → Nat → Int) (M : Nat → Int) (sd : Int) : Prop := hR h (V 6) 0 = some (V 2) ∧ VPc V h ∧ PosC h (V 34) (V 35) (V 36) M (L 10 0) ∧ UnM M (L 10 0) ∧ (hI h (V 2) 4).toInt = L 10 0 ∧ (hI h (V 2) 6).toInt = L 12 0 ∧ (hI h (V 4) 5).toInt = sd
section
variable {F : Nat} {V : Nat → Nat} {h o : Hp} {L : Nat → Nat → Int} {M : Nat → Int}
theorem put_s (D : VD V) {x1 x2 : Int32} {sd : Int} (W : ShW V h L M sd) (i1 : Rg 0 63 x1) (i2 : Rg (-1) 23 x2) (un' : UnM (updM M x1.toNatClampNeg (x2.toInt + 1)) (L 10 0)) (e : sX3_put h (V 4) x1 x2 (hI h (V 2) 4) = some o) : FrV V (wl wcM) h o ∧ ShW V o L (updM M x1.toNatClampNeg (x2.toInt + 1)) sd ∧ ∀ q, bitJ (hJ o (V 4) 7) q = (bitJ (hJ h (V 4) 7) q || decide (x1.toNatClampNeg = q)) := by
  obtain ⟨w0, pc, ps, un, r4, r6, s5⟩ := W
  rw [← r4] at ps un
  obtain ⟨q1, q2, q3, q4, q5⟩ := put_c pc.1 pc.2.1 pc.2.2.1 (vne D) (vne D) i1 i2 ps (Or.inr un) e
  have A : FrV V (wl wcM) h o := put_f (x1 := x1) (x2 := x1) (x3 := x1) q2 q3 q4
  rw [r4] at q1
  exact ⟨A, ⟨by rw [A.1]; exact w0, vpc_f pc A, q1, un', by rw [fvi D A 2 4]; exact r4, by rw [fvi D A 2 6]; exact r6, by rw [fvi D A 4 5]; exact s5⟩, q5⟩
theorem bec_v {x : Int32} {t s m b a k p : Int} {o : Int32 × Hp} (P : PkM x t s m b a k p) (e : sX5_becomes h x = some o) : o.2 = h ∧ o.1.toInt = (if b = 15 then -1 else b) := by
  have z15 : (15 : Int32).toInt = 15 := rfl
  have fa := (pk_fd P).2.2.2.1
  unfold sX5_becomes sX5_becomes_19 at e
  replace e := nx_e e
  rcases br_s e with ⟨c, e⟩ | ⟨c, e⟩
  · rw [so_e e]
    rw [c, z15] at fa
    rw [if_pos fa.symm]
    exact ⟨rfl, show (-1 : Int32).toInt = -1 by decide⟩
  · rw [so_e e]
    rw [if_neg (fun z => c (Int32.toInt_inj.mp (by rw [fa, z, z15])))]
    exact ⟨rfl, fa⟩
/-- he leaves his square and comes to the other -/
theorem shc_145 (D : VD V) {x2 x3 x4 x6 : Int32} {sd t s m b a k p : Int} (W : ShW V h L M sd) (P : PkM x2 t s m b a k p) (e3 : x3.toInt = s) (e4 : x4.toInt = t) (isd : sd = 0 ∨ sd = 1) (m11 : m ≤ 11) (b11 : b = 15 ∨ b ≤ 11) (e6 : x6.toInt = 2 * m + sd) (un' : UnM (updM (updM M s.toNat 0) t.toNat (cdV (if b = 15 then m else b) sd)) (L 10 0)) (e : sX5_shift_145 F h (V 6) (V 4) x2 x3 x4 x6 = some o) : FrV V (wl wcM) h o ∧ ShW V o L (updM (updM M s.toNat 0) t.toNat (cdV (if b = 15 then m else b) sd)) sd ∧ ∀ q, bitJ (hJ o (V 4) 7) q = (bitJ (hJ h (V 4) 7) q || (decide (s.toNat = q) || decide (t.toNat = q))) := by
  have z2 : (2 : Int32).toInt = 2 := rfl
  have zm : (-1 : Int32).toInt = -1 := by decide
  obtain ⟨⟨t0, t1⟩, ⟨s0, s1⟩, ⟨m0, m1⟩, ⟨b0, b1⟩, _⟩ := P.1
  have c3 : x3.toNatClampNeg = s.toNat := by have := nc_i (x := x3) (by omega); omega
  have c4 : x4.toNatClampNeg = t.toNat := by have := nc_i (x := x4) (by omega); omega
  unfold sX5_shift_145 sX5_shift_185 at e
  replace e := ce_e W.1 e
  replace e := cl_s e; obtain ⟨g, eg, e⟩ := e
  have n0 : (-1 : Int32).toInt + 1 = 0 := by rw [zm]; rfl
  obtain ⟨A, Wg, tg⟩ := put_s D W ⟨by omega, by omega⟩ ⟨by decide, by decide⟩ (by rw [n0]; exact un_0 W.2.2.2.1) eg
  rw [n0, c3] at Wg
  rw [c3] at tg
  have fin : ∀ {c : Int32} {v : Int}, c.toInt + 1 = v → -1 ≤ c.toInt → c.toInt ≤ 23 → UnM (updM (updM M s.toNat 0) t.toNat v) (L 10 0) → (cl (hR g (V 6) 0) fun r_1 => cl (sX3_put g (V 4) x4 c (hI g r_1 4)) fun o_2 => some o_2) = some o → FrV V (wl wcM) h o ∧ ShW V o L (updM (updM M s.toNat 0) t.toNat v) sd ∧ ∀ q, bitJ (hJ o (V 4) 7) q = (bitJ (hJ h (V 4) 7) q || (decide (s.toNat = q) || decide (t.toNat = q))) := fun {c v} hv l0 l1 un u => by
    replace u := ce_e Wg.1 u
    replace u := cl_s u; obtain ⟨g', eg', u⟩ := u
    rw [so_e u]
    obtain ⟨A', W', t'⟩ := put_s D Wg (x1 := x4) (x2 := c) ⟨by omega, by omega⟩ ⟨l0, l1⟩ (by rw [c4, hv]; exact un) eg'
    rw [c4, hv] at W'
    rw [c4] at t'
    exact ⟨fv_t A A', W', fun q => by rw [t', tg, Bool.or_assoc]⟩
  replace e := cl_s e; obtain ⟨o3, eo3, e⟩ := e
  obtain ⟨w3, v3⟩ := bec_v P eo3
  rw [w3] at e
  rcases br_s e with ⟨c, e⟩ | ⟨c, e⟩
  · have b15 : b = 15 := by
      rw [c, zm] at v3
      by_cases y : b = 15
      · exact y
      · rw [if_neg y] at v3; omega
    rw [if_pos b15] at un' ⊢
    exact fin (by unfold cdV; omega) (by omega) (by omega) un' e
  · have nb : ¬ b = 15 := fun y => by
      rw [if_pos y] at v3
      exact c (Int32.toInt_inj.mp (by rw [v3, zm]))
    rw [if_neg nb] at un' v3 ⊢
    replace e := cl_s e; obtain ⟨o5, eo5, e⟩ := e
    obtain ⟨w5, v5⟩ := bec_v P eo5
    rw [if_neg nb] at v5
    rw [w5] at e
    have t5 : ((2 : Int32) * o5.1).toInt = 2 * b := by rw [tm (by rw [z2, v5]; omega), z2, v5]
    have s5 := Wg.2.2.2.2.2.2
    have t6 : (((2 : Int32) * o5.1) + (hI g (V 4) 5)).toInt = 2 * b + sd := by rw [ta (by rw [t5, s5]; omega), t5, s5]
    exact fin (by unfold cdV; omega) (by omega) (by omega) un' e
end
