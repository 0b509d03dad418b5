section
/-! a step -/
def cns (x : Int32) : Bool := !(decide (x &&& (3 : Int32) = 3)) && !(decide (x &&& (24 : Int32) = 24))
def fit (x f : Int32) : Bool := decide (x &&& (if f = 1 ∨ f = 2 then (3 : Int32) else if f = 8 ∨ f = 16 then (24 : Int32) else f) = 0)
def rfit (x f : Int32) : Bool := decide (x &&& f = 0) && (decide ((x ||| f) &&& (1 : Int32) = 0) || decide ((x ||| f) &&& (2 : Int32) = 0)) && (decide ((x ||| f) &&& (8 : Int32) = 0) || decide ((x ||| f) &&& (16 : Int32) = 0))
theorem cns_a : ∀ y : Fin 64, ∀ f, f ∈ [(1 : Int32), 2, 4, 8, 16, 32] → cns (nI y.val) = true → fit (nI y.val) f = rfit (nI y.val) f ∧ (fit (nI y.val) f = true → cns ((nI y.val) ||| f) = true ∧ bc ((nI y.val) ||| f) 6 = bc (nI y.val) 6 + 1 ∧ rgb 0 63 ((nI y.val) ||| f) = true) := by decide +kernel
theorem cns_b : ∀ y : Fin 64, cns (nI y.val) = true → bc (nI y.val) 6 ≤ 4 := by decide +kernel
section
variable {T : Nat → Int} {N : Int} {F : Nat} {Z : Nat → Nat} {x2 : Int32} {hc hr oc or hc1 : Hp} {x man mine xi at_ : Int32} {o o' : Int32 × Hp} {i : Nat}
theorem fits_q {x f : Int32} (e : sX2_fits hc x f = some o) : o.2 = hc ∧ (o.1 = 0 ↔ fit x f = false) := by
  unfold sX2_fits sX2_fits_12 sX2_fits_29 sX2_fits_32 sX2_fits_43 at e
  have last : ∀ {a : Int32}, (if f = 1 ∨ f = 2 then (3 : Int32) else if f = 8 ∨ f = 16 then (24 : Int32) else f) = a → br ((x &&& a) = 0) (gd ((1 : Int32) &&& 1 = (1 : Int32)) <| some ((1 : Int32), hc)) (gd ((0 : Int32) &&& 1 = (0 : Int32)) <| some ((0 : Int32), hc)) = some o → o.2 = hc ∧ (o.1 = 0 ↔ fit x f = false) := fun {a} ha e => by
    unfold fit
    rw [ha]
    replace e := br_s e
    rcases e with ⟨b, e⟩ | ⟨b, e⟩
    · rw [← Option.some.inj (gd_s e).2, decide_eq_true b]
      exact ⟨rfl, ⟨fun z => absurd z i1n0, fun z => absurd z (by decide)⟩⟩
    · rw [← Option.some.inj (gd_s e).2, decide_eq_false b]
      exact ⟨rfl, ⟨fun _ => rfl, fun _ => rfl⟩⟩
  replace e := br_s e
  rcases e with ⟨b1, e⟩ | ⟨b1, e⟩
  · exact last (if_pos (Or.inl b1)) e
  replace e := br_s e
  rcases e with ⟨b2, e⟩ | ⟨b2, e⟩
  · exact last (if_pos (Or.inr b2)) e
  have n12 : ¬ (f = 1 ∨ f = 2) := fun z => z.elim b1 b2
  replace e := br_s e
  rcases e with ⟨b3, e⟩ | ⟨b3, e⟩
  · exact last ((if_neg n12).trans (if_pos (Or.inl b3))) e
  replace e := br_s e
  rcases e with ⟨b4, e⟩ | ⟨b4, e⟩
  · exact last ((if_neg n12).trans (if_pos (Or.inr b4))) e
  exact last ((if_neg n12).trans (if_neg (fun z => z.elim b3 b4))) e
/-- a word that may be there, and a number behind it -/
theorem tt_r (n12 : N ≤ 1200) (dg : ∀ j : Nat, (j : Int) < N → 0 ≤ T j ∧ T j ≤ 255) (D : ZD Z) (n2 : x2.toInt = N) {w w' : Nat} (hw : lB w = lB w') (sm : (lB w).length < 2147483648) {lo hi dfl : Int32} (lo1 : 1 ≤ lo.toInt) (P : PS T N Z hc hr) (e : sX2_takeTail F hc (Z 3) w lo hi dfl = some o) {q : Int32 × Hp} (eq : sX15_isWord F hr (Z 16) (Z 82) w' = some q) : q.2 = hr ∧ ((q.1 = 0 ∧ o = (dfl, hc)) ∨ (¬ q.1 = 0 ∧ ∀ {h3 : Hp}, sX15_nextToken F hr (Z 16) (Z 82) x2 = some h3 → ∀ {q4 : Int32 × Hp}, sX15_isNumber h3 (Z 16) lo hi = some q4 → q4.2 = h3 ∧ ((q4.1 = 0 ∧ o.1 = (-1 : Int32) ∧ Fl2 Z o.2 h3) ∨ (¬ q4.1 = 0 ∧ ¬ o.1 = (-1 : Int32) ∧ (o.1 = hI h3 (Z 16) 9 ∧ Rg lo.toInt hi.toInt o.1) ∧ ∃ hm : Hp, PS T N Z hm h3 ∧ sX2_advance F hm (Z 3) = some o.2)))) := by
  unfold sX2_takeTail at e
  replace e := cl_s e
  obtain ⟨o1, e1, e⟩ := e
  obtain ⟨q1, q2, q3⟩ := iw_r n12 P.2.2.1 P.2.2.2.1 P.2.2.2.2.1 hw sm e1 eq
  rw [q1] at e
  refine ⟨q2, ?_⟩
  replace e := br_s e
  rcases e with ⟨b, e⟩ | ⟨b, e⟩
  · exact Or.inl ⟨by rw [← q3]; exact b, (Option.some.inj e).symm⟩
  refine Or.inr ⟨by rw [← q3]; exact b, fun {h3} e3 {q4} e4 => ?_⟩
  replace e := cl_s e
  obtain ⟨o3, ea, e⟩ := e
  have PB0 := ps_b P
  have P3 := ps_a n12 dg D n2 PB0.1 PB0.2 ea e3
  replace e := cl_s e
  obtain ⟨o4, e4', e⟩ := e
  obtain ⟨t1, t2, t3, t4⟩ := in_r P3.2.2.2.2.1 e4' e4
  rw [t1] at e
  refine ⟨t2, ?_⟩
  replace e := br_s e
  rcases e with ⟨c, e⟩ | ⟨c, e⟩
  · rw [← Option.some.inj e]
    exact Or.inl ⟨by rw [← t3]; exact c, rfl, ps_fl P3⟩
  obtain ⟨u1, u2, u3⟩ := t4 c
  replace e := nm_s e
  obtain ⟨v6, w6, e⟩ := e
  replace e := cl_s e
  obtain ⟨o7, e7, e⟩ := e
  rw [← Option.some.inj e]
  refine Or.inr ⟨by rw [← t3]; exact c, fun z => ?_, ⟨by rw [← u1]; exact w6, by show lo.toInt ≤ v6.toInt; rw [w6]; exact u2, by show v6.toInt ≤ hi.toInt; rw [w6]; exact u3⟩, o3, P3, e7⟩
  have : v6.toInt = -1 := by have z : v6 = -1 := z; rw [z]; rfl
  rw [w6] at this
  omega
end
theorem en_1 {f a b : Int32} (i : Rg 0 63 f) (ia : Rg (-7) 7 a) (ib : Rg (-7) 7 b) : (f ||| (((a + (8 : Int32)) <<< ((6 : Int32) &&& 31)) ||| ((b + (8 : Int32)) <<< ((10 : Int32) &&& 31)))).toInt = f.toInt + 64 * (a.toInt + 8) + 1024 * (b.toInt + 8) := by
  have z8 : (8 : Int32).toInt = 8 := rfl
  have p6 : ((2 ^ 6 : Nat) : Int) = 64 := rfl
  have p10 : ((2 ^ 10 : Nat) : Int) = 1024 := rfl
  have i0 := i.1
  have i1 := i.2
  have a0 := ia.1
  have a1 := ia.2
  have b0 := ib.1
  have b1 := ib.2
  have ta' : (a + (8 : Int32)).toInt = a.toInt + 8 := by rw [ta (by rw [z8]; omega), z8]
  have tb' : (b + (8 : Int32)).toInt = b.toInt + 8 := by rw [ta (by rw [z8]; omega), z8]
  have s6 : ((a + (8 : Int32)) <<< ((6 : Int32) &&& 31)).toInt = (a.toInt + 8) * 64 := by rw [shl_i (m := 6) rfl (by rw [ta']; omega) (by rw [ta', p6]; omega), ta', p6]
  have s10 : ((b + (8 : Int32)) <<< ((10 : Int32) &&& 31)).toInt = (b.toInt + 8) * 1024 := by rw [shl_i (m := 10) rfl (by rw [tb']; omega) (by rw [tb', p10]; omega), tb', p10]
  have o1 := or_i (x := (a + (8 : Int32)) <<< ((6 : Int32) &&& 31)) (y := (b + (8 : Int32)) <<< ((10 : Int32) &&& 31)) (m := 10) (z := b.toInt + 8) (by rw [s6]; omega) (by rw [s6, p10]; omega) (by omega) (by rw [s10, p10]) (by rw [s6, s10]; omega)
  rw [s6, s10] at o1
  rw [or_i (m := 6) (z := (a.toInt + 8) + 16 * (b.toInt + 8)) i0 (by rw [p6]; omega) (by omega) (by rw [o1, p6]; omega) (by rw [o1]; omega), o1]
  omega
theorem en_2 {w r s : Int32} (i : Rg 0 16383 w) (ir : Rg 1 7 r) (is : Rg 0 8 s) : ((w ||| (r <<< ((14 : Int32) &&& 31))) ||| (s <<< ((17 : Int32) &&& 31))).toInt = w.toInt + 16384 * r.toInt + 131072 * s.toInt := by
  have p14 : ((2 ^ 14 : Nat) : Int) = 16384 := rfl
  have p17 : ((2 ^ 17 : Nat) : Int) = 131072 := rfl
  have i0 := i.1
  have i1 := i.2
  have r0 := ir.1
  have r1 := ir.2
  have s0 := is.1
  have s1 := is.2
  have e14 : (r <<< ((14 : Int32) &&& 31)).toInt = r.toInt * 16384 := by rw [shl_i (m := 14) rfl (by omega) (by rw [p14]; omega), p14]
  have e17 : (s <<< ((17 : Int32) &&& 31)).toInt = s.toInt * 131072 := by rw [shl_i (m := 17) rfl s0 (by rw [p17]; omega), p17]
  have o1 := or_i (x := w) (y := r <<< ((14 : Int32) &&& 31)) (m := 14) (z := r.toInt) i0 (by rw [p14]; omega) (by omega) (by rw [e14, p14]) (by rw [e14]; omega)
  rw [e14] at o1
  rw [or_i (m := 17) (z := s.toInt) (by rw [o1]; omega) (by rw [o1, p17]; omega) s0 (by rw [e17, p17]) (by rw [o1, e17]; omega), o1, e17]
  omega
/-- what is known of the step that is being told -/
def StC (Z : Nat → Nat) (m : Nat) (x1 xk pt : Int32) : Prop := Z 997 = m + 1 ∧ Z 996 < 8 ∧ (Rg 0 11 x1 ∧ x1.toNatClampNeg = m) ∧ xk.toInt = ((Z 996 : Nat) : Int) ∧ pt.toNatClampNeg = 8 * m + Z 996
/-- the reference's five numbers of it -/
def V5 (Z : Nat → Nat) (h : Hp) (p : Nat) (f a b r s : Int32) : Prop := hI h (Z 75) p = f ∧ hI h (Z 76) p = a ∧ hI h (Z 77) p = b ∧ hI h (Z 78) p = r ∧ hI h (Z 79) p = s
/-- it is told: both have it -/
def Dn (Z : Nat → Nat) (m : Nat) (xk pt : Int32) (o o' : Int32 × Hp) : Prop := ¬ o.1 = 0 → SXs Z o.2 o'.2 pt.toNatClampNeg ∧ hI o.2 (Z 29) m = xk + (1 : Int32)
theorem dn_0 {Z : Nat → Nat} {m : Nat} {xk pt : Int32} {h : Hp} {o' : Int32 × Hp} : Dn Z m xk pt ((0 : Int32), h) o' := fun z => absurd rfl z
/-- the row of how many steps stays -/
def Q74 (Z : Nat → Nat) (hr h : Hp) : Prop := (∀ q, hI h (Z 74) q = hI hr (Z 74) q) ∧ hI h (Z 15) 2 = hI hr (Z 15) 2
section
variable {T : Nat → Int} {N : Int} {F : Nat} {Z : Nat → Nat} {x2 : Int32} {hc hr oc or hc1 : Hp} {x man mine xi pt : Int32} {o o' : Int32 × Hp} {i : Nat} {x1 xk x3 x4 x5 v1 : Int32}
theorem q74_n (n12 : N ≤ 1200) (dg : ∀ j : Nat, (j : Int) < N → 0 ≤ T j ∧ T j ≤ 255) (D : ZD Z) (n2 : x2.toInt = N) (P : PS T N Z hc hr) {h : Hp} (e : sX15_nextToken F hr (Z 16) (Z 82) x2 = some h) : Q74 Z hr h := by
  have K := (nt_k (by omega) dg (zne D) P.2.2.2.1 n2 (by rw [← (ps_b P).2.1]; exact (ps_b P).2.2.1) (by rw [← (ps_b P).2.1]; exact (ps_b P).2.2.2) e).1
  exact ⟨fun q => K.2 _ _ (fun z => zn D z.1), K.2 _ _ (fun z => zn D z.1)⟩
theorem q74_w (D : ZD Z) {k j : Nat} {v : Int32} (hk : k ∈ zl) (n : ¬ 74 = k ∧ ¬ 15 = k) : Q74 Z hr (wI hr (Z k) j v) := ⟨fun _ => rI_a (zne D n.1 (by decide) hk), rI_a (zne D n.2 (by decide) hk)⟩
theorem q74_0 : Q74 Z hr hr := ⟨fun _ => rfl, rfl⟩
theorem q74_t {h1 h2 : Hp} (a : Q74 Z hr h1) (b : Q74 Z h1 h2) : Q74 Z hr h2 := ⟨fun q => (b.1 q).trans (a.1 q), b.2.trans a.2⟩
theorem v5_n (n12 : N ≤ 1200) (dg : ∀ j : Nat, (j : Int) < N → 0 ≤ T j ∧ T j ≤ 255) (D : ZD Z) (n2 : x2.toInt = N) (P : PS T N Z hc hr) {h : Hp} (e : sX15_nextToken F hr (Z 16) (Z 82) x2 = some h) {p : Nat} {f a b r s : Int32} (V : V5 Z hr p f a b r s) : V5 Z h p f a b r s := by
  have K := (nt_k (by omega) dg (zne D) P.2.2.2.1 n2 (by rw [← (ps_b P).2.1]; exact (ps_b P).2.2.1) (by rw [← (ps_b P).2.1]; exact (ps_b P).2.2.2) e).1
  obtain ⟨a1, a2, a3, a4, a5⟩ := V
  exact ⟨by rw [K.2 _ _ (fun z => zn D z.1)]; exact a1, by rw [K.2 _ _ (fun z => zn D z.1)]; exact a2, by rw [K.2 _ _ (fun z => zn D z.1)]; exact a3, by rw [K.2 _ _ (fun z => zn D z.1)]; exact a4, by rw [K.2 _ _ (fun z => zn D z.1)]; exact a5⟩
/-- the step is noted -/
theorem sp_168 (D : ZD Z) {m : Nat} (C : StC Z m x1 xk pt) {t0 f a b : Int32} (i5 : Rg 1 7 x5) (i0 : Rg 0 8 t0) (iv : (Rg 0 63 f ∧ Rg (-7) 7 a ∧ Rg (-7) 7 b) ∧ v1.toInt = f.toInt + 64 * (a.toInt + 8) + 1024 * (b.toInt + 8)) (V : V5 Z hr pt.toNatClampNeg f a b x5 t0) (P : PS T N Z hc hr) (e : sX2_takeStep_168 F hc (Z 3) x1 xk v1 x5 t0 = some o) : ¬ o.1 = 0 ∧ PS T N Z o.2 hr ∧ SXs Z o.2 hr pt.toNatClampNeg ∧ hI o.2 (Z 29) m = xk + (1 : Int32) := by
  have z8 : (8 : Int32).toInt = 8 := rfl
  have zm : (-1 : Int32).toInt = -1 := rfl
  obtain ⟨gz, g8, ⟨ix, ixm⟩, ik, ip⟩ := C
  have ix0 := ix.1
  have ix1 := ix.2
  have i50 := i5.1
  have i00 := i0.1
  have n5 : ¬ x5 = (-1 : Int32) := fun z => by rw [z, zm] at i50; omega
  have nt : ¬ t0 = (-1 : Int32) := fun z => by rw [z, zm] at i00; omega
  have nx := nc_i ix0
  have m8 : (x1 * (8 : Int32)).toInt = x1.toInt * 8 := by rw [tm (by rw [z8]; omega), z8]
  have ad : ((x1 * (8 : Int32)) + xk).toInt = x1.toInt * 8 + xk.toInt := by rw [ta (by rw [m8]; omega), m8]
  have na := nc_i (x := (x1 * (8 : Int32)) + xk) (by rw [ad]; omega)
  have pe : ((x1 * (8 : Int32)) + xk).toNatClampNeg = 8 * m + Z 996 := by rw [ad] at na; omega
  unfold sX2_takeStep_168 at e
  replace e := br_s e
  rcases e with ⟨b, _⟩ | ⟨_, e⟩
  · exact absurd b n5
  replace e := br_s e
  rcases e with ⟨b, _⟩ | ⟨_, e⟩
  · exact absurd b nt
  replace e := cl_s e
  obtain ⟨r3, e3, e⟩ := e
  rw [r_eq P.1.2.1 e3] at e
  replace e := cl_s e
  obtain ⟨r4, e4, e⟩ := e
  rw [r_eq P.1.2.2.2.2.1 e4] at e
  replace e := (gd_s e).2
  replace e := nm_s e
  obtain ⟨h6, w6, e⟩ := e
  rw [pe] at w6
  have P6 : PS T N Z h6 hr := by rw [w6]; exact ps_wc D gz (Or.inl ⟨rfl, rfl⟩) g8 P
  replace e := cl_s e
  obtain ⟨r7, e7, e⟩ := e
  rw [r_eq P6.1.2.1 e7] at e
  replace e := cl_s e
  obtain ⟨r8, e8, e⟩ := e
  rw [r_eq P6.1.2.2.2.2.2.1 e8] at e
  replace e := (gd_s e).2
  replace e := nm_s e
  obtain ⟨h10, w10, e⟩ := e
  rw [ixm] at w10
  rw [← Option.some.inj e]
  refine ⟨i1n0, ?_, ?_, ?_⟩
  · show PS T N Z h10 hr
    rw [w10]
    exact ps_wc D gz (Or.inr ⟨rfl, rfl⟩) g8 P6
  · show StE (hI h10 (Z 28) pt.toNatClampNeg) _ _ _ _ _
    obtain ⟨a1, a2, a3, a4, a5⟩ := V
    have i1 : Rg 0 16383 v1 := by
      have q1 := iv.1.1.1
      have q2 := iv.1.1.2
      have q3 := iv.1.2.1.1
      have q4 := iv.1.2.1.2
      have q5 := iv.1.2.2.1
      have q6 := iv.1.2.2.2
      have q7 := iv.2
      exact ⟨by omega, by omega⟩
    rw [a1, a2, a3, a4, a5, ip, w10, rI_a (zne D), w6, rI_s]
    exact ⟨⟨iv.1.1, iv.1.2.1, iv.1.2.2, i5, i0⟩, by rw [en_2 i1 i5 i0, iv.2]⟩
  · show hI h10 (Z 29) m = _
    rw [w10, rI_s]
theorem sp_244 (n12 : N ≤ 1200) (dg : ∀ j : Nat, (j : Int) < N → 0 ≤ T j ∧ T j ≤ 255) (D : ZD Z) (n2 : x2.toInt = N) {m : Nat} (C : StC Z m x1 xk pt) {f a b : Int32} (i5 : Rg 1 7 x5) (iv : (Rg 0 63 f ∧ Rg (-7) 7 a ∧ Rg (-7) 7 b) ∧ v1.toInt = f.toInt + 64 * (a.toInt + 8) + 1024 * (b.toInt + 8)) (V : V5 Z hr pt.toNatClampNeg f a b x5 (0 : Int32)) (P : PS T N Z hc hr) (e : (cl (hR hc (Z 3) 1) fun r_5 => cl (sX2_takeTail F hc (Z 3) 12 (1 : Int32) (hI hc r_5 1) (0 : Int32)) fun o_6 => sX2_takeStep_168 F o_6.2 (Z 3) x1 xk v1 x5 o_6.1) = some o) (e' : sX15_isStep_244 F hr (Z 16) (Z 82) x2 pt = some o') : (Out T N Z o o' ∧ Q74 Z hr o'.2) ∧ Dn Z m xk pt o o' := by
  have n5 : ¬ x5 = (-1 : Int32) := fun z => by
    have i50 := i5.1
    rw [z] at i50
    exact absurd i50 (by decide)
  replace e := cl_s e
  obtain ⟨r5, e5, e⟩ := e
  rw [r_eq P.1.2.1 e5] at e
  replace e := cl_s e
  obtain ⟨o6, e6, e⟩ := e
  unfold sX15_isStep_244 sX15_isStep_296 at e'
  replace e' := cl_s e'
  obtain ⟨q, eq, e'⟩ := e'
  obtain ⟨t1, t2⟩ := tt_r n12 dg D n2 (w := 12) (w' := 38) rfl (by decide) (by decide) P e6 eq
  rw [t1] at e'
  rcases t2 with ⟨c, eo⟩ | ⟨c, more⟩
  · replace e' := br_s e'
    rcases e' with ⟨_, e'⟩ | ⟨n, _⟩
    rotate_left
    · exact absurd c n
    rw [eo] at e
    obtain ⟨a1, a2, a3⟩ := sp_168 D C i5 ⟨by decide, by decide⟩ iv V P e
    rw [← Option.some.inj e']
    exact ⟨⟨Or.inr ⟨a1, i1n0, a2⟩, q74_0⟩, fun _ => a3⟩
  replace e' := br_s e'
  rcases e' with ⟨n, _⟩ | ⟨_, e'⟩
  · exact absurd n c
  replace e' := cl_s e'
  obtain ⟨h3, e3, e'⟩ := e'
  replace e' := cl_s e'
  obtain ⟨r4, e4, e'⟩ := e'
  have q3 := q74_n n12 dg D n2 P e3
  have K3 := (nt_k (by omega) dg (zne D) P.2.2.2.1 n2 (by rw [← (ps_b P).2.1]; exact (ps_b P).2.2.1) (by rw [← (ps_b P).2.1]; exact (ps_b P).2.2.2) e3).1
  have y4 : r4 = Z 15 := r_eq P.2.1.1 (by rw [← K3.1.1]; exact e4)
  have rk : hI h3 (Z 15) 1 = hI hc (Z 2) 1 := by
    rw [K3.2 _ _ (fun z => zn D z.1)]
    exact (P.2.2.2.2.2.2.1 (1, 1) (by decide)).symm
  rw [y4, rk] at e'
  replace e' := cl_s e'
  obtain ⟨q4, e4', e'⟩ := e'
  obtain ⟨u1, u2⟩ := more e3 e4'
  rw [u1] at e'
  rcases u2 with ⟨d, d1, d2⟩ | ⟨d, d1, d2, hm, Pm, ea⟩
  · replace e' := br_s e'
    rcases e' with ⟨_, e'⟩ | ⟨n, _⟩
    rotate_left
    · exact absurd d n
    unfold sX2_takeStep_168 sX2_takeStep_182 at e
    rw [d1] at e
    replace e := br_s e
    rcases e with ⟨b, _⟩ | ⟨_, e⟩
    · exact absurd b n5
    replace e := br_s e
    rcases e with ⟨_, e⟩ | ⟨n, _⟩
    · rw [← Option.some.inj e, ← Option.some.inj e']
      exact ⟨⟨Or.inl ⟨rfl, rfl, d2⟩, q3⟩, dn_0⟩
    · exact absurd rfl n
  replace e' := br_s e'
  rcases e' with ⟨n, _⟩ | ⟨_, e'⟩
  · exact absurd n d
  replace e' := cl_s e'
  obtain ⟨r7, e7, e'⟩ := e'
  rw [r_eq Pm.2.1.1 e7] at e'
  replace e' := cl_s e'
  obtain ⟨r8, e8, e'⟩ := e'
  rw [r_eq Pm.2.1.2.2.2.2.2.2.2.1 e8] at e'
  replace e' := (gd_s e').2
  replace e' := nm_s e'
  obtain ⟨h10, w10, e'⟩ := e'
  have P10 : PS T N Z hm h10 := by rw [w10]; exact ps_wr D C.1 (by decide) C.2.2.2.2 C.2.1 Pm
  replace e' := cl_s e'
  obtain ⟨o11, e11, e'⟩ := e'
  have P11 := ps_a n12 dg D n2 (ps_b P10).1 (ps_b P10).2 ea e11
  have V3 := v5_n n12 dg D n2 P e3 V
  have V10 : V5 Z h10 pt.toNatClampNeg f a b x5 o6.1 := by
    obtain ⟨a1, a2, a3, a4, _⟩ := V3
    rw [w10]
    exact ⟨by rw [rI_a (zne D)]; exact a1, by rw [rI_a (zne D)]; exact a2, by rw [rI_a (zne D)]; exact a3, by rw [rI_a (zne D)]; exact a4, by rw [rI_s]; exact d2.1.symm⟩
  have rkg : Rg 0 8 o6.1 := by
    have q1 := d2.2.1
    have q2 := d2.2.2
    have q3 := P.2.2.2.2.2.2.2.2.2.2.2.2.1.2.1.2
    have z1 : (1 : Int32).toInt = 1 := rfl
    rw [z1] at q1
    exact ⟨by omega, by omega⟩
  obtain ⟨a1, a2, a3⟩ := sp_168 D C i5 rkg iv (v5_n n12 dg D n2 P10 e11 V10) P11 e
  have q11 := q74_n n12 dg D n2 P10 e11
  rw [← Option.some.inj e']
  refine ⟨⟨Or.inr ⟨a1, i1n0, a2⟩, q74_t q3 (q74_t ?_ q11)⟩, fun _ => a3⟩
  rw [w10]; exact q74_w D (by decide) (by decide)
theorem sp_158 (n12 : N ≤ 1200) (dg : ∀ j : Nat, (j : Int) < N → 0 ≤ T j ∧ T j ≤ 255) (D : ZD Z) (n2 : x2.toInt = N) {m : Nat} (C : StC Z m x1 xk pt) (f75 : hI hr (Z 75) pt.toNatClampNeg = x3) (f76 : hI hr (Z 76) pt.toNatClampNeg = x4) (i3 : Rg 0 63 x3) (i4 : Rg (-7) 7 x4) (ib : Rg (-7) 7 (hI hc (Z 3) 5)) (vb : hI hc (Z 3) 5 = hI hr (Z 16) 9) (P : PS T N Z hc hr) (e : sX2_takeStep_105 F hc (Z 3) x1 xk x3 x4 = some o) (e' : sX15_isStep_158 F hr (Z 16) (Z 82) x2 pt = some o') : (Out T N Z o o' ∧ Q74 Z hr o'.2) ∧ Dn Z m xk pt o o' := by
  unfold sX2_takeStep_105 at e
  replace e := nm_s e
  obtain ⟨v1, wv1, e⟩ := e
  have iv : (Rg 0 63 x3 ∧ Rg (-7) 7 x4 ∧ Rg (-7) 7 (hI hc (Z 3) 5)) ∧ v1.toInt = x3.toInt + 64 * (x4.toInt + 8) + 1024 * ((hI hc (Z 3) 5).toInt + 8) := ⟨⟨i3, i4, ib⟩, by rw [wv1]; exact en_1 i3 i4 ib⟩
  replace e := cl_s e
  obtain ⟨o2, ea, e⟩ := e
  unfold sX15_isStep_158 at e'
  replace e' := cl_s e'
  obtain ⟨r1, e1, e'⟩ := e'
  rw [r_eq P.2.1.1 e1] at e'
  replace e' := cl_s e'
  obtain ⟨r2, e2, e'⟩ := e'
  rw [r_eq P.2.1.2.2.2.2.2.1 e2] at e'
  replace e' := (gd_s e').2
  replace e' := nm_s e'
  obtain ⟨h4, w4, e'⟩ := e'
  have P4 : PS T N Z hc h4 := by rw [w4]; exact ps_wr D C.1 (by decide) C.2.2.2.2 C.2.1 P
  replace e' := cl_s e'
  obtain ⟨r5, e5, e'⟩ := e'
  rw [r_eq P4.2.1.1 e5] at e'
  replace e' := cl_s e'
  obtain ⟨r6, e6, e'⟩ := e'
  rw [r_eq P4.2.1.2.2.2.2.2.2.1 e6] at e'
  replace e' := (gd_s e').2
  replace e' := nm_s e'
  obtain ⟨h8, w8, e'⟩ := e'
  have P8 : PS T N Z hc h8 := by rw [w8]; exact ps_wr D C.1 (by decide) C.2.2.2.2 C.2.1 P4
  replace e' := cl_s e'
  obtain ⟨r9, e9, e'⟩ := e'
  rw [r_eq P8.2.1.1 e9] at e'
  replace e' := cl_s e'
  obtain ⟨r10, e10, e'⟩ := e'
  rw [r_eq P8.2.1.2.2.2.2.2.2.2.1 e10] at e'
  replace e' := (gd_s e').2
  replace e' := nm_s e'
  obtain ⟨h12, w12, e'⟩ := e'
  have P12 : PS T N Z hc h12 := by rw [w12]; exact ps_wr D C.1 (by decide) C.2.2.2.2 C.2.1 P8
  replace e' := cl_s e'
  obtain ⟨o13, e13, e'⟩ := e'
  have q12 : Q74 Z hr h12 := by
    rw [w12]
    refine q74_t (h1 := h8) (q74_t (h1 := h4) ?_ ?_) (q74_w D (by decide) (by decide))
    · rw [w4]; exact q74_w D (by decide) (by decide)
    · rw [w8]; exact q74_w D (by decide) (by decide)
  have q13 := q74_t q12 (q74_n n12 dg D n2 P12 e13)
  have P13 := ps_a n12 dg D n2 (ps_b P12).1 (ps_b P12).2 ea e13
  have V12 : V5 Z h12 pt.toNatClampNeg x3 x4 (hI hc (Z 3) 5) (1 : Int32) (0 : Int32) := by
    rw [w12, w8, w4]
    exact ⟨by rw [rI_a (zne D), rI_a (zne D), rI_a (zne D)]; exact f75, by rw [rI_a (zne D), rI_a (zne D), rI_a (zne D)]; exact f76, by rw [rI_a (zne D), rI_a (zne D), rI_s]; exact vb.symm, by rw [rI_a (zne D), rI_s], by rw [rI_s]⟩
  have V13 := v5_n n12 dg D n2 P12 e13 V12
  replace e := cl_s e
  obtain ⟨o3, e3, e⟩ := e
  replace e' := cl_s e'
  obtain ⟨q, eq, e'⟩ := e'
  obtain ⟨t1, t2⟩ := tt_r n12 dg D n2 (w := 11) (w' := 37) rfl (by decide) (by decide) P13 e3 eq
  rw [t1] at e'
  rcases t2 with ⟨c, eo⟩ | ⟨c, more⟩
  · replace e' := br_s e'
    rcases e' with ⟨_, e'⟩ | ⟨n, _⟩
    rotate_left
    · exact absurd c n
    rw [eo] at e
    replace e := br_s e
    rcases e with ⟨n, _⟩ | ⟨_, e⟩
    · exact absurd n (show ¬ (1 : Int32) = -1 by decide)
    obtain ⟨⟨y1, y2⟩, y3⟩ := sp_244 n12 dg D n2 C ⟨by decide, by decide⟩ iv V13 P13 e e'
    exact ⟨⟨y1, q74_t q13 y2⟩, y3⟩
  replace e' := br_s e'
  rcases e' with ⟨n, _⟩ | ⟨_, e'⟩
  · exact absurd n c
  replace e' := cl_s e'
  obtain ⟨h16, e16, e'⟩ := e'
  replace e' := cl_s e'
  obtain ⟨q17, e17, e'⟩ := e'
  obtain ⟨u1, u2⟩ := more e16 e17
  rw [u1] at e'
  rcases u2 with ⟨d, d1, d2⟩ | ⟨d, d1, d2, hm, Pm, ea'⟩
  · replace e' := br_s e'
    rcases e' with ⟨_, e'⟩ | ⟨n, _⟩
    rotate_left
    · exact absurd d n
    replace e := br_s e
    rcases e with ⟨_, e⟩ | ⟨n, _⟩
    rotate_left
    · exact absurd d1 n
    unfold sX2_takeStep_168 sX2_takeStep_182 at e
    replace e := br_s e
    rcases e with ⟨_, e⟩ | ⟨n, _⟩
    · rw [← Option.some.inj e, ← Option.some.inj e']
      exact ⟨⟨Or.inl ⟨rfl, rfl, d2⟩, q74_t q13 (q74_n n12 dg D n2 P13 e16)⟩, dn_0⟩
    · exact absurd d1 n
  replace e' := br_s e'
  rcases e' with ⟨n, _⟩ | ⟨_, e'⟩
  · exact absurd n d
  replace e' := cl_s e'
  obtain ⟨r19, e19, e'⟩ := e'
  rw [r_eq Pm.2.1.1 e19] at e'
  replace e' := cl_s e'
  obtain ⟨r20, e20, e'⟩ := e'
  rw [r_eq Pm.2.1.2.2.2.2.2.2.1 e20] at e'
  replace e' := (gd_s e').2
  replace e' := nm_s e'
  obtain ⟨h22, w22, e'⟩ := e'
  have P22 : PS T N Z hm h22 := by rw [w22]; exact ps_wr D C.1 (by decide) C.2.2.2.2 C.2.1 Pm
  replace e' := cl_s e'
  obtain ⟨o23, e23, e'⟩ := e'
  have P23 := ps_a n12 dg D n2 (ps_b P22).1 (ps_b P22).2 ea' e23
  replace e := br_s e
  rcases e with ⟨n, _⟩ | ⟨_, e⟩
  · exact absurd n d1
  have V16 := v5_n n12 dg D n2 P13 e16 V13
  have V22 : V5 Z h22 pt.toNatClampNeg x3 x4 (hI hc (Z 3) 5) o3.1 (0 : Int32) := by
    obtain ⟨a1, a2, a3, _, a5⟩ := V16
    rw [w22]
    exact ⟨by rw [rI_a (zne D)]; exact a1, by rw [rI_a (zne D)]; exact a2, by rw [rI_a (zne D)]; exact a3, by rw [rI_s]; exact d2.1.symm, by rw [rI_a (zne D)]; exact a5⟩
  have r17 : Rg 1 7 o3.1 := by
    have q1 := d2.2.1
    have q2 := d2.2.2
    have z2 : (2 : Int32).toInt = 2 := rfl
    have z7 : (7 : Int32).toInt = 7 := rfl
    rw [z2] at q1
    rw [z7] at q2
    exact ⟨by omega, by omega⟩
  obtain ⟨⟨y1, y2⟩, y3⟩ := sp_244 n12 dg D n2 C r17 iv (v5_n n12 dg D n2 P22 e23 V22) P23 e e'
  refine ⟨⟨y1, q74_t (q74_t (q74_t q13 (q74_n n12 dg D n2 P13 e16)) ?_) (q74_t (q74_n n12 dg D n2 P22 e23) y2)⟩, y3⟩
  rw [w22]; exact q74_w D (by decide) (by decide)
/-- numbers of a step -/
theorem sp_57 (n12 : N ≤ 1200) (dg : ∀ j : Nat, (j : Int) < N → 0 ≤ T j ∧ T j ≤ 255) (D : ZD Z) (n2 : x2.toInt = N) {m : Nat} (C : StC Z m x1 xk pt) (i3 : Rg 0 63 x3) (p96 : 0 ≤ pt.toInt) (P : PS T N Z hc hr) (nk : ¬ hI hr (Z 16) 6 = (1 : Int32)) {g : Nat} (e : sX2_takeStep_57 F hc (Z 3) x1 xk x3 = some o) (e' : sX15_isStep_3 F (g + 1) hr (Z 16) (Z 82) x2 pt x3 = some o') : (Out T N Z o o' ∧ Q74 Z hr o'.2) ∧ Dn Z m xk pt o o' := by
  rw [sX15_isStep_3] at e'
  replace e' := br_s e'
  rcases e' with ⟨k, _⟩ | ⟨_, e'⟩
  · exact absurd k nk
  replace e' := cl_s e'
  obtain ⟨r2, e2, e'⟩ := e'
  rw [r_eq P.2.1.1 e2] at e'
  replace e' := cl_s e'
  obtain ⟨r3, e3, e'⟩ := e'
  rw [r_eq P.2.1.2.2.2.1 e3] at e'
  replace e' := (gd_s e').2
  replace e' := nm_s e'
  obtain ⟨h5, w5, e'⟩ := e'
  have P5 : PS T N Z hc h5 := by rw [w5]; exact ps_wr D C.1 (by decide) C.2.2.2.2 C.2.1 P
  have q5 : Q74 Z hr h5 := by rw [w5]; exact q74_w D (by decide) (by decide)
  unfold sX2_takeStep_57 sX2_takeStep_103 at e
  replace e := cl_s e
  obtain ⟨o1, e1, e⟩ := e
  replace e' := cl_s e'
  obtain ⟨o6, e6, e'⟩ := e'
  obtain ⟨t1, t2, t3, t4⟩ := in_r P5.2.2.2.2.1 e1 e6
  rw [t1] at e
  rw [t2, ← t3] at e'
  replace e := br_s e
  replace e' := br_s e'
  rcases e with ⟨b, e⟩ | ⟨b, e⟩
  · rcases e' with ⟨_, e'⟩ | ⟨b', _⟩
    · rw [← Option.some.inj e, ← Option.some.inj e']; exact ⟨⟨out_0 P5, q5⟩, dn_0⟩
    · exact absurd b b'
  rcases e' with ⟨b', _⟩ | ⟨_, e'⟩
  · exact absurd b' b
  obtain ⟨va, va1, va2⟩ := t4 b
  replace e := nm_s e
  obtain ⟨v3, w3, e⟩ := e
  replace e := cl_s e
  obtain ⟨o4, ea, e⟩ := e
  replace e' := cl_s e'
  obtain ⟨r8, e8, e'⟩ := e'
  rw [r_eq P5.2.1.1 e8] at e'
  replace e' := cl_s e'
  obtain ⟨r9, e9, e'⟩ := e'
  rw [r_eq P5.2.1.2.2.2.2.1 e9] at e'
  replace e' := (gd_s e').2
  replace e' := nm_s e'
  obtain ⟨h11, w11, e'⟩ := e'
  have P11 : PS T N Z hc h11 := by rw [w11]; exact ps_wr D C.1 (by decide) C.2.2.2.2 C.2.1 P5
  replace e' := cl_s e'
  obtain ⟨o12, e12, e'⟩ := e'
  have P12 := ps_a n12 dg D n2 (ps_b P11).1 (ps_b P11).2 ea e12
  have q12 : Q74 Z hr o12 := by
    refine q74_t (q74_t q5 ?_) (q74_n n12 dg D n2 P11 e12)
    rw [w11]; exact q74_w D (by decide) (by decide)
  have K12 := (nt_k (by omega) dg (zne D) P11.2.2.2.1 n2 (by rw [← (ps_b P11).2.1]; exact (ps_b P11).2.2.1) (by rw [← (ps_b P11).2.1]; exact (ps_b P11).2.2.2) e12).1
  have a76 : hI o12 (Z 76) pt.toNatClampNeg = v3 := by
    rw [K12.2 _ _ (fun z => zn D z.1), w11, rI_s, w3]; exact va.symm
  have a75 : hI o12 (Z 75) pt.toNatClampNeg = x3 := by
    rw [K12.2 _ _ (fun z => zn D z.1), w11, rI_a (zne D), w5, rI_s]
  have i4 : Rg (-7) 7 v3 := by rw [w3]; exact ⟨va1, va2⟩
  replace e := cl_s e
  obtain ⟨o5, e5, e⟩ := e
  replace e' := cl_s e'
  obtain ⟨o13, e13, e'⟩ := e'
  obtain ⟨s1, s2, s3, s4⟩ := in_r P12.2.2.2.2.1 e5 e13
  rw [s1] at e
  rw [s2, ← s3] at e'
  unfold sX15_isStep_156 at e'
  replace e := br_s e
  replace e' := br_s e'
  rcases e with ⟨c, e⟩ | ⟨c, e⟩
  · rcases e' with ⟨_, e'⟩ | ⟨c', _⟩
    · rw [← Option.some.inj e, ← Option.some.inj e']; exact ⟨⟨out_0 P12, q12⟩, dn_0⟩
    · exact absurd c c'
  rcases e' with ⟨c', _⟩ | ⟨_, e'⟩
  · exact absurd c' c
  obtain ⟨vb, vb1, vb2⟩ := s4 c
  have go : sX2_takeStep_105 F o4 (Z 3) x1 xk x3 v3 = some o → sX15_isStep_158 F o12 (Z 16) (Z 82) x2 pt = some o' → (Out T N Z o o' ∧ Q74 Z hr o'.2) ∧ Dn Z m xk pt o o' := fun e e' => by
    obtain ⟨⟨y1, y2⟩, y3⟩ := sp_158 n12 dg D n2 C a75 a76 i3 i4 ⟨vb1, vb2⟩ vb P12 e e'
    exact ⟨⟨y1, q74_t q12 y2⟩, y3⟩
  rw [← vb] at e'
  replace e := br_s e
  replace e' := br_s e'
  rcases e with ⟨d, e⟩ | ⟨d, e⟩
  · replace e := br_s e
    rcases e with ⟨f, e⟩ | ⟨f, e⟩
    · rcases e' with ⟨_, e'⟩ | ⟨f', _⟩
      rotate_left
      · exact absurd f f'
      replace e' := cl_s e'
      obtain ⟨r16, e16, e'⟩ := e'
      rw [r_eq P12.2.1.1 e16] at e'
      replace e' := cl_s e'
      obtain ⟨r17, e17, e'⟩ := e'
      rw [r_eq P12.2.1.2.2.2.2.1 e17, a76] at e'
      replace e' := (gd_s e').2
      replace e' := br_s e'
      rcases e' with ⟨_, e'⟩ | ⟨n, _⟩
      · rw [← Option.some.inj e, ← Option.some.inj e']; exact ⟨⟨out_0 P12, q12⟩, dn_0⟩
      · exact absurd d n
    · rcases e' with ⟨f', _⟩ | ⟨_, e'⟩
      · exact absurd f' f
      exact go e e'
  · rcases e' with ⟨_, e'⟩ | ⟨_, e'⟩
    · replace e' := cl_s e'
      obtain ⟨r16, e16, e'⟩ := e'
      rw [r_eq P12.2.1.1 e16] at e'
      replace e' := cl_s e'
      obtain ⟨r17, e17, e'⟩ := e'
      rw [r_eq P12.2.1.2.2.2.2.1 e17, a76] at e'
      replace e' := (gd_s e').2
      replace e' := br_s e'
      rcases e' with ⟨n, _⟩ | ⟨_, e'⟩
      · exact absurd n d
      exact go e e'
    · exact go e e'
theorem sp_5 (n12 : N ≤ 1200) (dg : ∀ j : Nat, (j : Int) < N → 0 ≤ T j ∧ T j ≤ 255) (D : ZD Z) (n2 : x2.toInt = N) {m : Nat} (C : StC Z m x1 xk pt) (p96 : 0 ≤ pt.toInt) : ∀ (f g : Nat) {hc hr : Hp} {x3 x4 : Int32}, PS T N Z hc hr → Rg 0 63 x3 → cns x3 = true → (bc x3 6 : Int) = x4.toInt → sX2_takeStep_5 F f hc (Z 3) x1 xk x3 x4 = some o → sX15_isStep_3 F g hr (Z 16) (Z 82) x2 pt x3 = some o' → (Out T N Z o o' ∧ Q74 Z hr o'.2) ∧ Dn Z m xk pt o o' := by
  have z1 : (1 : Int32).toInt = 1 := rfl
  have z6 : (6 : Int32).toInt = 6 := rfl
  intro f
  induction f with
  | zero => intro g hc hr x3 x4 _ _ _ _ e; exact absurd e (by rw [sX2_takeStep_5]; exact fun z => nomatch z)
  | succ f ih =>
    intro g hc hr x3 x4 P i3 cn bb e e'
    cases g with
    | zero => exact absurd e' (by rw [sX15_isStep_3]; exact fun z => nomatch z)
    | succ g =>
      have b4 : bc x3 6 ≤ 4 := small (P := fun y => cns y = true → bc y 6 ≤ 4) (n := 63) i3 (by decide) cns_b cn
      rw [sX2_takeStep_5] at e
      replace e := br_s e
      rcases e with ⟨l, _⟩ | ⟨_, e⟩
      · have l := le_i l; omega
      replace e := br_s e
      rcases e with ⟨k, e⟩ | ⟨k, e⟩
      rotate_left
      · exact sp_57 n12 dg D n2 C i3 p96 P (fun z => k ((kw_r (ps_m P)).mpr z)) e e'
      rw [sX15_isStep_3] at e'
      replace e' := br_s e'
      rcases e' with ⟨_, e'⟩ | ⟨n, _⟩
      rotate_left
      · exact absurd ((kw_r (ps_m P)).mp k) n
      replace e := cl_s e
      obtain ⟨o3, e3, e⟩ := e
      replace e' := cl_s e'
      obtain ⟨o20, e20, e'⟩ := e'
      obtain ⟨t1, t2, t3, t4⟩ := fl_r n12 P e3 e20
      rw [t1] at e
      rw [t2, ← t3] at e'
      unfold sX2_takeStep_40 at e
      unfold sX15_isStep_68 at e'
      replace e' := nm_s e'
      obtain ⟨v21, w21, e'⟩ := e'
      replace e := br_s e
      replace e' := br_s e'
      rcases e with ⟨b, e⟩ | ⟨b, e⟩
      · rcases e' with ⟨_, e'⟩ | ⟨b', _⟩
        · rw [← Option.some.inj e, ← Option.some.inj e']; exact ⟨⟨out_0 P, q74_0⟩, dn_0⟩
        · exact absurd b b'
      rcases e' with ⟨b', _⟩ | ⟨_, e'⟩
      · exact absurd b' b
      have hf : o3.1 ∈ [(1 : Int32), 2, 4, 8, 16, 32] := by
        rcases t4.resolve_left b with z | z | z | z | z | z <;> (rw [z]; decide)
      obtain ⟨ca, cb⟩ := small (P := fun y => ∀ f, f ∈ [(1 : Int32), 2, 4, 8, 16, 32] → cns y = true → fit y f = rfit y f ∧ (fit y f = true → cns (y ||| f) = true ∧ bc (y ||| f) 6 = bc y 6 + 1 ∧ rgb 0 63 (y ||| f) = true)) (n := 63) i3 (by decide) cns_a o3.1 hf cn
      replace e := cl_s e
      obtain ⟨o5, e5, e⟩ := e
      obtain ⟨u1, u2⟩ := fits_q e5
      rw [u1] at e
      have rfail : rfit x3 o3.1 = false → o' = ((0 : Int32), hr) := fun hz => by
        unfold rfit at hz
        rw [← w21] at hz
        unfold sX15_isStep_52 sX15_isStep_68 at e'
        replace e' := br_s e'
        rcases e' with ⟨c1, e'⟩ | ⟨_, e'⟩
        rotate_left
        · exact (Option.some.inj e').symm
        rw [decide_eq_true c1, Bool.true_and] at hz
        replace e' := br_s e'
        have tail : (decide (v21 &&& (8 : Int32) = 0) || decide (v21 &&& (16 : Int32) = 0)) = false → br ((v21 &&& (8 : Int32)) = 0) (sX15_isStep_70 F (sX15_isStep_3 F g) hr (Z 16) (Z 82) x2 pt v21) (br ((v21 &&& (16 : Int32)) = 0) (sX15_isStep_70 F (sX15_isStep_3 F g) hr (Z 16) (Z 82) x2 pt v21) (some ((0 : Int32), hr))) = some o' → o' = ((0 : Int32), hr) := fun hy e' => by
          rw [Bool.or_eq_false_iff, decide_eq_false_iff_not, decide_eq_false_iff_not] at hy
          replace e' := br_s e'
          rcases e' with ⟨z, _⟩ | ⟨_, e'⟩
          · exact absurd z hy.1
          replace e' := br_s e'
          rcases e' with ⟨z, _⟩ | ⟨_, e'⟩
          · exact absurd z hy.2
          exact (Option.some.inj e').symm
        rcases e' with ⟨c2, e'⟩ | ⟨c2, e'⟩
        · rw [decide_eq_true c2, Bool.true_or, Bool.true_and] at hz
          exact tail hz e'
        rw [decide_eq_false c2, Bool.false_or] at hz
        replace e' := br_s e'
        rcases e' with ⟨c3, e'⟩ | ⟨c3, e'⟩
        · rw [decide_eq_true c3, Bool.true_and] at hz
          exact tail hz e'
        · exact (Option.some.inj e').symm
      have rgo : rfit x3 o3.1 = true → sX15_isStep_70 F (sX15_isStep_3 F g) hr (Z 16) (Z 82) x2 pt v21 = some o' := fun hz => by
        unfold rfit at hz
        rw [← w21] at hz
        simp only [Bool.and_eq_true, Bool.or_eq_true, decide_eq_true_eq] at hz
        obtain ⟨⟨h1, h2⟩, h3⟩ := hz
        unfold sX15_isStep_52 sX15_isStep_68 at e'
        have tail : br ((v21 &&& (8 : Int32)) = 0) (sX15_isStep_70 F (sX15_isStep_3 F g) hr (Z 16) (Z 82) x2 pt v21) (br ((v21 &&& (16 : Int32)) = 0) (sX15_isStep_70 F (sX15_isStep_3 F g) hr (Z 16) (Z 82) x2 pt v21) (some ((0 : Int32), hr))) = some o' → sX15_isStep_70 F (sX15_isStep_3 F g) hr (Z 16) (Z 82) x2 pt v21 = some o' := fun e' => by
          replace e' := br_s e'
          rcases e' with ⟨_, e'⟩ | ⟨n, e'⟩
          · exact e'
          replace e' := br_s e'
          rcases e' with ⟨_, e'⟩ | ⟨n', _⟩
          · exact e'
          · exact absurd h3 (fun z => z.elim n n')
        replace e' := br_s e'
        rcases e' with ⟨_, e'⟩ | ⟨n, _⟩
        rotate_left
        · exact absurd h1 n
        replace e' := br_s e'
        rcases e' with ⟨_, e'⟩ | ⟨n, e'⟩
        · exact tail e'
        replace e' := br_s e'
        rcases e' with ⟨_, e'⟩ | ⟨n', _⟩
        · exact tail e'
        · exact absurd h2 (fun z => z.elim n n')
      replace e := br_s e
      rcases e with ⟨c, e⟩ | ⟨c, e⟩
      · have := rfail (by rw [← ca]; exact u2.mp c)
        rw [← Option.some.inj e, this]; exact ⟨⟨out_0 P, q74_0⟩, dn_0⟩
      have ft : fit x3 o3.1 = true := by
        cases z : fit x3 o3.1 with
        | true => rfl
        | false => exact absurd (u2.mpr z) c
      have e'' := rgo (by rw [← ca]; exact ft)
      obtain ⟨d1, d2, d3⟩ := cb ft
      unfold sX15_isStep_70 at e''
      replace e'' := cl_s e''
      obtain ⟨hr1, en, e''⟩ := e''
      replace e := nm_s e
      obtain ⟨v7, w7, e⟩ := e
      replace e := cl_s e
      obtain ⟨o8, e8, e⟩ := e
      replace e := nm_s e
      obtain ⟨v9, w9, e⟩ := e
      have P8 := ps_a n12 dg D n2 (ps_b P).1 (ps_b P).2 e8 en
      rw [w21, ← w7] at e''
      have y := ih g P8 (by rw [w7]; exact rg_b d3) (by rw [w7]; exact d1) (by rw [w7, d2, w9, ta (by rw [z1]; omega), z1]; omega) e e''
      exact ⟨⟨y.1.1, q74_t (q74_n n12 dg D n2 P en) y.1.2⟩, y.2⟩
end
end
section
/-! the sentence of a man -/
section
variable {T : Nat → Int} {N : Int} {F : Nat} {Z : Nat → Nat} {x2 : Int32} {hc hr oc or hc1 : Hp} {x man xi : Int32} {o o' : Int32 × Hp} {i : Nat}
/-- how many steps a man has, of one that is told -/
theorem ps_74 (D : ZD Z) {j : Nat} {v : Int32} (gz : Z 997 = j + 1) (hj : (j : Int) < (hI hr (Z 15) 2).toInt) (P : PS T N Z hc hr) : PS T N Z hc (wI hr (Z 74) j v) := by
  obtain ⟨p1, p2, p3, p4, p5, s1, s2, s3, s4, s5, s6, s7, s8, s9⟩ := P
  have w : ∀ {a : Nat}, a ∈ zl → ¬ a = 74 → ∀ q, hI (wI hr (Z 74) j v) (Z a) q = hI hr (Z a) q := fun ha n q => rI_a (zne D n ha)
  refine ⟨p1, p2, p3, fun q hq => by rw [w (by decide) (by decide)]; exact p4 q hq, ?_, by rw [w (by decide) (by decide)]; exact s1, fun p hp => by rw [w (by decide) (by decide)]; exact s2 p hp, s3, s4, fun q hq => by rw [w (by decide) (by decide)]; exact s5 q hq, fun q hq => ?_, ⟨s7.1, fun q hq => ?_⟩, s8, s9.1, s9.2.1, fun q h1 h2 => ?_, s9.2.2.2.1, lt5_k s9.2.2.2.2.1 rfl (fun k _ _ => w (by decide) (by decide) _), fun q hq => ?_, s9.2.2.2.2.2.2⟩
  · obtain ⟨p', k', A, B', ek⟩ := p5
    exact ⟨p', k', A, by rw [w (by decide) (by decide), w (by decide) (by decide), w (by decide) (by decide)]; exact B', by rw [w (by decide) (by decide)]; exact ek⟩
  · rw [w (by decide) (by decide)]
    refine ⟨(s6 q hq).1, (s6 q hq).2.1, fun k hk => ?_⟩
    rw [w (by decide) (by decide)]; exact (s6 q hq).2.2 k hk
  · rw [s7.2 q hq]
    constructor
    · rintro ⟨a, b, c, d, e⟩
      exact ⟨a, b, by rw [w (by decide) (by decide)]; exact c, by rw [w (by decide) (by decide)]; exact d, by rw [w (by decide) (by decide)]; exact e⟩
    · rintro ⟨a, b, c, d, e⟩
      rw [w (by decide) (by decide)] at c d e
      exact ⟨a, b, c, d, e⟩
  · rw [w (by decide) (by decide)] at h1
    rw [rI_o (show ¬ q = j from fun z => by omega), w (a := 81) (by decide) (by decide)]
    exact s9.2.2.1 q h1 h2
  · rw [w (by decide) (by decide)] at hq
    obtain ⟨S1, S2⟩ := s9.2.2.2.2.2.1 q hq
    have ww : ∀ k, k ∈ lr → ¬ k = 74 → ∀ i, hI (wI hr (Z 74) j v) (Z k) i = hI hr (Z k) i := fun k hk n i => w (lr_z k hk).1 n i
    have sx : ∀ {k : Nat}, SXs Z hc hr k → SXs Z hc (wI hr (Z 74) j v) k := fun {k} S => by
      unfold SXs at S ⊢
      rw [ww 75 (by decide) (by decide), ww 76 (by decide) (by decide), ww 77 (by decide) (by decide), ww 78 (by decide) (by decide), ww 79 (by decide) (by decide)]
      exact S
    refine ⟨fun n => ?_, fun g i hi => sx (S2 g i hi)⟩
    obtain ⟨a, b, c⟩ := S1 n
    exact ⟨by rw [rI_o (by omega)]; exact a, b, fun i hi => sx (c i hi)⟩
theorem ma_st (n12 : N ≤ 1200) (dg : ∀ j : Nat, (j : Int) < N → 0 ≤ T j ∧ T j ≤ 255) (D : ZD Z) (n2 : x2.toInt = N) {f g : Nat} (P : PS T N Z hc hr) (gz : Z 997 = man.toNatClampNeg + 1) (g6 : xi.toInt = ((Z 996 : Nat) : Int)) (m0 : 0 ≤ man.toInt) (mm : man.toInt < (hI hr (Z 15) 2).toInt) (x0 : 0 ≤ xi.toInt) (x7 : xi.toInt ≤ 7) (hx : hI hr (Z 74) man.toNatClampNeg = xi) (e : sX2_takeMan_77 F (f + 1) hc (Z 3) man xi = some o) (e' : sX15_isMan_92 F (g + 1) hr (Z 16) (Z 82) x2 man = some o') : (o.1 = 0 ∧ o'.1 = 0 ∧ Fl2 Z o.2 o'.2) ∨ ∃ hc2 hr2 : Hp, PS T N Z hc2 hr2 ∧ hI hr2 (Z 15) 2 = hI hr (Z 15) 2 ∧ SXs Z hc2 hr2 (8 * man.toNatClampNeg + Z 996) ∧ hI hc2 (Z 29) man.toNatClampNeg = xi + (1 : Int32) ∧ hI hr2 (Z 74) man.toNatClampNeg = xi + (1 : Int32) ∧ ((o = ((1 : Int32), hc2) ∧ o' = ((1 : Int32), hr2)) ∨ (xi.toInt ≤ 6 ∧ sX2_takeMan_77 F f hc2 (Z 3) man (xi + (1 : Int32)) = some o ∧ sX15_isMan_92 F g hr2 (Z 16) (Z 82) x2 man = some o')) := by
  have z1 : (1 : Int32).toInt = 1 := rfl
  have z7 : (7 : Int32).toInt = 7 := rfl
  have z8 : (8 : Int32).toInt = 8 := rfl
  have nm := nc_i m0
  have m12 : (hI hr (Z 15) 2).toInt ≤ 12 := by
    rw [← P.2.2.2.2.2.2.1 (3, 2) (by decide)]; exact P.2.2.2.2.2.2.2.2.1.2
  rw [sX2_takeMan_77] at e
  rw [sX15_isMan_92] at e'
  replace e := br_s e
  rcases e with ⟨l, _⟩ | ⟨_, e⟩
  · have l := le_i l; omega
  replace e := cl_s e
  obtain ⟨o2, e2, e⟩ := e
  replace e' := cl_s e'
  obtain ⟨r1, e1, e'⟩ := e'
  rw [r_eq P.2.1.1 e1] at e'
  replace e' := cl_s e'
  obtain ⟨r2, e2', e'⟩ := e'
  rw [r_eq P.2.1.2.2.1 e2', hx] at e'
  replace e' := (gd_s e').2
  replace e' := cl_s e'
  obtain ⟨o4, e4, e'⟩ := e'
  have m8 : ((8 : Int32) * man).toInt = 8 * man.toInt := by rw [tm (by rw [z8]; omega), z8]
  have ad : (((8 : Int32) * man) + xi).toInt = 8 * man.toInt + xi.toInt := by rw [ta (by rw [m8]; omega), m8]
  have na := nc_i (x := ((8 : Int32) * man) + xi) (by rw [ad]; omega)
  have ip : (((8 : Int32) * man) + xi).toNatClampNeg = 8 * man.toNatClampNeg + Z 996 := by rw [ad] at na; omega
  unfold sX2_takeStep at e2
  unfold sX15_isStep at e4
  obtain ⟨⟨q1, q2⟩, q3⟩ := sp_5 (m := man.toNatClampNeg) n12 dg D n2 ⟨gz, by omega, ⟨⟨m0, by omega⟩, rfl⟩, g6, ip⟩ (by rw [ad]; omega) F F P ⟨by decide, by decide⟩ (by decide) (by decide) e2 e4
  rcases q1 with ⟨a1, a2, a3⟩ | ⟨a1, a2, P2⟩
  · replace e := br_s e
    rcases e with ⟨_, e⟩ | ⟨n, _⟩
    rotate_left
    · exact absurd a1 n
    replace e' := br_s e'
    rcases e' with ⟨_, e'⟩ | ⟨n, _⟩
    rotate_left
    · exact absurd a2 n
    rw [← Option.some.inj e, ← Option.some.inj e']
    exact Or.inl ⟨rfl, rfl, a3⟩
  replace e := br_s e
  rcases e with ⟨n, _⟩ | ⟨_, e⟩
  · exact absurd n a1
  replace e' := br_s e'
  rcases e' with ⟨n, _⟩ | ⟨_, e'⟩
  · exact absurd n a2
  obtain ⟨x28, x29⟩ := q3 a1
  rw [ip] at x28
  have mc : hI o4.2 (Z 15) 2 = hI hr (Z 15) 2 := q2.2
  replace e' := cl_s e'
  obtain ⟨r6, e6, e'⟩ := e'
  rw [r_eq P2.2.1.1 e6] at e'
  replace e' := cl_s e'
  obtain ⟨r7, e7, e'⟩ := e'
  rw [r_eq P2.2.1.2.2.1 e7] at e'
  replace e' := (gd_s e').2
  replace e' := (gd_s e').2
  replace e' := nm_s e'
  obtain ⟨h10, w10, e'⟩ := e'
  have k74 : hI o4.2 (Z 74) man.toNatClampNeg = xi := (q2.1 _).trans hx
  rw [k74] at w10
  have P10 : PS T N Z o2.2 h10 := by rw [w10]; exact ps_74 D gz (by rw [mc]; omega) P2
  have v10 : hI h10 (Z 74) man.toNatClampNeg = xi + (1 : Int32) := by rw [w10, rI_s]
  have c10 : hI h10 (Z 15) 2 = hI hr (Z 15) 2 := by rw [w10, rI_a (zne D), mc]
  have s10 : SXs Z o2.2 h10 (8 * man.toNatClampNeg + Z 996) := by
    rw [w10]
    unfold SXs at x28 ⊢
    rw [rI_a (zne D), rI_a (zne D), rI_a (zne D), rI_a (zne D), rI_a (zne D)]
    exact x28
  have tx : (xi + (1 : Int32)).toInt = xi.toInt + 1 := by rw [ta (by rw [z1]; omega), z1]
  replace e' := cl_s e'
  obtain ⟨o11, e11, e'⟩ := e'
  obtain ⟨s1, s2⟩ := sg_r P10.2.2.1 P10.2.2.2.1 P10.2.2.2.2.1 (kd := 4) (Or.inr ⟨rfl, rfl⟩) e11
  rw [s1] at e'
  unfold sX2_takeMan_108 at e
  unfold sX15_isMan_154 at e'
  refine Or.inr ?_
  replace e := br_s e
  replace e' := br_s e'
  rcases e with ⟨c, e⟩ | ⟨c, e⟩
  rotate_left
  · rcases e' with ⟨_, e'⟩ | ⟨n, _⟩
    · exact ⟨o2.2, h10, P10, c10, s10, x29, v10, Or.inl ⟨(Option.some.inj e).symm, (Option.some.inj e').symm⟩⟩
    · exact absurd (s2.mpr (fun z => c (Int32.toInt_inj.mp z))) n
  rcases e' with ⟨n, _⟩ | ⟨_, e'⟩
  · exact absurd (by rw [c]; rfl) (s2.mp n)
  replace e' := cl_s e'
  obtain ⟨r13, e13, e'⟩ := e'
  rw [r_eq P10.2.1.1 e13] at e'
  replace e' := cl_s e'
  obtain ⟨r14, e14, e'⟩ := e'
  rw [r_eq P10.2.1.2.2.1 e14, v10] at e'
  replace e' := (gd_s e').2
  replace e := br_s e
  replace e' := br_s e'
  rcases e with ⟨d, e⟩ | ⟨d, e⟩
  · rcases e' with ⟨_, e'⟩ | ⟨n, _⟩
    · exact ⟨o2.2, h10, P10, c10, s10, x29, v10, Or.inl ⟨(Option.some.inj e).symm, (Option.some.inj e').symm⟩⟩
    · refine absurd (Int32.toInt_inj.mp ?_) n
      rw [tx, d]; rfl
  have d := ne_i d
  rw [z7] at d
  rcases e' with ⟨n, _⟩ | ⟨_, e'⟩
  · have : (xi + (1 : Int32)).toInt = 8 := by rw [n]; rfl
    omega
  replace e := cl_s e
  obtain ⟨o6, e6', e⟩ := e
  replace e := nm_s e
  obtain ⟨v7, w7, e⟩ := e
  replace e' := cl_s e'
  obtain ⟨o17, e17, e'⟩ := e'
  have P17 := ps_a n12 dg D n2 (ps_b P10).1 (ps_b P10).2 e6' e17
  have K17 := (nt_k (by omega) dg (zne D) P10.2.2.2.1 n2 (by rw [← (ps_b P10).2.1]; exact (ps_b P10).2.2.1) (by rw [← (ps_b P10).2.1]; exact (ps_b P10).2.2.2) e17).1
  have KC := (adv_k n12 dg P10.2.2.1 (ps_b P10).2.2.1 (ps_b P10).2.2.2 e6').1
  rw [w7] at e
  refine ⟨o6, o17, P17, by rw [K17.2 _ _ (fun z => zn D z.1)]; exact c10, ?_, by rw [KC.2 _ _ (fun z => zn D z.1)]; exact x29, by rw [K17.2 _ _ (fun z => zn D z.1)]; exact v10, Or.inr ⟨by omega, e, e'⟩⟩
  exact sx_k s10 (KC.2 _ _ (fun z => zn D z.1)) (fun q hq => K17.2 _ _ (fun z => (lr_z q hq).2.2.2.2.1 (D q (lr_z q hq).1 16 (by decide) z.1)))
end
/-- ghosts: the man whose steps are told, and how many he has -/
def zg (Z : Nat → Nat) (a b : Nat) (k : Nat) : Nat := bif Nat.beq k 997 then a else bif Nat.beq k 996 then b else Z k
theorem zg_o {Z : Nat → Nat} {a b k : Nat} (n : ¬ k = 997) (n' : ¬ k = 996) : zg Z a b k = Z k := by
  unfold zg
  cases q : Nat.beq k 997 with
  | true => exact absurd (Nat.eq_of_beq_eq_true q) n
  | false =>
    cases q' : Nat.beq k 996 with
    | true => exact absurd (Nat.eq_of_beq_eq_true q') n'
    | false => rfl
theorem zd_g {Z : Nat → Nat} {a b : Nat} (D : ZD Z) : ZD (zg Z a b) := fun i hi j hj e => by
  have nz : ∀ k, k ∈ zl → ¬ k = 997 ∧ ¬ k = 996 := by decide
  rw [zg_o (nz i hi).1 (nz i hi).2, zg_o (nz j hj).1 (nz j hj).2] at e
  exact D i hi j hj e
theorem zg_zg {Z : Nat → Nat} {a b c d : Nat} : zg (zg Z a b) c d = zg Z c d := funext (fun k => by
  unfold zg
  cases Nat.beq k 997 <;> cases Nat.beq k 996 <;> rfl)
theorem zg_id {Z : Nat → Nat} (h1 : Z 997 = 0) (h2 : Z 996 = 0) : zg Z 0 0 = Z := funext (fun k => by
  unfold zg
  cases q : Nat.beq k 997 with
  | true => rw [Nat.eq_of_beq_eq_true q]; exact h1.symm
  | false =>
    cases q' : Nat.beq k 996 with
    | true => rw [Nat.eq_of_beq_eq_true q']; exact h2.symm
    | false => rfl)
section
variable {T : Nat → Int} {N : Int} {F : Nat} {Z : Nat → Nat} {x2 : Int32} {hc hr oc or hc1 : Hp} {x man xi : Int32} {o o' : Int32 × Hp} {i : Nat}
/-- other ghosts -/
theorem ps_zg {a b : Nat} (P : PS T N Z hc hr) (l6 : LT6 (zg Z a b) hc hr) : PS T N (zg Z a b) hc hr := by
  obtain ⟨p1, p2, p3, p4, p5, s1, s2, s3, s4, s5, s6, s7, s8, s9⟩ := P
  exact ⟨p1, p2, p3, p4, p5, s1, s2, s3, s4, s5, s6, s7, s8, s9.1, s9.2.1, s9.2.2.1, s9.2.2.2.1, s9.2.2.2.2.1, l6, s9.2.2.2.2.2.2⟩
theorem ma_77 (n12 : N ≤ 1200) (dg : ∀ j : Nat, (j : Int) < N → 0 ≤ T j ∧ T j ≤ 255) (n2 : x2.toInt = N) : ∀ (f g : Nat) {Z : Nat → Nat} {hc hr : Hp} {xi : Int32}, ZD Z → PS T N Z hc hr → Z 997 = man.toNatClampNeg + 1 → xi.toInt = ((Z 996 : Nat) : Int) → 0 ≤ man.toInt → man.toInt < (hI hr (Z 15) 2).toInt → 0 ≤ xi.toInt → xi.toInt ≤ 7 → hI hr (Z 74) man.toNatClampNeg = xi → sX2_takeMan_77 F f hc (Z 3) man xi = some o → sX15_isMan_92 F g hr (Z 16) (Z 82) x2 man = some o' → Out T N (zg Z 0 0) o o' := by
  have z1 : (1 : Int32).toInt = 1 := rfl
  intro f
  induction f with
  | zero => intro g Z hc hr xi _ _ _ _ _ _ _ _ _ e; exact absurd e (by rw [sX2_takeMan_77]; exact fun z => nomatch z)
  | succ f ih =>
    intro g Z hc hr xi D P gz g6 m0 mm x0 x7 hx e e'
    cases g with
    | zero => exact absurd e' (by rw [sX15_isMan_92]; exact fun z => nomatch z)
    | succ g =>
      have tx : (xi + (1 : Int32)).toInt = xi.toInt + 1 := by rw [ta (by rw [z1]; omega), z1]
      rcases ma_st n12 dg D n2 P gz g6 m0 mm x0 x7 hx e e' with ⟨a1, a2, a3⟩ | ⟨hc2, hr2, P2, mc, s28, s29, s74, y⟩
      · exact Or.inl ⟨a1, a2, a3⟩
      rcases y with ⟨eo, eo'⟩ | ⟨x6, e, e'⟩
      · rw [eo, eo']
        refine Or.inr ⟨i1n0, i1n0, ps_zg P2 (fun j hj => ⟨fun _ => ?_, fun z => absurd z (Nat.succ_ne_zero j).symm⟩)⟩
        obtain ⟨S1, S2⟩ := ls_6 P2.2.2.2.2.2 j hj
        by_cases y : j = man.toNatClampNeg
        · refine ⟨by rw [y]; exact s29.trans s74.symm, ?_, fun i hi => ?_⟩
          · show Rg 1 8 (hI hc2 (Z 29) j)
            rw [y, s29]
            exact ⟨by rw [tx]; omega, by rw [tx]; omega⟩
          · have hi : (i : Int) < (hI hc2 (Z 29) j).toInt := hi
            rw [y, s29, tx] at hi
            by_cases q : i < Z 996
            · exact S2 (by rw [y]; exact gz) i q
            · have qe : i = Z 996 := by omega
              rw [y, qe]; exact s28
        · exact S1 (fun z => y (by omega))
      · have l6 : LT6 (zg Z (man.toNatClampNeg + 1) (Z 996 + 1)) hc2 hr2 := fun j hj => by
          obtain ⟨S1, S2⟩ := ls_6 P2.2.2.2.2.2 j hj
          refine ⟨fun n => S1 (fun z => n (by show man.toNatClampNeg + 1 = j + 1; omega)), fun z i hi => ?_⟩
          have z : man.toNatClampNeg + 1 = j + 1 := z
          have hi : i < Z 996 + 1 := hi
          by_cases q : i < Z 996
          · exact S2 (by omega) i q
          · have qe : i = Z 996 := by omega
            have je : j = man.toNatClampNeg := by omega
            rw [qe, je]; exact s28
        have r := ih g (Z := zg Z (man.toNatClampNeg + 1) (Z 996 + 1)) (zd_g D) (ps_zg P2 l6) rfl (by show (xi + (1 : Int32)).toInt = ((Z 996 + 1 : Nat) : Int); rw [tx]; omega) m0 (by show man.toInt < (hI hr2 (Z 15) 2).toInt; rw [mc]; exact mm) (by rw [tx]; omega) (by rw [tx]; omega) s74 e e'
        rw [zg_zg] at r
        exact r
end
section
variable {T : Nat → Int} {N : Int} {F : Nat} {Z : Nat → Nat} {x2 : Int32} {hc hr oc or hc1 : Hp} {x man xi : Int32} {o o' : Int32 × Hp} {i : Nat}
/-- both take a new man -/
theorem pb_m (D : ZD Z) {v : Int32} (vl : Rg 97 122 v) (gz : Z 997 = (hI hc (Z 2) 3).toNatClampNeg + 1) (g0 : Z 996 = 0) (P : PS T N Z hc hr) (l : (hI hc (Z 2) 3).toInt < 12) : PB T N Z (wI (wI hc (Z 27) (hI hc (Z 2) 3).toNatClampNeg v) (Z 2) 3 ((hI hc (Z 2) 3) + (1 : Int32))) (wI (wI hr (Z 73) (hI hc (Z 2) 3).toNatClampNeg v) (Z 15) 2 ((hI hc (Z 2) 3) + (1 : Int32))) := by
  have z1 : (1 : Int32).toInt = 1 := rfl
  obtain ⟨⟨p1, p2, p3, p4, s1, s2, s3, s4, s5, s6, s7, s8, s9⟩, c1, c2, c3⟩ := ps_b P
  have m3 : hI hc (Z 2) 3 = hI hr (Z 15) 2 := s2 (3, 2) (by decide)
  have m0 := s4.1
  have nm := nc_i m0
  have tx : ((hI hc (Z 2) 3) + (1 : Int32)).toInt = (hI hc (Z 2) 3).toInt + 1 := by rw [ta (by rw [z1]; omega), z1]
  have cc : ∀ {a : Nat}, a ∈ zl → ¬ a = 27 → ¬ a = 2 → ∀ j, hI (wI (wI hc (Z 27) (hI hc (Z 2) 3).toNatClampNeg v) (Z 2) 3 ((hI hc (Z 2) 3) + (1 : Int32))) (Z a) j = hI hc (Z a) j := fun ha n n' j => by rw [rI_a (zne D n' ha), rI_a (zne D n ha)]
  have c2' : ∀ j, ¬ j = 3 → hI (wI (wI hc (Z 27) (hI hc (Z 2) 3).toNatClampNeg v) (Z 2) 3 ((hI hc (Z 2) 3) + (1 : Int32))) (Z 2) j = hI hc (Z 2) j := fun j n => by rw [rI_o n, rI_a (zne D)]
  have c27 : ∀ j, hI (wI (wI hc (Z 27) (hI hc (Z 2) 3).toNatClampNeg v) (Z 2) 3 ((hI hc (Z 2) 3) + (1 : Int32))) (Z 27) j = hI (wI hc (Z 27) (hI hc (Z 2) 3).toNatClampNeg v) (Z 27) j := fun j => rI_a (zne D)
  have rc : ∀ {a : Nat}, a ∈ zl → ¬ a = 73 → ¬ a = 15 → ∀ j, hI (wI (wI hr (Z 73) (hI hc (Z 2) 3).toNatClampNeg v) (Z 15) 2 ((hI hc (Z 2) 3) + (1 : Int32))) (Z a) j = hI hr (Z a) j := fun ha n n' j => by rw [rI_a (zne D n' ha), rI_a (zne D n ha)]
  have r15 : ∀ j, ¬ j = 2 → hI (wI (wI hr (Z 73) (hI hc (Z 2) 3).toNatClampNeg v) (Z 15) 2 ((hI hc (Z 2) 3) + (1 : Int32))) (Z 15) j = hI hr (Z 15) j := fun j n => by rw [rI_o n, rI_a (zne D)]
  have r73 : ∀ j, hI (wI (wI hr (Z 73) (hI hc (Z 2) 3).toNatClampNeg v) (Z 15) 2 ((hI hc (Z 2) 3) + (1 : Int32))) (Z 73) j = hI (wI hr (Z 73) (hI hc (Z 2) 3).toNatClampNeg v) (Z 73) j := fun j => rI_a (zne D)
  refine ⟨⟨p1, p2, ct_w (zne D) (zne D) p1 (ct_w (zne D) (zne D) p1 p3), rt_w (zne D) (rt_w (zne D) p4), by rw [cc (by decide) (by decide) (by decide), rc (by decide) (by decide) (by decide)]; exact s1, fun p hp => ?_, s3, ?_, fun j hj => ?_, fun q hq => ?_, ⟨by rw [c2' _ (by decide)]; exact s7.1, fun q hq => ?_⟩, by rw [c2' _ (by decide), c2' _ (by decide), c2' _ (by decide), c2' _ (by decide)]; exact s8, by rw [cc (by decide) (by decide) (by decide), c2' _ (by decide)]; exact s9.1, by rw [cc (by decide) (by decide) (by decide)]; exact s9.2.1, fun q h1 h2 => ?_, by rw [cc (by decide) (by decide) (by decide)]; exact s9.2.2.2.1, lt5_k s9.2.2.2.2.1 (c2' _ (by decide)) (fun k h1 h2 => r15 k (by omega)), fun q hq => ?_, lt7_k s9.2.2.2.2.2.2 (c2' _ (by decide)) (fun i => cc (by decide) (by decide) (by decide) i)⟩, ?_⟩
  · by_cases y : p = (3, 2)
    · rw [y, rI_s, rI_s]
    · rw [c2' _ (fun z => y (prs_1 p hp (3, 2) (by decide) (Or.inl z))), r15 _ (fun z => y (prs_1 p hp (3, 2) (by decide) (Or.inr z)))]
      exact s2 p hp
  · rw [rI_s]
    exact ⟨by omega, by omega⟩
  · rw [rI_s, tx] at hj
    rw [c27, r73]
    by_cases y : j = (hI hc (Z 2) 3).toNatClampNeg
    · rw [y, rI_s, rI_s]; exact ⟨rfl, vl⟩
    · rw [rI_o y, rI_o y]; exact s5 j (by omega)
  · rw [cc (by decide) (by decide) (by decide), rc (by decide) (by decide) (by decide)]
    refine ⟨(s6 q hq).1, (s6 q hq).2.1, fun k hk => ?_⟩
    rw [cc (by decide) (by decide) (by decide), rc (by decide) (by decide) (by decide)]
    exact (s6 q hq).2.2 k hk
  · rw [c2' _ (by decide), s7.2 q hq, rI_s, tx]
    constructor
    · rintro ⟨a, b, c, d, e⟩
      exact ⟨a, b, by rw [m3]; omega, by rw [rc (by decide) (by decide) (by decide)]; exact d, by rw [rc (by decide) (by decide) (by decide)]; exact e⟩
    · rintro ⟨a, b, c, d, e⟩
      rw [rc (by decide) (by decide) (by decide)] at d e
      by_cases y : a = (hI hc (Z 2) 3).toNatClampNeg
      · have := (s9.2.2.1 a (by rw [← m3]; omega) (by omega)).2
        rw [this] at d
        have z0 : (0 : Int32).toInt = 0 := rfl
        omega
      · exact ⟨a, b, by rw [← m3]; omega, d, e⟩
  · rw [rI_s, tx] at h1
    rw [rc (by decide) (by decide) (by decide), rc (by decide) (by decide) (by decide)]
    exact s9.2.2.1 q (by rw [← m3]; omega) h2
  · rw [rI_s, tx] at hq
    refine ⟨fun n => ?_, fun z i hi => by omega⟩
    obtain ⟨a, b, c⟩ := (s9.2.2.2.2.2.1 q (by rw [← m3]; omega)).1 n
    have sx : ∀ {k : Nat}, SXs Z hc hr k → SXs Z (wI (wI hc (Z 27) (hI hc (Z 2) 3).toNatClampNeg v) (Z 2) 3 ((hI hc (Z 2) 3) + (1 : Int32))) (wI (wI hr (Z 73) (hI hc (Z 2) 3).toNatClampNeg v) (Z 15) 2 ((hI hc (Z 2) 3) + (1 : Int32))) k := fun {k} S => sx_k S (cc (by decide) (by decide) (by decide) _) (fun q hq => rc (lr_z q hq).1 (lr_z q hq).2.2.2.2.2.1 (lr_z q hq).2.2.2.1 _)
    refine ⟨by rw [cc (by decide) (by decide) (by decide), rc (by decide) (by decide) (by decide)]; exact a, by rw [cc (by decide) (by decide) (by decide)]; exact b, fun i hi => ?_⟩
    rw [cc (by decide) (by decide) (by decide)] at hi
    exact sx (c i hi)
  · rw [cc (by decide) (by decide) (by decide), rc (by decide) (by decide) (by decide)]
    exact ⟨c1, c2, c3⟩
/-- behind his letter -/
theorem ma_go (n12 : N ≤ 1200) (dg : ∀ j : Nat, (j : Int) < N → 0 ≤ T j ∧ T j ≤ 255) (D : ZD Z) (n2 : x2.toInt = N) {hr1 : Hp} {o2 : Int32 × Hp} (gz : Z 997 = (hI hc1 (Z 2) 3).toNatClampNeg + 1) (g0 : Z 996 = 0) (P1 : PS T N Z hc1 hr1) (c : (hI hc1 (Z 2) 3).toInt < 12) (m3 : hI hc1 (Z 2) 3 = hI hr1 (Z 15) 2) (y1 : o2.1 = hI hr1 (Z 82) (hI hr1 (Z 16) 7).toNatClampNeg) (vl : Rg 97 122 o2.1) (e : (cl (sX2_advance F hc1 (Z 3)) fun o_9 => cl (hR o_9 (Z 3) 1) fun r_10 => nm (hI o_9 r_10 3) fun v_11 => cl (hR o_9 (Z 3) 1) fun r_12 => cl (hR o_9 r_12 14) fun r_13 => gd (inB v_11 (hN o_9 r_13)) <| nm (wI o_9 r_13 v_11.toNatClampNeg o2.1) fun h_15 => cl (hR h_15 (Z 3) 1) fun r_16 => nm (wI h_15 r_16 3 ((hI h_15 r_16 3) + (1 : Int32))) fun h_17 => sX2_takeMan_77 F F h_17 (Z 3) v_11 (0 : Int32)) = some o) (e' : (cl (hR hr1 (Z 16) 5) fun r_8 => nm (hI hr1 r_8 2) fun v_9 => cl (hR hr1 (Z 16) 5) fun r_10 => cl (hR hr1 r_10 3) fun r_11 => gd (inB (hI hr1 (Z 16) 7) (hN hr1 (Z 82))) <| gd (inB v_9 (hN hr1 r_11)) <| nm (wI hr1 r_11 v_9.toNatClampNeg (hI hr1 (Z 82) (hI hr1 (Z 16) 7).toNatClampNeg)) fun h_14 => cl (hR h_14 (Z 16) 5) fun r_15 => nm (wI h_14 r_15 2 ((hI h_14 r_15 2) + (1 : Int32))) fun h_16 => cl (sX15_nextToken F h_16 (Z 16) (Z 82) x2) fun o_17 => sX15_isMan_92 F F o_17 (Z 16) (Z 82) x2 v_9) = some o') : Out T N (zg Z 0 0) o o' := by
  have z1 : (1 : Int32).toInt = 1 := rfl
  have m12 := P1.2.2.2.2.2.2.2.2.1
  replace e := cl_s e
  obtain ⟨o9, e9, e⟩ := e
  have Kc := (adv_k n12 dg P1.2.2.1 (ps_b P1).2.2.1 (ps_b P1).2.2.2 e9).1
  have ZC9 : ZC Z o9 := zc_k P1.1 Kc.1.1
  have k3 : hI o9 (Z 2) 3 = hI hc1 (Z 2) 3 := Kc.2 _ _ (fun z => zn D z.1)
  replace e := cl_s e
  obtain ⟨r10, e10, e⟩ := e
  rw [r_eq ZC9.2.1 e10] at e
  replace e := nm_s e
  obtain ⟨v11, w11, e⟩ := e
  rw [k3] at w11
  replace e := cl_s e
  obtain ⟨r12, e12, e⟩ := e
  rw [r_eq ZC9.2.1 e12] at e
  replace e := cl_s e
  obtain ⟨r13, e13, e⟩ := e
  rw [r_eq ZC9.2.2.2.1 e13] at e
  replace e := (gd_s e).2
  replace e := nm_s e
  obtain ⟨h15, w15, e⟩ := e
  replace e := cl_s e
  obtain ⟨r16, e16, e⟩ := e
  have y16 : r16 = Z 2 := r_eq ZC9.2.1 (by rw [w15] at e16; exact e16)
  rw [y16] at e
  replace e := nm_s e
  obtain ⟨h17, w17, e⟩ := e
  have k15 : hI h15 (Z 2) 3 = hI hc1 (Z 2) 3 := by rw [w15, rI_a (zne D), k3]
  rw [k15] at w17
  rw [w11] at w15 e
  -- the reference
  replace e' := cl_s e'
  obtain ⟨r8, e8, e'⟩ := e'
  rw [r_eq P1.2.1.1 e8] at e'
  replace e' := nm_s e'
  obtain ⟨v9, w9, e'⟩ := e'
  rw [← m3] at w9
  replace e' := cl_s e'
  obtain ⟨r10', e10', e'⟩ := e'
  rw [r_eq P1.2.1.1 e10'] at e'
  replace e' := cl_s e'
  obtain ⟨r11, e11, e'⟩ := e'
  rw [r_eq P1.2.1.2.1 e11] at e'
  replace e' := (gd_s e').2
  replace e' := (gd_s e').2
  rw [← y1, w9] at e'
  replace e' := nm_s e'
  obtain ⟨h14, w14, e'⟩ := e'
  replace e' := cl_s e'
  obtain ⟨r15, e15, e'⟩ := e'
  have y15 : r15 = Z 15 := r_eq P1.2.1.1 (by rw [w14] at e15; exact e15)
  rw [y15] at e'
  replace e' := nm_s e'
  obtain ⟨h16, w16, e'⟩ := e'
  have k14 : hI h14 (Z 15) 2 = hI hc1 (Z 2) 3 := by rw [w14, rI_a (zne D)]; exact m3.symm
  rw [k14] at w16
  replace e' := cl_s e'
  obtain ⟨o17, e17, e'⟩ := e'
  have PB1 : PB T N Z (wI (wI hc1 (Z 27) (hI hc1 (Z 2) 3).toNatClampNeg o2.1) (Z 2) 3 ((hI hc1 (Z 2) 3) + (1 : Int32))) h16 := by
    rw [w16, w14]
    exact pb_m D vl gz g0 P1 c
  obtain ⟨P17, _, R17⟩ := ps_aW (W := fun g => wI (wI g (Z 27) (hI hc1 (Z 2) 3).toNatClampNeg o2.1) (Z 2) 3 ((hI hc1 (Z 2) 3) + (1 : Int32))) n12 dg D n2 (fun _ _ _ => rfl) (fun _ _ _ => rfl) (fun g g' a j q => w_3 _ _ a j (w_3 g g' a j q)) (fun g a j ha => by
    rcases ha with rfl | rfl | rfl <;> (show hI (wI (wI g (Z 27) _ _) (Z 2) 3 _) _ j = _; rw [rI_a (zne D), rI_a (zne D)])) PB1 e9 e17
  have P17 : PS T N Z h17 o17 := by rw [w17, w15]; exact P17
  have m0 := m12.1
  have nm := nc_i m0
  have tx : ((hI hc1 (Z 2) 3) + (1 : Int32)).toInt = (hI hc1 (Z 2) 3).toInt + 1 := by rw [ta (by rw [z1]; omega), z1]
  refine ma_77 n12 dg n2 F F D P17 gz (by rw [g0]; rfl) m0 ?_ (show (0 : Int) ≤ (0 : Int32).toInt by decide) (by decide) ?_ e e'
  · rw [R17.2 _ _ (fun z => zn D z.1), w16, rI_s, tx]; omega
  · rw [R17.2 _ _ (fun z => zn D z.1), w16, rI_a (zne D), w14, rI_a (zne D)]
    exact (P1.2.2.2.2.2.2.2.2.2.2.2.2.2.2.2.1 (hI hc1 (Z 2) 3).toNatClampNeg (by rw [← m3]; omega) (by omega)).1
theorem ma_r (n12 : N ≤ 1200) (dg : ∀ j : Nat, (j : Int) < N → 0 ≤ T j ∧ T j ≤ 255) (D : ZD Z) (n2 : x2.toInt = N) (z7 : Z 997 = 0) (z6 : Z 996 = 0) (P : PS T N Z hc hr) (e : sX2_takeMan F hc (Z 3) = some o) (e' : sX15_isMan F hr (Z 16) (Z 82) x2 = some o') : Out T N Z o o' := by
  have z1 : (1 : Int32).toInt = 1 := rfl
  have z12 : (12 : Int32).toInt = 12 := rfl
  unfold sX2_takeMan sX2_takeMan_38 at e
  unfold sX15_isMan sX15_isMan_48 at e'
  replace e := cl_s e
  obtain ⟨hc1, ea, e⟩ := e
  replace e' := cl_s e'
  obtain ⟨hr1, en, e'⟩ := e'
  have P1 := ps_a n12 dg D n2 (ps_b P).1 (ps_b P).2 ea en
  have no : some ((0 : Int32), hc1) = some o → some ((0 : Int32), hr1) = some o' → Out T N Z o o' := fun e e' => by
    rw [← Option.some.inj e, ← Option.some.inj e']; exact out_0 P1
  replace e := cl_s e
  obtain ⟨o2, e2, e⟩ := e
  obtain ⟨q1, v1⟩ := one_r n12 (ps_m P1) e2
  rw [q1] at e
  rcases v1 with ⟨v1, n1⟩ | ⟨v1, ⟨k1, l1⟩, y1, rg1⟩
  · replace e := br_s e
    rcases e with ⟨_, e⟩ | ⟨nb, _⟩
    rotate_left
    · exact absurd v1 nb
    replace e' := br_s e'
    rcases e' with ⟨k, e'⟩ | ⟨k, e'⟩
    · replace e' := br_s e'
      rcases e' with ⟨l, e'⟩ | ⟨l, e'⟩
      · exact absurd ⟨k, l⟩ n1
      · exact no e e'
    · exact no e e'
  replace e := br_s e
  rcases e with ⟨nb, _⟩ | ⟨_, e⟩
  · exact absurd nb v1
  replace e' := br_s e'
  rcases e' with ⟨_, e'⟩ | ⟨k, _⟩
  rotate_left
  · exact absurd k1 k
  replace e' := br_s e'
  rcases e' with ⟨_, e'⟩ | ⟨l, _⟩
  rotate_left
  · exact absurd l1 l
  replace e := cl_s e
  obtain ⟨r4, e4, e⟩ := e
  rw [r_eq P1.1.2.1 e4] at e
  replace e := cl_s e
  obtain ⟨o5, e5, e⟩ := e
  replace e' := cl_s e'
  obtain ⟨o4, e4', e'⟩ := e'
  -- the reference finds him as the class does
  have fnd : o5.2 = hc1 ∧ o4.2 = hr1 ∧ o5.1 = o4.1 := by
    unfold sX15_manAt sX15_manAt_37 sX15_manAt_38 at e4'
    replace e4' := br_s e4'
    rcases e4' with ⟨_, e4'⟩ | ⟨n, _⟩
    rotate_left
    · exact absurd k1 n
    replace e4' := br_s e4'
    rcases e4' with ⟨_, e4'⟩ | ⟨n, _⟩
    rotate_left
    · exact absurd l1 n
    replace e4' := cl_s e4'
    obtain ⟨r5, e5', e4'⟩ := e4'
    rw [r_eq P1.2.1.1 e5'] at e4'
    replace e4' := (gd_s e4').2
    rw [← y1] at e4'
    replace e4' := cl_s e4'
    obtain ⟨o6, e6, e4'⟩ := e4'
    unfold sX1_manOf at e5
    unfold sX14_find at e6
    obtain ⟨a1, a2, a3, _⟩ := manf_r (ps_m P1).2.2.2.2.2 P1.1 P1.2.1 F F (show (0 : Int) ≤ (0 : Int32).toInt by decide) (by decide) e5 e6
    rw [← Option.some.inj e4']
    exact ⟨a1, a2, a3⟩
  obtain ⟨f1, f2, f3⟩ := fnd
  rw [f1] at e
  rw [f2, ← f3] at e'
  have m12 := P1.2.2.2.2.2.2.2.2.1
  replace e := br_s e
  replace e' := br_s e'
  rcases e with ⟨b, e⟩ | ⟨b, e⟩
  rotate_left
  · rcases e' with ⟨b', _⟩ | ⟨_, e'⟩
    · exact absurd b' b
    · exact no e e'
  rcases e' with ⟨_, e'⟩ | ⟨b', _⟩
  rotate_left
  · exact absurd b b'
  replace e := cl_s e
  obtain ⟨r7, e7, e⟩ := e
  rw [r_eq P1.1.2.1 e7] at e
  replace e' := cl_s e'
  obtain ⟨r6, e6, e'⟩ := e'
  have m3 : hI hc1 (Z 2) 3 = hI hr1 (Z 15) 2 := P1.2.2.2.2.2.2.1 (3, 2) (by decide)
  rw [r_eq P1.2.1.1 e6, ← m3] at e'
  replace e := br_s e
  replace e' := br_s e'
  rcases e with ⟨c, e⟩ | ⟨c, e⟩
  rotate_left
  · rcases e' with ⟨_, e'⟩ | ⟨c', _⟩
    · exact no e e'
    · have c := nlt_i c
      refine absurd (Int32.toInt_inj.mp ?_) c'
      rw [z12]; have := m12.2; omega
  have c := lt_i c
  rw [z12] at c
  rcases e' with ⟨c', _⟩ | ⟨_, e'⟩
  · rw [c', z12] at c; omega
  have l6 : LT6 (zg Z ((hI hc1 (Z 2) 3).toNatClampNeg + 1) 0) hc1 hr1 := fun j hj => ⟨fun _ => (ls_6 P1.2.2.2.2.2 j hj).1 (by rw [z7]; exact (Nat.succ_ne_zero j).symm), fun _ i hi => absurd hi (Nat.not_lt_zero i)⟩
  have r := ma_go (Z := zg Z ((hI hc1 (Z 2) 3).toNatClampNeg + 1) 0) n12 dg (zd_g D) n2 rfl rfl (ps_zg P1 l6) c m3 y1 rg1 e e'
  rw [zg_zg, zg_id z7 z6] at r
  exact r
end
end
