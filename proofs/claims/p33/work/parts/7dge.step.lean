/-! a step -/
def cns (x : Int32) : Bool := !(decide (x &&& (3 : Int32) = 3)) && !(decide (x &&& (24 : Int32) = 24))
def fit (x f : Int32) : Bool := decide (x &&& (if f = 1 ∨ f = 2 then (3 : Int32) else if f = 8 ∨ f = 16 then (24 : Int32) else f) = 0)
def rfit (x f : Int32) : Bool := decide (x &&& f = 0) && (decide ((x ||| f) &&& (1 : Int32) = 0) || decide ((x ||| f) &&& (2 : Int32) = 0)) && (decide ((x ||| f) &&& (8 : Int32) = 0) || decide ((x ||| f) &&& (16 : Int32) = 0))
theorem cns_a : ∀ y : Fin 64, ∀ f, f ∈ [(1 : Int32), 2, 4, 8, 16, 32] → cns (nI y.val) = true → fit (nI y.val) f = rfit (nI y.val) f ∧ (fit (nI y.val) f = true → cns ((nI y.val) ||| f) = true ∧ bc ((nI y.val) ||| f) 6 = bc (nI y.val) 6 + 1 ∧ rgb 0 63 ((nI y.val) ||| f) = true) := by decide +kernel
theorem cns_b : ∀ y : Fin 64, cns (nI y.val) = true → bc (nI y.val) 6 ≤ 4 := by decide +kernel
section
variable {T : Nat → Int} {N : Int} {F : Nat} {Z : Nat → Nat} {x2 : Int32} {hc hr oc or hc1 : Hp} {x man mine xi at_ : Int32} {o o' : Int32 × Hp} {i : Nat}
theorem fits_q {x f : Int32} (e : sX2_fits hc x f = some o) : o.2 = hc ∧ (o.1 = 0 ↔ fit x f = false) := by
  unfold sX2_fits sX2_fits_12 sX2_fits_29 sX2_fits_32 sX2_fits_43 at e
  have last : ∀ {a : Int32}, (if f = 1 ∨ f = 2 then (3 : Int32) else if f = 8 ∨ f = 16 then (24 : Int32) else f) = a → br ((x &&& a) = 0) (gd ((1 : Int32) &&& 1 = (1 : Int32)) <| some ((1 : Int32), hc)) (gd ((0 : Int32) &&& 1 = (0 : Int32)) <| some ((0 : Int32), hc)) = some o → o.2 = hc ∧ (o.1 = 0 ↔ fit x f = false) := fun {a} ha e => by
    unfold fit
    rw [ha]
    replace e := br_s e
    rcases e with ⟨b, e⟩ | ⟨b, e⟩
    · rw [← Option.some.inj (gd_s e).2, decide_eq_true b]
      exact ⟨rfl, ⟨fun z => absurd z i1n0, fun z => absurd z (by decide)⟩⟩
    · rw [← Option.some.inj (gd_s e).2, decide_eq_false b]
      exact ⟨rfl, ⟨fun _ => rfl, fun _ => rfl⟩⟩
  replace e := br_s e
  rcases e with ⟨b1, e⟩ | ⟨b1, e⟩
  · exact last (if_pos (Or.inl b1)) e
  replace e := br_s e
  rcases e with ⟨b2, e⟩ | ⟨b2, e⟩
  · exact last (if_pos (Or.inr b2)) e
  have n12 : ¬ (f = 1 ∨ f = 2) := fun z => z.elim b1 b2
  replace e := br_s e
  rcases e with ⟨b3, e⟩ | ⟨b3, e⟩
  · exact last ((if_neg n12).trans (if_pos (Or.inl b3))) e
  replace e := br_s e
  rcases e with ⟨b4, e⟩ | ⟨b4, e⟩
  · exact last ((if_neg n12).trans (if_pos (Or.inr b4))) e
  exact last ((if_neg n12).trans (if_neg (fun z => z.elim b3 b4))) e
/-- a word that may be there, and a number behind it -/
theorem tt_r (n12 : N ≤ 1200) (dg : ∀ j : Nat, (j : Int) < N → 0 ≤ T j ∧ T j ≤ 255) (D : ZD Z) (n2 : x2.toInt = N) {w w' : Nat} (hw : lB w = lB w') (sm : (lB w).length < 2147483648) {lo hi dfl : Int32} (lo1 : 1 ≤ lo.toInt) (P : PS T N Z hc hr) (e : sX2_takeTail F hc (Z 3) w lo hi dfl = some o) {q : Int32 × Hp} (eq : sX15_isWord F hr (Z 16) (Z 82) w' = some q) : q.2 = hr ∧ ((q.1 = 0 ∧ o = (dfl, hc)) ∨ (¬ q.1 = 0 ∧ ∀ {h3 : Hp}, sX15_nextToken F hr (Z 16) (Z 82) x2 = some h3 → ∀ {q4 : Int32 × Hp}, sX15_isNumber h3 (Z 16) lo hi = some q4 → q4.2 = h3 ∧ ((q4.1 = 0 ∧ o.1 = (-1 : Int32) ∧ Fl2 Z o.2 h3) ∨ (¬ q4.1 = 0 ∧ ¬ o.1 = (-1 : Int32) ∧ (o.1 = hI h3 (Z 16) 9 ∧ Rg lo.toInt hi.toInt o.1) ∧ ∃ hm : Hp, PS T N Z hm h3 ∧ sX2_advance F hm (Z 3) = some o.2)))) := by
  unfold sX2_takeTail at e
  replace e := cl_s e
  obtain ⟨o1, e1, e⟩ := e
  obtain ⟨q1, q2, q3⟩ := iw_r n12 P.2.2.1 P.2.2.2.1 P.2.2.2.2.1 hw sm e1 eq
  rw [q1] at e
  refine ⟨q2, ?_⟩
  replace e := br_s e
  rcases e with ⟨b, e⟩ | ⟨b, e⟩
  · exact Or.inl ⟨by rw [← q3]; exact b, (Option.some.inj e).symm⟩
  refine Or.inr ⟨by rw [← q3]; exact b, fun {h3} e3 {q4} e4 => ?_⟩
  replace e := cl_s e
  obtain ⟨o3, ea, e⟩ := e
  have PB0 := ps_b P
  have P3 := ps_a n12 dg D n2 PB0.1 PB0.2 ea e3
  replace e := cl_s e
  obtain ⟨o4, e4', e⟩ := e
  obtain ⟨t1, t2, t3, t4⟩ := in_r P3.2.2.2.2.1 e4' e4
  rw [t1] at e
  refine ⟨t2, ?_⟩
  replace e := br_s e
  rcases e with ⟨c, e⟩ | ⟨c, e⟩
  · rw [← Option.some.inj e]
    exact Or.inl ⟨by rw [← t3]; exact c, rfl, ps_fl P3⟩
  obtain ⟨u1, u2, u3⟩ := t4 c
  replace e := nm_s e
  obtain ⟨v6, w6, e⟩ := e
  replace e := cl_s e
  obtain ⟨o7, e7, e⟩ := e
  rw [← Option.some.inj e]
  refine Or.inr ⟨by rw [← t3]; exact c, fun z => ?_, ⟨by rw [← u1]; exact w6, by show lo.toInt ≤ v6.toInt; rw [w6]; exact u2, by show v6.toInt ≤ hi.toInt; rw [w6]; exact u3⟩, o3, P3, e7⟩
  have : v6.toInt = -1 := by have z : v6 = -1 := z; rw [z]; rfl
  rw [w6] at this
  omega
end
theorem en_1 {f a b : Int32} (i : Rg 0 63 f) (ia : Rg (-7) 7 a) (ib : Rg (-7) 7 b) : (f ||| (((a + (8 : Int32)) <<< ((6 : Int32) &&& 31)) ||| ((b + (8 : Int32)) <<< ((10 : Int32) &&& 31)))).toInt = f.toInt + 64 * (a.toInt + 8) + 1024 * (b.toInt + 8) := by
  have z8 : (8 : Int32).toInt = 8 := rfl
  have p6 : ((2 ^ 6 : Nat) : Int) = 64 := rfl
  have p10 : ((2 ^ 10 : Nat) : Int) = 1024 := rfl
  have i0 := i.1
  have i1 := i.2
  have a0 := ia.1
  have a1 := ia.2
  have b0 := ib.1
  have b1 := ib.2
  have ta' : (a + (8 : Int32)).toInt = a.toInt + 8 := by rw [ta (by rw [z8]; omega), z8]
  have tb' : (b + (8 : Int32)).toInt = b.toInt + 8 := by rw [ta (by rw [z8]; omega), z8]
  have s6 : ((a + (8 : Int32)) <<< ((6 : Int32) &&& 31)).toInt = (a.toInt + 8) * 64 := by rw [shl_i (m := 6) rfl (by rw [ta']; omega) (by rw [ta', p6]; omega), ta', p6]
  have s10 : ((b + (8 : Int32)) <<< ((10 : Int32) &&& 31)).toInt = (b.toInt + 8) * 1024 := by rw [shl_i (m := 10) rfl (by rw [tb']; omega) (by rw [tb', p10]; omega), tb', p10]
  have o1 := or_i (x := (a + (8 : Int32)) <<< ((6 : Int32) &&& 31)) (y := (b + (8 : Int32)) <<< ((10 : Int32) &&& 31)) (m := 10) (z := b.toInt + 8) (by rw [s6]; omega) (by rw [s6, p10]; omega) (by omega) (by rw [s10, p10]) (by rw [s6, s10]; omega)
  rw [s6, s10] at o1
  rw [or_i (m := 6) (z := (a.toInt + 8) + 16 * (b.toInt + 8)) i0 (by rw [p6]; omega) (by omega) (by rw [o1, p6]; omega) (by rw [o1]; omega), o1]
  omega
theorem en_2 {w r s : Int32} (i : Rg 0 16383 w) (ir : Rg 1 7 r) (is : Rg 0 8 s) : ((w ||| (r <<< ((14 : Int32) &&& 31))) ||| (s <<< ((17 : Int32) &&& 31))).toInt = w.toInt + 16384 * r.toInt + 131072 * s.toInt := by
  have p14 : ((2 ^ 14 : Nat) : Int) = 16384 := rfl
  have p17 : ((2 ^ 17 : Nat) : Int) = 131072 := rfl
  have i0 := i.1
  have i1 := i.2
  have r0 := ir.1
  have r1 := ir.2
  have s0 := is.1
  have s1 := is.2
  have e14 : (r <<< ((14 : Int32) &&& 31)).toInt = r.toInt * 16384 := by rw [shl_i (m := 14) rfl (by omega) (by rw [p14]; omega), p14]
  have e17 : (s <<< ((17 : Int32) &&& 31)).toInt = s.toInt * 131072 := by rw [shl_i (m := 17) rfl s0 (by rw [p17]; omega), p17]
  have o1 := or_i (x := w) (y := r <<< ((14 : Int32) &&& 31)) (m := 14) (z := r.toInt) i0 (by rw [p14]; omega) (by omega) (by rw [e14, p14]) (by rw [e14]; omega)
  rw [e14] at o1
  rw [or_i (m := 17) (z := s.toInt) (by rw [o1]; omega) (by rw [o1, p17]; omega) s0 (by rw [e17, p17]) (by rw [o1, e17]; omega), o1, e17]
  omega
/-- what is known of the step that is being told -/
def StC (Z : Nat → Nat) (m : Nat) (x1 xk pt : Int32) : Prop := Z 997 = m + 1 ∧ Z 996 < 8 ∧ (Rg 0 11 x1 ∧ x1.toNatClampNeg = m) ∧ xk.toInt = ((Z 996 : Nat) : Int) ∧ pt.toNatClampNeg = 8 * m + Z 996
/-- the reference's five numbers of it -/
def V5 (Z : Nat → Nat) (h : Hp) (p : Nat) (f a b r s : Int32) : Prop := hI h (Z 75) p = f ∧ hI h (Z 76) p = a ∧ hI h (Z 77) p = b ∧ hI h (Z 78) p = r ∧ hI h (Z 79) p = s
/-- it is told: both have it -/
def Dn (Z : Nat → Nat) (m : Nat) (xk pt : Int32) (o o' : Int32 × Hp) : Prop := ¬ o.1 = 0 → SXs Z o.2 o'.2 pt.toNatClampNeg ∧ hI o.2 (Z 29) m = xk + (1 : Int32)
theorem dn_0 {Z : Nat → Nat} {m : Nat} {xk pt : Int32} {h : Hp} {o' : Int32 × Hp} : Dn Z m xk pt ((0 : Int32), h) o' := fun z => absurd rfl z
/-- the row of how many steps stays -/
def Q74 (Z : Nat → Nat) (hr h : Hp) : Prop := (∀ q, hI h (Z 74) q = hI hr (Z 74) q) ∧ hI h (Z 15) 2 = hI hr (Z 15) 2
section
variable {T : Nat → Int} {N : Int} {F : Nat} {Z : Nat → Nat} {x2 : Int32} {hc hr oc or hc1 : Hp} {x man mine xi pt : Int32} {o o' : Int32 × Hp} {i : Nat} {x1 xk x3 x4 x5 v1 : Int32}
theorem q74_n (n12 : N ≤ 1200) (dg : ∀ j : Nat, (j : Int) < N → 0 ≤ T j ∧ T j ≤ 255) (D : ZD Z) (n2 : x2.toInt = N) (P : PS T N Z hc hr) {h : Hp} (e : sX15_nextToken F hr (Z 16) (Z 82) x2 = some h) : Q74 Z hr h := by
  have K := (nt_k (by omega) dg (zne D) P.2.2.2.1 n2 (by rw [← (ps_b P).2.1]; exact (ps_b P).2.2.1) (by rw [← (ps_b P).2.1]; exact (ps_b P).2.2.2) e).1
  exact ⟨fun q => K.2 _ _ (fun z => zn D z.1), K.2 _ _ (fun z => zn D z.1)⟩
theorem q74_w (D : ZD Z) {k j : Nat} {v : Int32} (hk : k ∈ zl) (n : ¬ 74 = k ∧ ¬ 15 = k) : Q74 Z hr (wI hr (Z k) j v) := ⟨fun _ => rI_a (zne D n.1 (by decide) hk), rI_a (zne D n.2 (by decide) hk)⟩
theorem q74_0 : Q74 Z hr hr := ⟨fun _ => rfl, rfl⟩
theorem q74_t {h1 h2 : Hp} (a : Q74 Z hr h1) (b : Q74 Z h1 h2) : Q74 Z hr h2 := ⟨fun q => (b.1 q).trans (a.1 q), b.2.trans a.2⟩
theorem v5_n (n12 : N ≤ 1200) (dg : ∀ j : Nat, (j : Int) < N → 0 ≤ T j ∧ T j ≤ 255) (D : ZD Z) (n2 : x2.toInt = N) (P : PS T N Z hc hr) {h : Hp} (e : sX15_nextToken F hr (Z 16) (Z 82) x2 = some h) {p : Nat} {f a b r s : Int32} (V : V5 Z hr p f a b r s) : V5 Z h p f a b r s := by
  have K := (nt_k (by omega) dg (zne D) P.2.2.2.1 n2 (by rw [← (ps_b P).2.1]; exact (ps_b P).2.2.1) (by rw [← (ps_b P).2.1]; exact (ps_b P).2.2.2) e).1
  obtain ⟨a1, a2, a3, a4, a5⟩ := V
  exact ⟨by rw [K.2 _ _ (fun z => zn D z.1)]; exact a1, by rw [K.2 _ _ (fun z => zn D z.1)]; exact a2, by rw [K.2 _ _ (fun z => zn D z.1)]; exact a3, by rw [K.2 _ _ (fun z => zn D z.1)]; exact a4, by rw [K.2 _ _ (fun z => zn D z.1)]; exact a5⟩
/-- the step is noted -/
theorem sp_168 (D : ZD Z) {m : Nat} (C : StC Z m x1 xk pt) {t0 f a b : Int32} (i5 : Rg 1 7 x5) (i0 : Rg 0 8 t0) (iv : (Rg 0 63 f ∧ Rg (-7) 7 a ∧ Rg (-7) 7 b) ∧ v1.toInt = f.toInt + 64 * (a.toInt + 8) + 1024 * (b.toInt + 8)) (V : V5 Z hr pt.toNatClampNeg f a b x5 t0) (P : PS T N Z hc hr) (e : sX2_takeStep_168 F hc (Z 3) x1 xk v1 x5 t0 = some o) : ¬ o.1 = 0 ∧ PS T N Z o.2 hr ∧ SXs Z o.2 hr pt.toNatClampNeg ∧ hI o.2 (Z 29) m = xk + (1 : Int32) := by
  have z8 : (8 : Int32).toInt = 8 := rfl
  have zm : (-1 : Int32).toInt = -1 := rfl
  obtain ⟨gz, g8, ⟨ix, ixm⟩, ik, ip⟩ := C
  have ix0 := ix.1
  have ix1 := ix.2
  have i50 := i5.1
  have i00 := i0.1
  have n5 : ¬ x5 = (-1 : Int32) := fun z => by rw [z, zm] at i50; omega
  have nt : ¬ t0 = (-1 : Int32) := fun z => by rw [z, zm] at i00; omega
  have nx := nc_i ix0
  have m8 : (x1 * (8 : Int32)).toInt = x1.toInt * 8 := by rw [tm (by rw [z8]; omega), z8]
  have ad : ((x1 * (8 : Int32)) + xk).toInt = x1.toInt * 8 + xk.toInt := by rw [ta (by rw [m8]; omega), m8]
  have na := nc_i (x := (x1 * (8 : Int32)) + xk) (by rw [ad]; omega)
  have pe : ((x1 * (8 : Int32)) + xk).toNatClampNeg = 8 * m + Z 996 := by rw [ad] at na; omega
  unfold sX2_takeStep_168 at e
  replace e := br_s e
  rcases e with ⟨b, _⟩ | ⟨_, e⟩
  · exact absurd b n5
  replace e := br_s e
  rcases e with ⟨b, _⟩ | ⟨_, e⟩
  · exact absurd b nt
  replace e := cl_s e
  obtain ⟨r3, e3, e⟩ := e
  rw [r_eq P.1.2.1 e3] at e
  replace e := cl_s e
  obtain ⟨r4, e4, e⟩ := e
  rw [r_eq P.1.2.2.2.2.1 e4] at e
  replace e := (gd_s e).2
  replace e := nm_s e
  obtain ⟨h6, w6, e⟩ := e
  rw [pe] at w6
  have P6 : PS T N Z h6 hr := by rw [w6]; exact ps_wc D gz (Or.inl ⟨rfl, rfl⟩) g8 P
  replace e := cl_s e
  obtain ⟨r7, e7, e⟩ := e
  rw [r_eq P6.1.2.1 e7] at e
  replace e := cl_s e
  obtain ⟨r8, e8, e⟩ := e
  rw [r_eq P6.1.2.2.2.2.2.1 e8] at e
  replace e := (gd_s e).2
  replace e := nm_s e
  obtain ⟨h10, w10, e⟩ := e
  rw [ixm] at w10
  rw [← Option.some.inj e]
  refine ⟨i1n0, ?_, ?_, ?_⟩
  · show PS T N Z h10 hr
    rw [w10]
    exact ps_wc D gz (Or.inr ⟨rfl, rfl⟩) g8 P6
  · show StE (hI h10 (Z 28) pt.toNatClampNeg) _ _ _ _ _
    obtain ⟨a1, a2, a3, a4, a5⟩ := V
    have i1 : Rg 0 16383 v1 := by
      have q1 := iv.1.1.1
      have q2 := iv.1.1.2
      have q3 := iv.1.2.1.1
      have q4 := iv.1.2.1.2
      have q5 := iv.1.2.2.1
      have q6 := iv.1.2.2.2
      have q7 := iv.2
      exact ⟨by omega, by omega⟩
    rw [a1, a2, a3, a4, a5, ip, w10, rI_a (zne D), w6, rI_s]
    exact ⟨⟨iv.1.1, iv.1.2.1, iv.1.2.2, i5, i0⟩, by rw [en_2 i1 i5 i0, iv.2]⟩
  · show hI h10 (Z 29) m = _
    rw [w10, rI_s]
theorem sp_244 (n12 : N ≤ 1200) (dg : ∀ j : Nat, (j : Int) < N → 0 ≤ T j ∧ T j ≤ 255) (D : ZD Z) (n2 : x2.toInt = N) {m : Nat} (C : StC Z m x1 xk pt) {f a b : Int32} (i5 : Rg 1 7 x5) (iv : (Rg 0 63 f ∧ Rg (-7) 7 a ∧ Rg (-7) 7 b) ∧ v1.toInt = f.toInt + 64 * (a.toInt + 8) + 1024 * (b.toInt + 8)) (V : V5 Z hr pt.toNatClampNeg f a b x5 (0 : Int32)) (P : PS T N Z hc hr) (e : (cl (hR hc (Z 3) 1) fun r_5 => cl (sX2_takeTail F hc (Z 3) 12 (1 : Int32) (hI hc r_5 1) (0 : Int32)) fun o_6 => sX2_takeStep_168 F o_6.2 (Z 3) x1 xk v1 x5 o_6.1) = some o) (e' : sX15_isStep_244 F hr (Z 16) (Z 82) x2 pt = some o') : (Out T N Z o o' ∧ Q74 Z hr o'.2) ∧ Dn Z m xk pt o o' := by
  have n5 : ¬ x5 = (-1 : Int32) := fun z => by
    have i50 := i5.1
    rw [z] at i50
    exact absurd i50 (by decide)
  replace e := cl_s e
  obtain ⟨r5, e5, e⟩ := e
  rw [r_eq P.1.2.1 e5] at e
  replace e := cl_s e
  obtain ⟨o6, e6, e⟩ := e
  unfold sX15_isStep_244 sX15_isStep_296 at e'
  replace e' := cl_s e'
  obtain ⟨q, eq, e'⟩ := e'
  obtain ⟨t1, t2⟩ := tt_r n12 dg D n2 (w := 12) (w' := 38) rfl (by decide) (by decide) P e6 eq
  rw [t1] at e'
  rcases t2 with ⟨c, eo⟩ | ⟨c, more⟩
  · replace e' := br_s e'
    rcases e' with ⟨_, e'⟩ | ⟨n, _⟩
    rotate_left
    · exact absurd c n
    rw [eo] at e
    obtain ⟨a1, a2, a3⟩ := sp_168 D C i5 ⟨by decide, by decide⟩ iv V P e
    rw [← Option.some.inj e']
    exact ⟨⟨Or.inr ⟨a1, i1n0, a2⟩, q74_0⟩, fun _ => a3⟩
  replace e' := br_s e'
  rcases e' with ⟨n, _⟩ | ⟨_, e'⟩
  · exact absurd n c
  replace e' := cl_s e'
  obtain ⟨h3, e3, e'⟩ := e'
  replace e' := cl_s e'
  obtain ⟨r4, e4, e'⟩ := e'
  have q3 := q74_n n12 dg D n2 P e3
  have K3 := (nt_k (by omega) dg (zne D) P.2.2.2.1 n2 (by rw [← (ps_b P).2.1]; exact (ps_b P).2.2.1) (by rw [← (ps_b P).2.1]; exact (ps_b P).2.2.2) e3).1
  have y4 : r4 = Z 15 := r_eq P.2.1.1 (by rw [← K3.1.1]; exact e4)
  have rk : hI h3 (Z 15) 1 = hI hc (Z 2) 1 := by
    rw [K3.2 _ _ (fun z => zn D z.1)]
    exact (P.2.2.2.2.2.2.1 (1, 1) (by decide)).symm
  rw [y4, rk] at e'
  replace e' := cl_s e'
  obtain ⟨q4, e4', e'⟩ := e'
  obtain ⟨u1, u2⟩ := more e3 e4'
  rw [u1] at e'
  rcases u2 with ⟨d, d1, d2⟩ | ⟨d, d1, d2, hm, Pm, ea⟩
  · replace e' := br_s e'
    rcases e' with ⟨_, e'⟩ | ⟨n, _⟩
    rotate_left
    · exact absurd d n
    unfold sX2_takeStep_168 sX2_takeStep_182 at e
    rw [d1] at e
    replace e := br_s e
    rcases e with ⟨b, _⟩ | ⟨_, e⟩
    · exact absurd b n5
    replace e := br_s e
    rcases e with ⟨_, e⟩ | ⟨n, _⟩
    · rw [← Option.some.inj e, ← Option.some.inj e']
      exact ⟨⟨Or.inl ⟨rfl, rfl, d2⟩, q3⟩, dn_0⟩
    · exact absurd rfl n
  replace e' := br_s e'
  rcases e' with ⟨n, _⟩ | ⟨_, e'⟩
  · exact absurd n d
  replace e' := cl_s e'
  obtain ⟨r7, e7, e'⟩ := e'
  rw [r_eq Pm.2.1.1 e7] at e'
  replace e' := cl_s e'
  obtain ⟨r8, e8, e'⟩ := e'
  rw [r_eq Pm.2.1.2.2.2.2.2.2.2.1 e8] at e'
  replace e' := (gd_s e').2
  replace e' := nm_s e'
  obtain ⟨h10, w10, e'⟩ := e'
  have P10 : PS T N Z hm h10 := by rw [w10]; exact ps_wr D C.1 (by decide) C.2.2.2.2 C.2.1 Pm
  replace e' := cl_s e'
  obtain ⟨o11, e11, e'⟩ := e'
  have P11 := ps_a n12 dg D n2 (ps_b P10).1 (ps_b P10).2 ea e11
  have V3 := v5_n n12 dg D n2 P e3 V
  have V10 : V5 Z h10 pt.toNatClampNeg f a b x5 o6.1 := by
    obtain ⟨a1, a2, a3, a4, _⟩ := V3
    rw [w10]
    exact ⟨by rw [rI_a (zne D)]; exact a1, by rw [rI_a (zne D)]; exact a2, by rw [rI_a (zne D)]; exact a3, by rw [rI_a (zne D)]; exact a4, by rw [rI_s]; exact d2.1.symm⟩
  have rkg : Rg 0 8 o6.1 := by
    have q1 := d2.2.1
    have q2 := d2.2.2
    have q3 := P.2.2.2.2.2.2.2.2.2.2.2.2.1.2.1.2
    have z1 : (1 : Int32).toInt = 1 := rfl
    rw [z1] at q1
    exact ⟨by omega, by omega⟩
  obtain ⟨a1, a2, a3⟩ := sp_168 D C i5 rkg iv (v5_n n12 dg D n2 P10 e11 V10) P11 e
  have q11 := q74_n n12 dg D n2 P10 e11
  rw [← Option.some.inj e']
  refine ⟨⟨Or.inr ⟨a1, i1n0, a2⟩, q74_t q3 (q74_t ?_ q11)⟩, fun _ => a3⟩
  rw [w10]; exact q74_w D (by decide) (by decide)
theorem sp_158 (n12 : N ≤ 1200) (dg : ∀ j : Nat, (j : Int) < N → 0 ≤ T j ∧ T j ≤ 255) (D : ZD Z) (n2 : x2.toInt = N) {m : Nat} (C : StC Z m x1 xk pt) (f75 : hI hr (Z 75) pt.toNatClampNeg = x3) (f76 : hI hr (Z 76) pt.toNatClampNeg = x4) (i3 : Rg 0 63 x3) (i4 : Rg (-7) 7 x4) (ib : Rg (-7) 7 (hI hc (Z 3) 5)) (vb : hI hc (Z 3) 5 = hI hr (Z 16) 9) (P : PS T N Z hc hr) (e : sX2_takeStep_105 F hc (Z 3) x1 xk x3 x4 = some o) (e' : sX15_isStep_158 F hr (Z 16) (Z 82) x2 pt = some o') : (Out T N Z o o' ∧ Q74 Z hr o'.2) ∧ Dn Z m xk pt o o' := by
  unfold sX2_takeStep_105 at e
  replace e := nm_s e
  obtain ⟨v1, wv1, e⟩ := e
  have iv : (Rg 0 63 x3 ∧ Rg (-7) 7 x4 ∧ Rg (-7) 7 (hI hc (Z 3) 5)) ∧ v1.toInt = x3.toInt + 64 * (x4.toInt + 8) + 1024 * ((hI hc (Z 3) 5).toInt + 8) := ⟨⟨i3, i4, ib⟩, by rw [wv1]; exact en_1 i3 i4 ib⟩
  replace e := cl_s e
  obtain ⟨o2, ea, e⟩ := e
  unfold sX15_isStep_158 at e'
  replace e' := cl_s e'
  obtain ⟨r1, e1, e'⟩ := e'
  rw [r_eq P.2.1.1 e1] at e'
  replace e' := cl_s e'
  obtain ⟨r2, e2, e'⟩ := e'
  rw [r_eq P.2.1.2.2.2.2.2.1 e2] at e'
  replace e' := (gd_s e').2
  replace e' := nm_s e'
  obtain ⟨h4, w4, e'⟩ := e'
  have P4 : PS T N Z hc h4 := by rw [w4]; exact ps_wr D C.1 (by decide) C.2.2.2.2 C.2.1 P
  replace e' := cl_s e'
  obtain ⟨r5, e5, e'⟩ := e'
  rw [r_eq P4.2.1.1 e5] at e'
  replace e' := cl_s e'
  obtain ⟨r6, e6, e'⟩ := e'
  rw [r_eq P4.2.1.2.2.2.2.2.2.1 e6] at e'
  replace e' := (gd_s e').2
  replace e' := nm_s e'
  obtain ⟨h8, w8, e'⟩ := e'
  have P8 : PS T N Z hc h8 := by rw [w8]; exact ps_wr D C.1 (by decide) C.2.2.2.2 C.2.1 P4
  replace e' := cl_s e'
  obtain ⟨r9, e9, e'⟩ := e'
  rw [r_eq P8.2.1.1 e9] at e'
  replace e' := cl_s e'
  obtain ⟨r10, e10, e'⟩ := e'
  rw [r_eq P8.2.1.2.2.2.2.2.2.2.1 e10] at e'
  replace e' := (gd_s e').2
  replace e' := nm_s e'
  obtain ⟨h12, w12, e'⟩ := e'
  have P12 : PS T N Z hc h12 := by rw [w12]; exact ps_wr D C.1 (by decide) C.2.2.2.2 C.2.1 P8
  replace e' := cl_s e'
  obtain ⟨o13, e13, e'⟩ := e'
  have q12 : Q74 Z hr h12 := by
    rw [w12]
    refine q74_t (h1 := h8) (q74_t (h1 := h4) ?_ ?_) (q74_w D (by decide) (by decide))
    · rw [w4]; exact q74_w D (by decide) (by decide)
    · rw [w8]; exact q74_w D (by decide) (by decide)
  have q13 := q74_t q12 (q74_n n12 dg D n2 P12 e13)
  have P13 := ps_a n12 dg D n2 (ps_b P12).1 (ps_b P12).2 ea e13
  have V12 : V5 Z h12 pt.toNatClampNeg x3 x4 (hI hc (Z 3) 5) (1 : Int32) (0 : Int32) := by
    rw [w12, w8, w4]
    exact ⟨by rw [rI_a (zne D), rI_a (zne D), rI_a (zne D)]; exact f75, by rw [rI_a (zne D), rI_a (zne D), rI_a (zne D)]; exact f76, by rw [rI_a (zne D), rI_a (zne D), rI_s]; exact vb.symm, by rw [rI_a (zne D), rI_s], by rw [rI_s]⟩
  have V13 := v5_n n12 dg D n2 P12 e13 V12
  replace e := cl_s e
  obtain ⟨o3, e3, e⟩ := e
  replace e' := cl_s e'
  obtain ⟨q, eq, e'⟩ := e'
  obtain ⟨t1, t2⟩ := tt_r n12 dg D n2 (w := 11) (w' := 37) rfl (by decide) (by decide) P13 e3 eq
  rw [t1] at e'
  rcases t2 with ⟨c, eo⟩ | ⟨c, more⟩
  · replace e' := br_s e'
    rcases e' with ⟨_, e'⟩ | ⟨n, _⟩
    rotate_left
    · exact absurd c n
    rw [eo] at e
    replace e := br_s e
    rcases e with ⟨n, _⟩ | ⟨_, e⟩
    · exact absurd n (show ¬ (1 : Int32) = -1 by decide)
    obtain ⟨⟨y1, y2⟩, y3⟩ := sp_244 n12 dg D n2 C ⟨by decide, by decide⟩ iv V13 P13 e e'
    exact ⟨⟨y1, q74_t q13 y2⟩, y3⟩
  replace e' := br_s e'
  rcases e' with ⟨n, _⟩ | ⟨_, e'⟩
  · exact absurd n c
  replace e' := cl_s e'
  obtain ⟨h16, e16, e'⟩ := e'
  replace e' := cl_s e'
  obtain ⟨q17, e17, e'⟩ := e'
  obtain ⟨u1, u2⟩ := more e16 e17
  rw [u1] at e'
  rcases u2 with ⟨d, d1, d2⟩ | ⟨d, d1, d2, hm, Pm, ea'⟩
  · replace e' := br_s e'
    rcases e' with ⟨_, e'⟩ | ⟨n, _⟩
    rotate_left
    · exact absurd d n
    replace e := br_s e
    rcases e with ⟨_, e⟩ | ⟨n, _⟩
    rotate_left
    · exact absurd d1 n
    unfold sX2_takeStep_168 sX2_takeStep_182 at e
    replace e := br_s e
    rcases e with ⟨_, e⟩ | ⟨n, _⟩
    · rw [← Option.some.inj e, ← Option.some.inj e']
      exact ⟨⟨Or.inl ⟨rfl, rfl, d2⟩, q74_t q13 (q74_n n12 dg D n2 P13 e16)⟩, dn_0⟩
    · exact absurd d1 n
  replace e' := br_s e'
  rcases e' with ⟨n, _⟩ | ⟨_, e'⟩
  · exact absurd n d
  replace e' := cl_s e'
  obtain ⟨r19, e19, e'⟩ := e'
  rw [r_eq Pm.2.1.1 e19] at e'
  replace e' := cl_s e'
  obtain ⟨r20, e20, e'⟩ := e'
  rw [r_eq Pm.2.1.2.2.2.2.2.2.1 e20] at e'
  replace e' := (gd_s e').2
  replace e' := nm_s e'
  obtain ⟨h22, w22, e'⟩ := e'
  have P22 : PS T N Z hm h22 := by rw [w22]; exact ps_wr D C.1 (by decide) C.2.2.2.2 C.2.1 Pm
  replace e' := cl_s e'
  obtain ⟨o23, e23, e'⟩ := e'
  have P23 := ps_a n12 dg D n2 (ps_b P22).1 (ps_b P22).2 ea' e23
  replace e := br_s e
  rcases e with ⟨n, _⟩ | ⟨_, e⟩
  · exact absurd n d1
  have V16 := v5_n n12 dg D n2 P13 e16 V13
  have V22 : V5 Z h22 pt.toNatClampNeg x3 x4 (hI hc (Z 3) 5) o3.1 (0 : Int32) := by
    obtain ⟨a1, a2, a3, _, a5⟩ := V16
    rw [w22]
    exact ⟨by rw [rI_a (zne D)]; exact a1, by rw [rI_a (zne D)]; exact a2, by rw [rI_a (zne D)]; exact a3, by rw [rI_s]; exact d2.1.symm, by rw [rI_a (zne D)]; exact a5⟩
  have r17 : Rg 1 7 o3.1 := by
    have q1 := d2.2.1
    have q2 := d2.2.2
    have z2 : (2 : Int32).toInt = 2 := rfl
    have z7 : (7 : Int32).toInt = 7 := rfl
    rw [z2] at q1
    rw [z7] at q2
    exact ⟨by omega, by omega⟩
  obtain ⟨⟨y1, y2⟩, y3⟩ := sp_244 n12 dg D n2 C r17 iv (v5_n n12 dg D n2 P22 e23 V22) P23 e e'
  refine ⟨⟨y1, q74_t (q74_t (q74_t q13 (q74_n n12 dg D n2 P13 e16)) ?_) (q74_t (q74_n n12 dg D n2 P22 e23) y2)⟩, y3⟩
  rw [w22]; exact q74_w D (by decide) (by decide)
/-- numbers of a step -/
theorem sp_57 (n12 : N ≤ 1200) (dg : ∀ j : Nat, (j : Int) < N → 0 ≤ T j ∧ T j ≤ 255) (D : ZD Z) (n2 : x2.toInt = N) {m : Nat} (C : StC Z m x1 xk pt) (i3 : Rg 0 63 x3) (p96 : 0 ≤ pt.toInt) (P : PS T N Z hc hr) (nk : ¬ hI hr (Z 16) 6 = (1 : Int32)) {g : Nat} (e : sX2_takeStep_57 F hc (Z 3) x1 xk x3 = some o) (e' : sX15_isStep_3 F (g + 1) hr (Z 16) (Z 82) x2 pt x3 = some o') : (Out T N Z o o' ∧ Q74 Z hr o'.2) ∧ Dn Z m xk pt o o' := by
  rw [sX15_isStep_3] at e'
  replace e' := br_s e'
  rcases e' with ⟨k, _⟩ | ⟨_, e'⟩
  · exact absurd k nk
  replace e' := cl_s e'
  obtain ⟨r2, e2, e'⟩ := e'
  rw [r_eq P.2.1.1 e2] at e'
  replace e' := cl_s e'
  obtain ⟨r3, e3, e'⟩ := e'
  rw [r_eq P.2.1.2.2.2.1 e3] at e'
  replace e' := (gd_s e').2
  replace e' := nm_s e'
  obtain ⟨h5, w5, e'⟩ := e'
  have P5 : PS T N Z hc h5 := by rw [w5]; exact ps_wr D C.1 (by decide) C.2.2.2.2 C.2.1 P
  have q5 : Q74 Z hr h5 := by rw [w5]; exact q74_w D (by decide) (by decide)
  unfold sX2_takeStep_57 sX2_takeStep_103 at e
  replace e := cl_s e
  obtain ⟨o1, e1, e⟩ := e
  replace e' := cl_s e'
  obtain ⟨o6, e6, e'⟩ := e'
  obtain ⟨t1, t2, t3, t4⟩ := in_r P5.2.2.2.2.1 e1 e6
  rw [t1] at e
  rw [t2, ← t3] at e'
  replace e := br_s e
  replace e' := br_s e'
  rcases e with ⟨b, e⟩ | ⟨b, e⟩
  · rcases e' with ⟨_, e'⟩ | ⟨b', _⟩
    · rw [← Option.some.inj e, ← Option.some.inj e']; exact ⟨⟨out_0 P5, q5⟩, dn_0⟩
    · exact absurd b b'
  rcases e' with ⟨b', _⟩ | ⟨_, e'⟩
  · exact absurd b' b
  obtain ⟨va, va1, va2⟩ := t4 b
  replace e := nm_s e
  obtain ⟨v3, w3, e⟩ := e
  replace e := cl_s e
  obtain ⟨o4, ea, e⟩ := e
  replace e' := cl_s e'
  obtain ⟨r8, e8, e'⟩ := e'
  rw [r_eq P5.2.1.1 e8] at e'
  replace e' := cl_s e'
  obtain ⟨r9, e9, e'⟩ := e'
  rw [r_eq P5.2.1.2.2.2.2.1 e9] at e'
  replace e' := (gd_s e').2
  replace e' := nm_s e'
  obtain ⟨h11, w11, e'⟩ := e'
  have P11 : PS T N Z hc h11 := by rw [w11]; exact ps_wr D C.1 (by decide) C.2.2.2.2 C.2.1 P5
  replace e' := cl_s e'
  obtain ⟨o12, e12, e'⟩ := e'
  have P12 := ps_a n12 dg D n2 (ps_b P11).1 (ps_b P11).2 ea e12
  have q12 : Q74 Z hr o12 := by
    refine q74_t (q74_t q5 ?_) (q74_n n12 dg D n2 P11 e12)
    rw [w11]; exact q74_w D (by decide) (by decide)
  have K12 := (nt_k (by omega) dg (zne D) P11.2.2.2.1 n2 (by rw [← (ps_b P11).2.1]; exact (ps_b P11).2.2.1) (by rw [← (ps_b P11).2.1]; exact (ps_b P11).2.2.2) e12).1
  have a76 : hI o12 (Z 76) pt.toNatClampNeg = v3 := by
    rw [K12.2 _ _ (fun z => zn D z.1), w11, rI_s, w3]; exact va.symm
  have a75 : hI o12 (Z 75) pt.toNatClampNeg = x3 := by
    rw [K12.2 _ _ (fun z => zn D z.1), w11, rI_a (zne D), w5, rI_s]
  have i4 : Rg (-7) 7 v3 := by rw [w3]; exact ⟨va1, va2⟩
  replace e := cl_s e
  obtain ⟨o5, e5, e⟩ := e
  replace e' := cl_s e'
  obtain ⟨o13, e13, e'⟩ := e'
  obtain ⟨s1, s2, s3, s4⟩ := in_r P12.2.2.2.2.1 e5 e13
  rw [s1] at e
  rw [s2, ← s3] at e'
  unfold sX15_isStep_156 at e'
  replace e := br_s e
  replace e' := br_s e'
  rcases e with ⟨c, e⟩ | ⟨c, e⟩
  · rcases e' with ⟨_, e'⟩ | ⟨c', _⟩
    · rw [← Option.some.inj e, ← Option.some.inj e']; exact ⟨⟨out_0 P12, q12⟩, dn_0⟩
    · exact absurd c c'
  rcases e' with ⟨c', _⟩ | ⟨_, e'⟩
  · exact absurd c' c
  obtain ⟨vb, vb1, vb2⟩ := s4 c
  have go : sX2_takeStep_105 F o4 (Z 3) x1 xk x3 v3 = some o → sX15_isStep_158 F o12 (Z 16) (Z 82) x2 pt = some o' → (Out T N Z o o' ∧ Q74 Z hr o'.2) ∧ Dn Z m xk pt o o' := fun e e' => by
    obtain ⟨⟨y1, y2⟩, y3⟩ := sp_158 n12 dg D n2 C a75 a76 i3 i4 ⟨vb1, vb2⟩ vb P12 e e'
    exact ⟨⟨y1, q74_t q12 y2⟩, y3⟩
  rw [← vb] at e'
  replace e := br_s e
  replace e' := br_s e'
  rcases e with ⟨d, e⟩ | ⟨d, e⟩
  · replace e := br_s e
    rcases e with ⟨f, e⟩ | ⟨f, e⟩
    · rcases e' with ⟨_, e'⟩ | ⟨f', _⟩
      rotate_left
      · exact absurd f f'
      replace e' := cl_s e'
      obtain ⟨r16, e16, e'⟩ := e'
      rw [r_eq P12.2.1.1 e16] at e'
      replace e' := cl_s e'
      obtain ⟨r17, e17, e'⟩ := e'
      rw [r_eq P12.2.1.2.2.2.2.1 e17, a76] at e'
      replace e' := (gd_s e').2
      replace e' := br_s e'
      rcases e' with ⟨_, e'⟩ | ⟨n, _⟩
      · rw [← Option.some.inj e, ← Option.some.inj e']; exact ⟨⟨out_0 P12, q12⟩, dn_0⟩
      · exact absurd d n
    · rcases e' with ⟨f', _⟩ | ⟨_, e'⟩
      · exact absurd f' f
      exact go e e'
  · rcases e' with ⟨_, e'⟩ | ⟨_, e'⟩
    · replace e' := cl_s e'
      obtain ⟨r16, e16, e'⟩ := e'
      rw [r_eq P12.2.1.1 e16] at e'
      replace e' := cl_s e'
      obtain ⟨r17, e17, e'⟩ := e'
      rw [r_eq P12.2.1.2.2.2.2.1 e17, a76] at e'
      replace e' := (gd_s e').2
      replace e' := br_s e'
      rcases e' with ⟨n, _⟩ | ⟨_, e'⟩
      · exact absurd n d
      exact go e e'
    · exact go e e'
theorem sp_5 (n12 : N ≤ 1200) (dg : ∀ j : Nat, (j : Int) < N → 0 ≤ T j ∧ T j ≤ 255) (D : ZD Z) (n2 : x2.toInt = N) {m : Nat} (C : StC Z m x1 xk pt) (p96 : 0 ≤ pt.toInt) : ∀ (f g : Nat) {hc hr : Hp} {x3 x4 : Int32}, PS T N Z hc hr → Rg 0 63 x3 → cns x3 = true → (bc x3 6 : Int) = x4.toInt → sX2_takeStep_5 F f hc (Z 3) x1 xk x3 x4 = some o → sX15_isStep_3 F g hr (Z 16) (Z 82) x2 pt x3 = some o' → (Out T N Z o o' ∧ Q74 Z hr o'.2) ∧ Dn Z m xk pt o o' := by
  have z1 : (1 : Int32).toInt = 1 := rfl
  have z6 : (6 : Int32).toInt = 6 := rfl
  intro f
  induction f with
  | zero => intro g hc hr x3 x4 _ _ _ _ e; exact absurd e (by rw [sX2_takeStep_5]; exact fun z => nomatch z)
  | succ f ih =>
    intro g hc hr x3 x4 P i3 cn bb e e'
    cases g with
    | zero => exact absurd e' (by rw [sX15_isStep_3]; exact fun z => nomatch z)
    | succ g =>
      have b4 : bc x3 6 ≤ 4 := small (P := fun y => cns y = true → bc y 6 ≤ 4) (n := 63) i3 (by decide) cns_b cn
      rw [sX2_takeStep_5] at e
      replace e := br_s e
      rcases e with ⟨l, _⟩ | ⟨_, e⟩
      · have l := le_i l; omega
      replace e := br_s e
      rcases e with ⟨k, e⟩ | ⟨k, e⟩
      rotate_left
      · exact sp_57 n12 dg D n2 C i3 p96 P (fun z => k ((kw_r (ps_m P)).mpr z)) e e'
      rw [sX15_isStep_3] at e'
      replace e' := br_s e'
      rcases e' with ⟨_, e'⟩ | ⟨n, _⟩
      rotate_left
      · exact absurd ((kw_r (ps_m P)).mp k) n
      replace e := cl_s e
      obtain ⟨o3, e3, e⟩ := e
      replace e' := cl_s e'
      obtain ⟨o20, e20, e'⟩ := e'
      obtain ⟨t1, t2, t3, t4⟩ := fl_r n12 P e3 e20
      rw [t1] at e
      rw [t2, ← t3] at e'
      unfold sX2_takeStep_40 at e
      unfold sX15_isStep_68 at e'
      replace e' := nm_s e'
      obtain ⟨v21, w21, e'⟩ := e'
      replace e := br_s e
      replace e' := br_s e'
      rcases e with ⟨b, e⟩ | ⟨b, e⟩
      · rcases e' with ⟨_, e'⟩ | ⟨b', _⟩
        · rw [← Option.some.inj e, ← Option.some.inj e']; exact ⟨⟨out_0 P, q74_0⟩, dn_0⟩
        · exact absurd b b'
      rcases e' with ⟨b', _⟩ | ⟨_, e'⟩
      · exact absurd b' b
      have hf : o3.1 ∈ [(1 : Int32), 2, 4, 8, 16, 32] := by
        rcases t4.resolve_left b with z | z | z | z | z | z <;> (rw [z]; decide)
      obtain ⟨ca, cb⟩ := small (P := fun y => ∀ f, f ∈ [(1 : Int32), 2, 4, 8, 16, 32] → cns y = true → fit y f = rfit y f ∧ (fit y f = true → cns (y ||| f) = true ∧ bc (y ||| f) 6 = bc y 6 + 1 ∧ rgb 0 63 (y ||| f) = true)) (n := 63) i3 (by decide) cns_a o3.1 hf cn
      replace e := cl_s e
      obtain ⟨o5, e5, e⟩ := e
      obtain ⟨u1, u2⟩ := fits_q e5
      rw [u1] at e
      have rfail : rfit x3 o3.1 = false → o' = ((0 : Int32), hr) := fun hz => by
        unfold rfit at hz
        rw [← w21] at hz
        unfold sX15_isStep_52 sX15_isStep_68 at e'
        replace e' := br_s e'
        rcases e' with ⟨c1, e'⟩ | ⟨_, e'⟩
        rotate_left
        · exact (Option.some.inj e').symm
        rw [decide_eq_true c1, Bool.true_and] at hz
        replace e' := br_s e'
        have tail : (decide (v21 &&& (8 : Int32) = 0) || decide (v21 &&& (16 : Int32) = 0)) = false → br ((v21 &&& (8 : Int32)) = 0) (sX15_isStep_70 F (sX15_isStep_3 F g) hr (Z 16) (Z 82) x2 pt v21) (br ((v21 &&& (16 : Int32)) = 0) (sX15_isStep_70 F (sX15_isStep_3 F g) hr (Z 16) (Z 82) x2 pt v21) (some ((0 : Int32), hr))) = some o' → o' = ((0 : Int32), hr) := fun hy e' => by
          rw [Bool.or_eq_false_iff, decide_eq_false_iff_not, decide_eq_false_iff_not] at hy
          replace e' := br_s e'
          rcases e' with ⟨z, _⟩ | ⟨_, e'⟩
          · exact absurd z hy.1
          replace e' := br_s e'
          rcases e' with ⟨z, _⟩ | ⟨_, e'⟩
          · exact absurd z hy.2
          exact (Option.some.inj e').symm
        rcases e' with ⟨c2, e'⟩ | ⟨c2, e'⟩
        · rw [decide_eq_true c2, Bool.true_or, Bool.true_and] at hz
          exact tail hz e'
        rw [decide_eq_false c2, Bool.false_or] at hz
        replace e' := br_s e'
        rcases e' with ⟨c3, e'⟩ | ⟨c3, e'⟩
        · rw [decide_eq_true c3, Bool.true_and] at hz
          exact tail hz e'
        · exact (Option.some.inj e').symm
      have rgo : rfit x3 o3.1 = true → sX15_isStep_70 F (sX15_isStep_3 F g) hr (Z 16) (Z 82) x2 pt v21 = some o' := fun hz => by
        unfold rfit at hz
        rw [← w21] at hz
        simp only [Bool.and_eq_true, Bool.or_eq_true, decide_eq_true_eq] at hz
        obtain ⟨⟨h1, h2⟩, h3⟩ := hz
        unfold sX15_isStep_52 sX15_isStep_68 at e'
        have tail : br ((v21 &&& (8 : Int32)) = 0) (sX15_isStep_70 F (sX15_isStep_3 F g) hr (Z 16) (Z 82) x2 pt v21) (br ((v21 &&& (16 : Int32)) = 0) (sX15_isStep_70 F (sX15_isStep_3 F g) hr (Z 16) (Z 82) x2 pt v21) (some ((0 : Int32), hr))) = some o' → sX15_isStep_70 F (sX15_isStep_3 F g) hr (Z 16) (Z 82) x2 pt v21 = some o' := fun e' => by
          replace e' := br_s e'
          rcases e' with ⟨_, e'⟩ | ⟨n, e'⟩
          · exact e'
          replace e' := br_s e'
          rcases e' with ⟨_, e'⟩ | ⟨n', _⟩
          · exact e'
          · exact absurd h3 (fun z => z.elim n n')
        replace e' := br_s e'
        rcases e' with ⟨_, e'⟩ | ⟨n, _⟩
        rotate_left
        · exact absurd h1 n
        replace e' := br_s e'
        rcases e' with ⟨_, e'⟩ | ⟨n, e'⟩
        · exact tail e'
        replace e' := br_s e'
        rcases e' with ⟨_, e'⟩ | ⟨n', _⟩
        · exact tail e'
        · exact absurd h2 (fun z => z.elim n n')
      replace e := br_s e
      rcases e with ⟨c, e⟩ | ⟨c, e⟩
      · have := rfail (by rw [← ca]; exact u2.mp c)
        rw [← Option.some.inj e, this]; exact ⟨⟨out_0 P, q74_0⟩, dn_0⟩
      have ft : fit x3 o3.1 = true := by
        cases z : fit x3 o3.1 with
        | true => rfl
        | false => exact absurd (u2.mpr z) c
      have e'' := rgo (by rw [← ca]; exact ft)
      obtain ⟨d1, d2, d3⟩ := cb ft
      unfold sX15_isStep_70 at e''
      replace e'' := cl_s e''
      obtain ⟨hr1, en, e''⟩ := e''
      replace e := nm_s e
      obtain ⟨v7, w7, e⟩ := e
      replace e := cl_s e
      obtain ⟨o8, e8, e⟩ := e
      replace e := nm_s e
      obtain ⟨v9, w9, e⟩ := e
      have P8 := ps_a n12 dg D n2 (ps_b P).1 (ps_b P).2 e8 en
      rw [w21, ← w7] at e''
      have y := ih g P8 (by rw [w7]; exact rg_b d3) (by rw [w7]; exact d1) (by rw [w7, d2, w9, ta (by rw [z1]; omega), z1]; omega) e e''
      exact ⟨⟨y.1.1, q74_t (q74_n n12 dg D n2 P en) y.1.2⟩, y.2⟩
end
