section
/-! a step -/
def cns (x : Int32) : Bool := !(decide (x &&& (3 : Int32) = 3)) && !(decide (x &&& (24 : Int32) = 24))
def fit (x f : Int32) : Bool := decide (x &&& (if f = 1 ∨ f = 2 then (3 : Int32) else if f = 8 ∨ f = 16 then (24 : Int32) else f) = 0)
def rfit (x f : Int32) : Bool := decide (x &&& f = 0) && (decide ((x ||| f) &&& (1 : Int32) = 0) || decide ((x ||| f) &&& (2 : Int32) = 0)) && (decide ((x ||| f) &&& (8 : Int32) = 0) || decide ((x ||| f) &&& (16 : Int32) = 0))
theorem cns_a : ∀ y : Fin 64, ∀ f, f ∈ [(1 : Int32), 2, 4, 8, 16, 32] → cns (nI y.val) = true → fit (nI y.val) f = rfit (nI y.val) f ∧ (fit (nI y.val) f = true → cns ((nI y.val) ||| f) = true ∧ bc ((nI y.val) ||| f) 6 = bc (nI y.val) 6 + 1 ∧ rgb 0 63 ((nI y.val) ||| f) = true) := by decide +kernel
theorem cns_b : ∀ y : Fin 64, cns (nI y.val) = true → bc (nI y.val) 6 ≤ 4 := by decide +kernel
section
variable {T : Nat → Int} {N : Int} {F : Nat} {Z : Nat → Nat} {x2 : Int32} {hc hr oc or hc1 : Hp} {x man mine xi at_ : Int32} {o o' : Int32 × Hp} {i : Nat}
theorem fits_q {x f : Int32} (e : sX2_fits hc x f = some o) : o.2 = hc ∧ (o.1 = 0 ↔ fit x f = false) := by
  unfold sX2_fits sX2_fits_12 sX2_fits_29 sX2_fits_32 sX2_fits_43 at e
  have last : ∀ {a : Int32}, (if f = 1 ∨ f = 2 then (3 : Int32) else if f = 8 ∨ f = 16 then (24 : Int32) else f) = a → br ((x &&& a) = 0) (gd ((1 : Int32) &&& 1 = (1 : Int32)) <| some ((1 : Int32), hc)) (gd ((0 : Int32) &&& 1 = (0 : Int32)) <| some ((0 : Int32), hc)) = some o → o.2 = hc ∧ (o.1 = 0 ↔ fit x f = false) := fun {a} ha e => by
    unfold fit
    rw [ha]
    replace e := br_s e
    rcases e with ⟨b, e⟩ | ⟨b, e⟩
    · rw [← Option.some.inj (gd_s e).2, decide_eq_true b]
      exact ⟨rfl, ⟨fun z => absurd z i1n0, fun z => absurd z (by decide)⟩⟩
    · rw [← Option.some.inj (gd_s e).2, decide_eq_false b]
      exact ⟨rfl, ⟨fun _ => rfl, fun _ => rfl⟩⟩
  replace e := br_s e
  rcases e with ⟨b1, e⟩ | ⟨b1, e⟩
  · exact last (if_pos (Or.inl b1)) e
  replace e := br_s e
  rcases e with ⟨b2, e⟩ | ⟨b2, e⟩
  · exact last (if_pos (Or.inr b2)) e
  have n12 : ¬ (f = 1 ∨ f = 2) := fun z => z.elim b1 b2
  replace e := br_s e
  rcases e with ⟨b3, e⟩ | ⟨b3, e⟩
  · exact last ((if_neg n12).trans (if_pos (Or.inl b3))) e
  replace e := br_s e
  rcases e with ⟨b4, e⟩ | ⟨b4, e⟩
  · exact last ((if_neg n12).trans (if_pos (Or.inr b4))) e
  exact last ((if_neg n12).trans (if_neg (fun z => z.elim b3 b4))) e
/-- a word that may be there, and a number behind it -/
theorem tt_r (n12 : N ≤ 1200) (dg : ∀ j : Nat, (j : Int) < N → 0 ≤ T j ∧ T j ≤ 255) (D : ZD Z) (n2 : x2.toInt = N) {w w' : Nat} (hw : lB w = lB w') (sm : (lB w).length < 2147483648) {lo hi dfl : Int32} (lo1 : 1 ≤ lo.toInt) (P : PS T N Z hc hr) (e : sX2_takeTail F hc (Z 3) w lo hi dfl = some o) {q : Int32 × Hp} (eq : sX15_isWord F hr (Z 16) (Z 82) w' = some q) : q.2 = hr ∧ ((q.1 = 0 ∧ o = (dfl, hc)) ∨ (¬ q.1 = 0 ∧ ∀ {h3 : Hp}, sX15_nextToken F hr (Z 16) (Z 82) x2 = some h3 → ∀ {q4 : Int32 × Hp}, sX15_isNumber h3 (Z 16) lo hi = some q4 → q4.2 = h3 ∧ ((q4.1 = 0 ∧ o.1 = (-1 : Int32) ∧ Fl2 Z o.2 h3) ∨ (¬ q4.1 = 0 ∧ ¬ o.1 = (-1 : Int32) ∧ o.1 = hI h3 (Z 16) 9 ∧ ∃ hm : Hp, PS T N Z hm h3 ∧ sX2_advance F hm (Z 3) = some o.2)))) := by
  unfold sX2_takeTail at e
  replace e := cl_s e
  obtain ⟨o1, e1, e⟩ := e
  obtain ⟨q1, q2, q3⟩ := iw_r n12 P.2.2.1 P.2.2.2.1 P.2.2.2.2.1 hw sm e1 eq
  rw [q1] at e
  refine ⟨q2, ?_⟩
  replace e := br_s e
  rcases e with ⟨b, e⟩ | ⟨b, e⟩
  · exact Or.inl ⟨by rw [← q3]; exact b, (Option.some.inj e).symm⟩
  refine Or.inr ⟨by rw [← q3]; exact b, fun {h3} e3 {q4} e4 => ?_⟩
  replace e := cl_s e
  obtain ⟨o3, ea, e⟩ := e
  have PB0 := ps_b P
  have P3 := ps_a n12 dg D n2 PB0.1 PB0.2 ea e3
  replace e := cl_s e
  obtain ⟨o4, e4', e⟩ := e
  obtain ⟨t1, t2, t3, t4⟩ := in_r P3.2.2.2.2.1 e4' e4
  rw [t1] at e
  refine ⟨t2, ?_⟩
  replace e := br_s e
  rcases e with ⟨c, e⟩ | ⟨c, e⟩
  · rw [← Option.some.inj e]
    exact Or.inl ⟨by rw [← t3]; exact c, rfl, ps_fl P3⟩
  obtain ⟨u1, u2, _⟩ := t4 c
  replace e := nm_s e
  obtain ⟨v6, w6, e⟩ := e
  replace e := cl_s e
  obtain ⟨o7, e7, e⟩ := e
  rw [← Option.some.inj e]
  refine Or.inr ⟨by rw [← t3]; exact c, fun z => ?_, by rw [← u1]; exact w6, o3, P3, e7⟩
  have : v6.toInt = -1 := by have z : v6 = -1 := z; rw [z]; rfl
  rw [w6] at this
  omega
end
/-- the row of how many steps stays -/
def Q74 (Z : Nat → Nat) (hr h : Hp) : Prop := (∀ q, hI h (Z 74) q = hI hr (Z 74) q) ∧ hI h (Z 15) 2 = hI hr (Z 15) 2
section
variable {T : Nat → Int} {N : Int} {F : Nat} {Z : Nat → Nat} {x2 : Int32} {hc hr oc or hc1 : Hp} {x man mine xi pt : Int32} {o o' : Int32 × Hp} {i : Nat} {x1 xk x3 x4 x5 v1 : Int32}
theorem q74_n (n12 : N ≤ 1200) (dg : ∀ j : Nat, (j : Int) < N → 0 ≤ T j ∧ T j ≤ 255) (D : ZD Z) (n2 : x2.toInt = N) (P : PS T N Z hc hr) {h : Hp} (e : sX15_nextToken F hr (Z 16) (Z 82) x2 = some h) : Q74 Z hr h := by
  have K := (nt_k (by omega) dg (zne D) P.2.2.2.1 n2 (by rw [← (ps_b P).2.1]; exact (ps_b P).2.2.1) (by rw [← (ps_b P).2.1]; exact (ps_b P).2.2.2) e).1
  exact ⟨fun q => K.2 _ _ (fun z => zn D z.1), K.2 _ _ (fun z => zn D z.1)⟩
theorem q74_w (D : ZD Z) {k j : Nat} {v : Int32} (hk : k ∈ zl) (n : ¬ 74 = k ∧ ¬ 15 = k) : Q74 Z hr (wI hr (Z k) j v) := ⟨fun _ => rI_a (zne D n.1 (by decide) hk), rI_a (zne D n.2 (by decide) hk)⟩
theorem q74_0 : Q74 Z hr hr := ⟨fun _ => rfl, rfl⟩
theorem q74_t {h1 h2 : Hp} (a : Q74 Z hr h1) (b : Q74 Z h1 h2) : Q74 Z hr h2 := ⟨fun q => (b.1 q).trans (a.1 q), b.2.trans a.2⟩
/-- the step is noted -/
theorem sp_168 (D : ZD Z) (n5 : ¬ x5 = (-1 : Int32)) {t0 : Int32} (nt : ¬ t0 = (-1 : Int32)) (P : PS T N Z hc hr) (e : sX2_takeStep_168 F hc (Z 3) x1 xk v1 x5 t0 = some o) : ¬ o.1 = 0 ∧ PS T N Z o.2 hr := by
  unfold sX2_takeStep_168 at e
  replace e := br_s e
  rcases e with ⟨b, _⟩ | ⟨_, e⟩
  · exact absurd b n5
  replace e := br_s e
  rcases e with ⟨b, _⟩ | ⟨_, e⟩
  · exact absurd b nt
  replace e := cl_s e
  obtain ⟨r3, e3, e⟩ := e
  rw [r_eq P.1.2.1 e3] at e
  replace e := cl_s e
  obtain ⟨r4, e4, e⟩ := e
  rw [r_eq P.1.2.2.2.2.1 e4] at e
  replace e := (gd_s e).2
  replace e := nm_s e
  obtain ⟨h6, w6, e⟩ := e
  have P6 : PS T N Z h6 hr := by rw [w6]; exact ps_wc D (Or.inl rfl) P
  replace e := cl_s e
  obtain ⟨r7, e7, e⟩ := e
  rw [r_eq P6.1.2.1 e7] at e
  replace e := cl_s e
  obtain ⟨r8, e8, e⟩ := e
  rw [r_eq P6.1.2.2.2.2.2.1 e8] at e
  replace e := (gd_s e).2
  replace e := nm_s e
  obtain ⟨h10, w10, e⟩ := e
  rw [← Option.some.inj e]
  refine ⟨i1n0, ?_⟩
  show PS T N Z h10 hr
  rw [w10]
  exact ps_wc D (Or.inr rfl) P6
theorem sp_244 (n12 : N ≤ 1200) (dg : ∀ j : Nat, (j : Int) < N → 0 ≤ T j ∧ T j ≤ 255) (D : ZD Z) (n2 : x2.toInt = N) (n5 : ¬ x5 = (-1 : Int32)) (P : PS T N Z hc hr) (e : (cl (hR hc (Z 3) 1) fun r_5 => cl (sX2_takeTail F hc (Z 3) 12 (1 : Int32) (hI hc r_5 1) (0 : Int32)) fun o_6 => sX2_takeStep_168 F o_6.2 (Z 3) x1 xk v1 x5 o_6.1) = some o) (e' : sX15_isStep_244 F hr (Z 16) (Z 82) x2 pt = some o') : Out T N Z o o' ∧ Q74 Z hr o'.2 := by
  replace e := cl_s e
  obtain ⟨r5, e5, e⟩ := e
  rw [r_eq P.1.2.1 e5] at e
  replace e := cl_s e
  obtain ⟨o6, e6, e⟩ := e
  unfold sX15_isStep_244 sX15_isStep_296 at e'
  replace e' := cl_s e'
  obtain ⟨q, eq, e'⟩ := e'
  obtain ⟨t1, t2⟩ := tt_r n12 dg D n2 (w := 12) (w' := 38) rfl (by decide) (by decide) P e6 eq
  rw [t1] at e'
  rcases t2 with ⟨c, eo⟩ | ⟨c, more⟩
  · replace e' := br_s e'
    rcases e' with ⟨_, e'⟩ | ⟨n, _⟩
    rotate_left
    · exact absurd c n
    rw [eo] at e
    obtain ⟨a1, a2⟩ := sp_168 D n5 (show ¬ (0 : Int32) = -1 by decide) P e
    rw [← Option.some.inj e']
    exact ⟨Or.inr ⟨a1, i1n0, a2⟩, q74_0⟩
  replace e' := br_s e'
  rcases e' with ⟨n, _⟩ | ⟨_, e'⟩
  · exact absurd n c
  replace e' := cl_s e'
  obtain ⟨h3, e3, e'⟩ := e'
  replace e' := cl_s e'
  obtain ⟨r4, e4, e'⟩ := e'
  have q3 := q74_n n12 dg D n2 P e3
  have K3 := (nt_k (by omega) dg (zne D) P.2.2.2.1 n2 (by rw [← (ps_b P).2.1]; exact (ps_b P).2.2.1) (by rw [← (ps_b P).2.1]; exact (ps_b P).2.2.2) e3).1
  have y4 : r4 = Z 15 := r_eq P.2.1.1 (by rw [← K3.1.1]; exact e4)
  have rk : hI h3 (Z 15) 1 = hI hc (Z 2) 1 := by
    rw [K3.2 _ _ (fun z => zn D z.1)]
    exact (P.2.2.2.2.2.2.1 (1, 1) (by decide)).symm
  rw [y4, rk] at e'
  replace e' := cl_s e'
  obtain ⟨q4, e4', e'⟩ := e'
  obtain ⟨u1, u2⟩ := more e3 e4'
  rw [u1] at e'
  rcases u2 with ⟨d, d1, d2⟩ | ⟨d, d1, d2, hm, Pm, ea⟩
  · replace e' := br_s e'
    rcases e' with ⟨_, e'⟩ | ⟨n, _⟩
    rotate_left
    · exact absurd d n
    unfold sX2_takeStep_168 sX2_takeStep_182 at e
    rw [d1] at e
    replace e := br_s e
    rcases e with ⟨b, _⟩ | ⟨_, e⟩
    · exact absurd b n5
    replace e := br_s e
    rcases e with ⟨_, e⟩ | ⟨n, _⟩
    · rw [← Option.some.inj e, ← Option.some.inj e']
      exact ⟨Or.inl ⟨rfl, rfl, d2⟩, q3⟩
    · exact absurd rfl n
  replace e' := br_s e'
  rcases e' with ⟨n, _⟩ | ⟨_, e'⟩
  · exact absurd n d
  replace e' := cl_s e'
  obtain ⟨r7, e7, e'⟩ := e'
  rw [r_eq Pm.2.1.1 e7] at e'
  replace e' := cl_s e'
  obtain ⟨r8, e8, e'⟩ := e'
  rw [r_eq Pm.2.1.2.2.2.2.2.2.2.1 e8] at e'
  replace e' := (gd_s e').2
  replace e' := nm_s e'
  obtain ⟨h10, w10, e'⟩ := e'
  have P10 : PS T N Z hm h10 := by rw [w10]; exact ps_wr D (by decide) Pm
  replace e' := cl_s e'
  obtain ⟨o11, e11, e'⟩ := e'
  have P11 := ps_a n12 dg D n2 (ps_b P10).1 (ps_b P10).2 ea e11
  obtain ⟨a1, a2⟩ := sp_168 D n5 d1 P11 e
  have q11 := q74_n n12 dg D n2 P10 e11
  rw [← Option.some.inj e']
  refine ⟨Or.inr ⟨a1, i1n0, a2⟩, q74_t q3 (q74_t ?_ q11)⟩
  rw [w10]; exact q74_w D (by decide) (by decide)
theorem sp_158 (n12 : N ≤ 1200) (dg : ∀ j : Nat, (j : Int) < N → 0 ≤ T j ∧ T j ≤ 255) (D : ZD Z) (n2 : x2.toInt = N) (P : PS T N Z hc hr) (e : sX2_takeStep_105 F hc (Z 3) x1 xk x3 x4 = some o) (e' : sX15_isStep_158 F hr (Z 16) (Z 82) x2 pt = some o') : Out T N Z o o' ∧ Q74 Z hr o'.2 := by
  unfold sX2_takeStep_105 at e
  replace e := nm_s e
  obtain ⟨v1, _, e⟩ := e
  replace e := cl_s e
  obtain ⟨o2, ea, e⟩ := e
  unfold sX15_isStep_158 at e'
  replace e' := cl_s e'
  obtain ⟨r1, e1, e'⟩ := e'
  rw [r_eq P.2.1.1 e1] at e'
  replace e' := cl_s e'
  obtain ⟨r2, e2, e'⟩ := e'
  rw [r_eq P.2.1.2.2.2.2.2.1 e2] at e'
  replace e' := (gd_s e').2
  replace e' := nm_s e'
  obtain ⟨h4, w4, e'⟩ := e'
  have P4 : PS T N Z hc h4 := by rw [w4]; exact ps_wr D (by decide) P
  replace e' := cl_s e'
  obtain ⟨r5, e5, e'⟩ := e'
  rw [r_eq P4.2.1.1 e5] at e'
  replace e' := cl_s e'
  obtain ⟨r6, e6, e'⟩ := e'
  rw [r_eq P4.2.1.2.2.2.2.2.2.1 e6] at e'
  replace e' := (gd_s e').2
  replace e' := nm_s e'
  obtain ⟨h8, w8, e'⟩ := e'
  have P8 : PS T N Z hc h8 := by rw [w8]; exact ps_wr D (by decide) P4
  replace e' := cl_s e'
  obtain ⟨r9, e9, e'⟩ := e'
  rw [r_eq P8.2.1.1 e9] at e'
  replace e' := cl_s e'
  obtain ⟨r10, e10, e'⟩ := e'
  rw [r_eq P8.2.1.2.2.2.2.2.2.2.1 e10] at e'
  replace e' := (gd_s e').2
  replace e' := nm_s e'
  obtain ⟨h12, w12, e'⟩ := e'
  have P12 : PS T N Z hc h12 := by rw [w12]; exact ps_wr D (by decide) P8
  replace e' := cl_s e'
  obtain ⟨o13, e13, e'⟩ := e'
  have q12 : Q74 Z hr h12 := by
    rw [w12]
    refine q74_t (h1 := h8) (q74_t (h1 := h4) ?_ ?_) (q74_w D (by decide) (by decide))
    · rw [w4]; exact q74_w D (by decide) (by decide)
    · rw [w8]; exact q74_w D (by decide) (by decide)
  have q13 := q74_t q12 (q74_n n12 dg D n2 P12 e13)
  have P13 := ps_a n12 dg D n2 (ps_b P12).1 (ps_b P12).2 ea e13
  replace e := cl_s e
  obtain ⟨o3, e3, e⟩ := e
  replace e' := cl_s e'
  obtain ⟨q, eq, e'⟩ := e'
  obtain ⟨t1, t2⟩ := tt_r n12 dg D n2 (w := 11) (w' := 37) rfl (by decide) (by decide) P13 e3 eq
  rw [t1] at e'
  rcases t2 with ⟨c, eo⟩ | ⟨c, more⟩
  · replace e' := br_s e'
    rcases e' with ⟨_, e'⟩ | ⟨n, _⟩
    rotate_left
    · exact absurd c n
    rw [eo] at e
    replace e := br_s e
    rcases e with ⟨n, _⟩ | ⟨_, e⟩
    · exact absurd n (show ¬ (1 : Int32) = -1 by decide)
    obtain ⟨y1, y2⟩ := sp_244 n12 dg D n2 (show ¬ (1 : Int32) = -1 by decide) P13 e e'
    exact ⟨y1, q74_t q13 y2⟩
  replace e' := br_s e'
  rcases e' with ⟨n, _⟩ | ⟨_, e'⟩
  · exact absurd n c
  replace e' := cl_s e'
  obtain ⟨h16, e16, e'⟩ := e'
  replace e' := cl_s e'
  obtain ⟨q17, e17, e'⟩ := e'
  obtain ⟨u1, u2⟩ := more e16 e17
  rw [u1] at e'
  rcases u2 with ⟨d, d1, d2⟩ | ⟨d, d1, d2, hm, Pm, ea'⟩
  · replace e' := br_s e'
    rcases e' with ⟨_, e'⟩ | ⟨n, _⟩
    rotate_left
    · exact absurd d n
    replace e := br_s e
    rcases e with ⟨_, e⟩ | ⟨n, _⟩
    rotate_left
    · exact absurd d1 n
    unfold sX2_takeStep_168 sX2_takeStep_182 at e
    replace e := br_s e
    rcases e with ⟨_, e⟩ | ⟨n, _⟩
    · rw [← Option.some.inj e, ← Option.some.inj e']
      exact ⟨Or.inl ⟨rfl, rfl, d2⟩, q74_t q13 (q74_n n12 dg D n2 P13 e16)⟩
    · exact absurd d1 n
  replace e' := br_s e'
  rcases e' with ⟨n, _⟩ | ⟨_, e'⟩
  · exact absurd n d
  replace e' := cl_s e'
  obtain ⟨r19, e19, e'⟩ := e'
  rw [r_eq Pm.2.1.1 e19] at e'
  replace e' := cl_s e'
  obtain ⟨r20, e20, e'⟩ := e'
  rw [r_eq Pm.2.1.2.2.2.2.2.2.1 e20] at e'
  replace e' := (gd_s e').2
  replace e' := nm_s e'
  obtain ⟨h22, w22, e'⟩ := e'
  have P22 : PS T N Z hm h22 := by rw [w22]; exact ps_wr D (by decide) Pm
  replace e' := cl_s e'
  obtain ⟨o23, e23, e'⟩ := e'
  have P23 := ps_a n12 dg D n2 (ps_b P22).1 (ps_b P22).2 ea' e23
  replace e := br_s e
  rcases e with ⟨n, _⟩ | ⟨_, e⟩
  · exact absurd n d1
  obtain ⟨y1, y2⟩ := sp_244 n12 dg D n2 d1 P23 e e'
  refine ⟨y1, q74_t (q74_t (q74_t q13 (q74_n n12 dg D n2 P13 e16)) ?_) (q74_t (q74_n n12 dg D n2 P22 e23) y2)⟩
  rw [w22]; exact q74_w D (by decide) (by decide)
/-- numbers of a step -/
theorem sp_57 (n12 : N ≤ 1200) (dg : ∀ j : Nat, (j : Int) < N → 0 ≤ T j ∧ T j ≤ 255) (D : ZD Z) (n2 : x2.toInt = N) (p96 : 0 ≤ pt.toInt) (P : PS T N Z hc hr) (nk : ¬ hI hr (Z 16) 6 = (1 : Int32)) {g : Nat} (e : sX2_takeStep_57 F hc (Z 3) x1 xk x3 = some o) (e' : sX15_isStep_3 F (g + 1) hr (Z 16) (Z 82) x2 pt x4 = some o') : Out T N Z o o' ∧ Q74 Z hr o'.2 := by
  rw [sX15_isStep_3] at e'
  replace e' := br_s e'
  rcases e' with ⟨k, _⟩ | ⟨_, e'⟩
  · exact absurd k nk
  replace e' := cl_s e'
  obtain ⟨r2, e2, e'⟩ := e'
  rw [r_eq P.2.1.1 e2] at e'
  replace e' := cl_s e'
  obtain ⟨r3, e3, e'⟩ := e'
  rw [r_eq P.2.1.2.2.2.1 e3] at e'
  replace e' := (gd_s e').2
  replace e' := nm_s e'
  obtain ⟨h5, w5, e'⟩ := e'
  have P5 : PS T N Z hc h5 := by rw [w5]; exact ps_wr D (by decide) P
  have q5 : Q74 Z hr h5 := by rw [w5]; exact q74_w D (by decide) (by decide)
  unfold sX2_takeStep_57 sX2_takeStep_103 at e
  replace e := cl_s e
  obtain ⟨o1, e1, e⟩ := e
  replace e' := cl_s e'
  obtain ⟨o6, e6, e'⟩ := e'
  obtain ⟨t1, t2, t3, t4⟩ := in_r P5.2.2.2.2.1 e1 e6
  rw [t1] at e
  rw [t2, ← t3] at e'
  replace e := br_s e
  replace e' := br_s e'
  rcases e with ⟨b, e⟩ | ⟨b, e⟩
  · rcases e' with ⟨_, e'⟩ | ⟨b', _⟩
    · rw [← Option.some.inj e, ← Option.some.inj e']; exact ⟨out_0 P5, q5⟩
    · exact absurd b b'
  rcases e' with ⟨b', _⟩ | ⟨_, e'⟩
  · exact absurd b' b
  obtain ⟨va, _, _⟩ := t4 b
  replace e := nm_s e
  obtain ⟨v3, w3, e⟩ := e
  replace e := cl_s e
  obtain ⟨o4, ea, e⟩ := e
  replace e' := cl_s e'
  obtain ⟨r8, e8, e'⟩ := e'
  rw [r_eq P5.2.1.1 e8] at e'
  replace e' := cl_s e'
  obtain ⟨r9, e9, e'⟩ := e'
  rw [r_eq P5.2.1.2.2.2.2.1 e9] at e'
  replace e' := (gd_s e').2
  replace e' := nm_s e'
  obtain ⟨h11, w11, e'⟩ := e'
  have P11 : PS T N Z hc h11 := by rw [w11]; exact ps_wr D (by decide) P5
  replace e' := cl_s e'
  obtain ⟨o12, e12, e'⟩ := e'
  have P12 := ps_a n12 dg D n2 (ps_b P11).1 (ps_b P11).2 ea e12
  have q12 : Q74 Z hr o12 := by
    refine q74_t (q74_t q5 ?_) (q74_n n12 dg D n2 P11 e12)
    rw [w11]; exact q74_w D (by decide) (by decide)
  have K12 := (nt_k (by omega) dg (zne D) P11.2.2.2.1 n2 (by rw [← (ps_b P11).2.1]; exact (ps_b P11).2.2.1) (by rw [← (ps_b P11).2.1]; exact (ps_b P11).2.2.2) e12).1
  have a76 : hI o12 (Z 76) pt.toNatClampNeg = v3 := by
    rw [K12.2 _ _ (fun z => zn D z.1), w11, rI_s, w3]; exact va.symm
  replace e := cl_s e
  obtain ⟨o5, e5, e⟩ := e
  replace e' := cl_s e'
  obtain ⟨o13, e13, e'⟩ := e'
  obtain ⟨s1, s2, s3, s4⟩ := in_r P12.2.2.2.2.1 e5 e13
  rw [s1] at e
  rw [s2, ← s3] at e'
  unfold sX15_isStep_156 at e'
  replace e := br_s e
  replace e' := br_s e'
  rcases e with ⟨c, e⟩ | ⟨c, e⟩
  · rcases e' with ⟨_, e'⟩ | ⟨c', _⟩
    · rw [← Option.some.inj e, ← Option.some.inj e']; exact ⟨out_0 P12, q12⟩
    · exact absurd c c'
  rcases e' with ⟨c', _⟩ | ⟨_, e'⟩
  · exact absurd c' c
  obtain ⟨vb, _, _⟩ := s4 c
  rw [← vb] at e'
  replace e := br_s e
  replace e' := br_s e'
  rcases e with ⟨d, e⟩ | ⟨d, e⟩
  · replace e := br_s e
    rcases e with ⟨f, e⟩ | ⟨f, e⟩
    · rcases e' with ⟨_, e'⟩ | ⟨f', _⟩
      rotate_left
      · exact absurd f f'
      replace e' := cl_s e'
      obtain ⟨r16, e16, e'⟩ := e'
      rw [r_eq P12.2.1.1 e16] at e'
      replace e' := cl_s e'
      obtain ⟨r17, e17, e'⟩ := e'
      rw [r_eq P12.2.1.2.2.2.2.1 e17, a76] at e'
      replace e' := (gd_s e').2
      replace e' := br_s e'
      rcases e' with ⟨_, e'⟩ | ⟨n, _⟩
      · rw [← Option.some.inj e, ← Option.some.inj e']; exact ⟨out_0 P12, q12⟩
      · exact absurd d n
    · rcases e' with ⟨f', _⟩ | ⟨_, e'⟩
      · exact absurd f' f
      exact ⟨(sp_158 n12 dg D n2 P12 e e').1, q74_t q12 (sp_158 n12 dg D n2 P12 e e').2⟩
  · rcases e' with ⟨_, e'⟩ | ⟨_, e'⟩
    · replace e' := cl_s e'
      obtain ⟨r16, e16, e'⟩ := e'
      rw [r_eq P12.2.1.1 e16] at e'
      replace e' := cl_s e'
      obtain ⟨r17, e17, e'⟩ := e'
      rw [r_eq P12.2.1.2.2.2.2.1 e17, a76] at e'
      replace e' := (gd_s e').2
      replace e' := br_s e'
      rcases e' with ⟨n, _⟩ | ⟨_, e'⟩
      · exact absurd n d
      exact ⟨(sp_158 n12 dg D n2 P12 e e').1, q74_t q12 (sp_158 n12 dg D n2 P12 e e').2⟩
    · exact ⟨(sp_158 n12 dg D n2 P12 e e').1, q74_t q12 (sp_158 n12 dg D n2 P12 e e').2⟩
theorem sp_5 (n12 : N ≤ 1200) (dg : ∀ j : Nat, (j : Int) < N → 0 ≤ T j ∧ T j ≤ 255) (D : ZD Z) (n2 : x2.toInt = N) (p96 : 0 ≤ pt.toInt) : ∀ (f g : Nat) {hc hr : Hp} {x3 x4 : Int32}, PS T N Z hc hr → Rg 0 63 x3 → cns x3 = true → (bc x3 6 : Int) = x4.toInt → sX2_takeStep_5 F f hc (Z 3) x1 xk x3 x4 = some o → sX15_isStep_3 F g hr (Z 16) (Z 82) x2 pt x3 = some o' → Out T N Z o o' ∧ Q74 Z hr o'.2 := by
  have z1 : (1 : Int32).toInt = 1 := rfl
  have z6 : (6 : Int32).toInt = 6 := rfl
  intro f
  induction f with
  | zero => intro g hc hr x3 x4 _ _ _ _ e; exact absurd e (by rw [sX2_takeStep_5]; exact fun z => nomatch z)
  | succ f ih =>
    intro g hc hr x3 x4 P i3 cn bb e e'
    cases g with
    | zero => exact absurd e' (by rw [sX15_isStep_3]; exact fun z => nomatch z)
    | succ g =>
      have b4 : bc x3 6 ≤ 4 := small (P := fun y => cns y = true → bc y 6 ≤ 4) (n := 63) i3 (by decide) cns_b cn
      rw [sX2_takeStep_5] at e
      replace e := br_s e
      rcases e with ⟨l, _⟩ | ⟨_, e⟩
      · have l := le_i l; omega
      replace e := br_s e
      rcases e with ⟨k, e⟩ | ⟨k, e⟩
      rotate_left
      · exact sp_57 n12 dg D n2 p96 P (fun z => k ((kw_r (ps_m P)).mpr z)) e e'
      rw [sX15_isStep_3] at e'
      replace e' := br_s e'
      rcases e' with ⟨_, e'⟩ | ⟨n, _⟩
      rotate_left
      · exact absurd ((kw_r (ps_m P)).mp k) n
      replace e := cl_s e
      obtain ⟨o3, e3, e⟩ := e
      replace e' := cl_s e'
      obtain ⟨o20, e20, e'⟩ := e'
      obtain ⟨t1, t2, t3, t4⟩ := fl_r n12 P e3 e20
      rw [t1] at e
      rw [t2, ← t3] at e'
      unfold sX2_takeStep_40 at e
      unfold sX15_isStep_68 at e'
      replace e' := nm_s e'
      obtain ⟨v21, w21, e'⟩ := e'
      replace e := br_s e
      replace e' := br_s e'
      rcases e with ⟨b, e⟩ | ⟨b, e⟩
      · rcases e' with ⟨_, e'⟩ | ⟨b', _⟩
        · rw [← Option.some.inj e, ← Option.some.inj e']; exact ⟨out_0 P, q74_0⟩
        · exact absurd b b'
      rcases e' with ⟨b', _⟩ | ⟨_, e'⟩
      · exact absurd b' b
      have hf : o3.1 ∈ [(1 : Int32), 2, 4, 8, 16, 32] := by
        rcases t4.resolve_left b with z | z | z | z | z | z <;> (rw [z]; decide)
      obtain ⟨ca, cb⟩ := small (P := fun y => ∀ f, f ∈ [(1 : Int32), 2, 4, 8, 16, 32] → cns y = true → fit y f = rfit y f ∧ (fit y f = true → cns (y ||| f) = true ∧ bc (y ||| f) 6 = bc y 6 + 1 ∧ rgb 0 63 (y ||| f) = true)) (n := 63) i3 (by decide) cns_a o3.1 hf cn
      replace e := cl_s e
      obtain ⟨o5, e5, e⟩ := e
      obtain ⟨u1, u2⟩ := fits_q e5
      rw [u1] at e
      have rfail : rfit x3 o3.1 = false → o' = ((0 : Int32), hr) := fun hz => by
        unfold rfit at hz
        rw [← w21] at hz
        unfold sX15_isStep_52 sX15_isStep_68 at e'
        replace e' := br_s e'
        rcases e' with ⟨c1, e'⟩ | ⟨_, e'⟩
        rotate_left
        · exact (Option.some.inj e').symm
        rw [decide_eq_true c1, Bool.true_and] at hz
        replace e' := br_s e'
        have tail : (decide (v21 &&& (8 : Int32) = 0) || decide (v21 &&& (16 : Int32) = 0)) = false → br ((v21 &&& (8 : Int32)) = 0) (sX15_isStep_70 F (sX15_isStep_3 F g) hr (Z 16) (Z 82) x2 pt v21) (br ((v21 &&& (16 : Int32)) = 0) (sX15_isStep_70 F (sX15_isStep_3 F g) hr (Z 16) (Z 82) x2 pt v21) (some ((0 : Int32), hr))) = some o' → o' = ((0 : Int32), hr) := fun hy e' => by
          rw [Bool.or_eq_false_iff, decide_eq_false_iff_not, decide_eq_false_iff_not] at hy
          replace e' := br_s e'
          rcases e' with ⟨z, _⟩ | ⟨_, e'⟩
          · exact absurd z hy.1
          replace e' := br_s e'
          rcases e' with ⟨z, _⟩ | ⟨_, e'⟩
          · exact absurd z hy.2
          exact (Option.some.inj e').symm
        rcases e' with ⟨c2, e'⟩ | ⟨c2, e'⟩
        · rw [decide_eq_true c2, Bool.true_or, Bool.true_and] at hz
          exact tail hz e'
        rw [decide_eq_false c2, Bool.false_or] at hz
        replace e' := br_s e'
        rcases e' with ⟨c3, e'⟩ | ⟨c3, e'⟩
        · rw [decide_eq_true c3, Bool.true_and] at hz
          exact tail hz e'
        · exact (Option.some.inj e').symm
      have rgo : rfit x3 o3.1 = true → sX15_isStep_70 F (sX15_isStep_3 F g) hr (Z 16) (Z 82) x2 pt v21 = some o' := fun hz => by
        unfold rfit at hz
        rw [← w21] at hz
        simp only [Bool.and_eq_true, Bool.or_eq_true, decide_eq_true_eq] at hz
        obtain ⟨⟨h1, h2⟩, h3⟩ := hz
        unfold sX15_isStep_52 sX15_isStep_68 at e'
        have tail : br ((v21 &&& (8 : Int32)) = 0) (sX15_isStep_70 F (sX15_isStep_3 F g) hr (Z 16) (Z 82) x2 pt v21) (br ((v21 &&& (16 : Int32)) = 0) (sX15_isStep_70 F (sX15_isStep_3 F g) hr (Z 16) (Z 82) x2 pt v21) (some ((0 : Int32), hr))) = some o' → sX15_isStep_70 F (sX15_isStep_3 F g) hr (Z 16) (Z 82) x2 pt v21 = some o' := fun e' => by
          replace e' := br_s e'
          rcases e' with ⟨_, e'⟩ | ⟨n, e'⟩
          · exact e'
          replace e' := br_s e'
          rcases e' with ⟨_, e'⟩ | ⟨n', _⟩
          · exact e'
          · exact absurd h3 (fun z => z.elim n n')
        replace e' := br_s e'
        rcases e' with ⟨_, e'⟩ | ⟨n, _⟩
        rotate_left
        · exact absurd h1 n
        replace e' := br_s e'
        rcases e' with ⟨_, e'⟩ | ⟨n, e'⟩
        · exact tail e'
        replace e' := br_s e'
        rcases e' with ⟨_, e'⟩ | ⟨n', _⟩
        · exact tail e'
        · exact absurd h2 (fun z => z.elim n n')
      replace e := br_s e
      rcases e with ⟨c, e⟩ | ⟨c, e⟩
      · have := rfail (by rw [← ca]; exact u2.mp c)
        rw [← Option.some.inj e, this]; exact ⟨out_0 P, q74_0⟩
      have ft : fit x3 o3.1 = true := by
        cases z : fit x3 o3.1 with
        | true => rfl
        | false => exact absurd (u2.mpr z) c
      have e'' := rgo (by rw [← ca]; exact ft)
      obtain ⟨d1, d2, d3⟩ := cb ft
      unfold sX15_isStep_70 at e''
      replace e'' := cl_s e''
      obtain ⟨hr1, en, e''⟩ := e''
      replace e := nm_s e
      obtain ⟨v7, w7, e⟩ := e
      replace e := cl_s e
      obtain ⟨o8, e8, e⟩ := e
      replace e := nm_s e
      obtain ⟨v9, w9, e⟩ := e
      have P8 := ps_a n12 dg D n2 (ps_b P).1 (ps_b P).2 e8 en
      rw [w21, ← w7] at e''
      have y := ih g P8 (by rw [w7]; exact rg_b d3) (by rw [w7]; exact d1) (by rw [w7, d2, w9, ta (by rw [z1]; omega), z1]; omega) e e''
      exact ⟨y.1, q74_t (q74_n n12 dg D n2 P en) y.2⟩
end
end
section
/-! the sentence of a man -/
section
variable {T : Nat → Int} {N : Int} {F : Nat} {Z : Nat → Nat} {x2 : Int32} {hc hr oc or hc1 : Hp} {x man xi : Int32} {o o' : Int32 × Hp} {i : Nat}
/-- how many steps a man has, of one that is told -/
theorem ps_74 (D : ZD Z) {j : Nat} {v : Int32} (hj : (j : Int) < (hI hr (Z 15) 2).toInt) (P : PS T N Z hc hr) : PS T N Z hc (wI hr (Z 74) j v) := by
  obtain ⟨p1, p2, p3, p4, p5, s1, s2, s3, s4, s5, s6, s7, s8, s9⟩ := P
  have w : ∀ {a : Nat}, a ∈ zl → ¬ a = 74 → ∀ q, hI (wI hr (Z 74) j v) (Z a) q = hI hr (Z a) q := fun ha n q => rI_a (zne D n ha)
  refine ⟨p1, p2, p3, fun q hq => by rw [w (by decide) (by decide)]; exact p4 q hq, ?_, by rw [w (by decide) (by decide)]; exact s1, fun p hp => by rw [w (by decide) (by decide)]; exact s2 p hp, s3, s4, fun q hq => by rw [w (by decide) (by decide)]; exact s5 q hq, fun q hq => ?_, ⟨s7.1, fun q hq => ?_⟩, s8, s9.1, s9.2.1, fun q h1 h2 => ?_, s9.2.2.2⟩
  · obtain ⟨p', k', A, B', ek⟩ := p5
    exact ⟨p', k', A, by rw [w (by decide) (by decide), w (by decide) (by decide), w (by decide) (by decide)]; exact B', by rw [w (by decide) (by decide)]; exact ek⟩
  · rw [w (by decide) (by decide)]
    refine ⟨(s6 q hq).1, (s6 q hq).2.1, fun k hk => ?_⟩
    rw [w (by decide) (by decide)]; exact (s6 q hq).2.2 k hk
  · rw [s7.2 q hq]
    constructor
    · rintro ⟨a, b, c, d, e⟩
      exact ⟨a, b, by rw [w (by decide) (by decide)]; exact c, by rw [w (by decide) (by decide)]; exact d, by rw [w (by decide) (by decide)]; exact e⟩
    · rintro ⟨a, b, c, d, e⟩
      rw [w (by decide) (by decide)] at c d e
      exact ⟨a, b, c, d, e⟩
  · rw [w (by decide) (by decide)] at h1
    rw [rI_o (show ¬ q = j from fun z => by omega), w (a := 81) (by decide) (by decide)]
    exact s9.2.2.1 q h1 h2
theorem ma_77 (n12 : N ≤ 1200) (dg : ∀ j : Nat, (j : Int) < N → 0 ≤ T j ∧ T j ≤ 255) (D : ZD Z) (n2 : x2.toInt = N) : ∀ (f g : Nat) {hc hr : Hp} {xi : Int32}, PS T N Z hc hr → 0 ≤ man.toInt → man.toInt < (hI hr (Z 15) 2).toInt → 0 ≤ xi.toInt → xi.toInt ≤ 7 → hI hr (Z 74) man.toNatClampNeg = xi → sX2_takeMan_77 F f hc (Z 3) man xi = some o → sX15_isMan_92 F g hr (Z 16) (Z 82) x2 man = some o' → Out T N Z o o' := by
  have z1 : (1 : Int32).toInt = 1 := rfl
  have z7 : (7 : Int32).toInt = 7 := rfl
  have z8 : (8 : Int32).toInt = 8 := rfl
  intro f
  induction f with
  | zero => intro g hc hr xi _ _ _ _ _ _ e; exact absurd e (by rw [sX2_takeMan_77]; exact fun z => nomatch z)
  | succ f ih =>
    intro g hc hr xi P m0 mm x0 x7 hx e e'
    cases g with
    | zero => exact absurd e' (by rw [sX15_isMan_92]; exact fun z => nomatch z)
    | succ g =>
      have nm := nc_i m0
      have m12 : (hI hr (Z 15) 2).toInt ≤ 12 := by
        rw [← P.2.2.2.2.2.2.1 (3, 2) (by decide)]; exact P.2.2.2.2.2.2.2.2.1.2
      rw [sX2_takeMan_77] at e
      rw [sX15_isMan_92] at e'
      replace e := br_s e
      rcases e with ⟨l, _⟩ | ⟨_, e⟩
      · have l := le_i l; omega
      replace e := cl_s e
      obtain ⟨o2, e2, e⟩ := e
      replace e' := cl_s e'
      obtain ⟨r1, e1, e'⟩ := e'
      rw [r_eq P.2.1.1 e1] at e'
      replace e' := cl_s e'
      obtain ⟨r2, e2', e'⟩ := e'
      rw [r_eq P.2.1.2.2.1 e2', hx] at e'
      replace e' := (gd_s e').2
      replace e' := cl_s e'
      obtain ⟨o4, e4, e'⟩ := e'
      have m8 : ((8 : Int32) * man).toInt = 8 * man.toInt := by rw [tm (by rw [z8]; omega), z8]
      have ad : (((8 : Int32) * man) + xi).toInt = 8 * man.toInt + xi.toInt := by rw [ta (by rw [m8]; omega), m8]
      unfold sX2_takeStep at e2
      unfold sX15_isStep at e4
      obtain ⟨q1, q2⟩ := sp_5 n12 dg D n2 (by rw [ad]; omega) F F P ⟨by decide, by decide⟩ (by decide) (by decide) e2 e4
      rcases q1 with ⟨a1, a2, a3⟩ | ⟨a1, a2, P2⟩
      · replace e := br_s e
        rcases e with ⟨_, e⟩ | ⟨n, _⟩
        rotate_left
        · exact absurd a1 n
        replace e' := br_s e'
        rcases e' with ⟨_, e'⟩ | ⟨n, _⟩
        rotate_left
        · exact absurd a2 n
        rw [← Option.some.inj e, ← Option.some.inj e']
        exact Or.inl ⟨rfl, rfl, a3⟩
      replace e := br_s e
      rcases e with ⟨n, _⟩ | ⟨_, e⟩
      · exact absurd n a1
      replace e' := br_s e'
      rcases e' with ⟨n, _⟩ | ⟨_, e'⟩
      · exact absurd n a2
      have mc : hI o4.2 (Z 15) 2 = hI hr (Z 15) 2 := q2.2
      replace e' := cl_s e'
      obtain ⟨r6, e6, e'⟩ := e'
      rw [r_eq P2.2.1.1 e6] at e'
      replace e' := cl_s e'
      obtain ⟨r7, e7, e'⟩ := e'
      rw [r_eq P2.2.1.2.2.1 e7] at e'
      replace e' := (gd_s e').2
      replace e' := (gd_s e').2
      replace e' := nm_s e'
      obtain ⟨h10, w10, e'⟩ := e'
      have k74 : hI o4.2 (Z 74) man.toNatClampNeg = xi := (q2.1 _).trans hx
      rw [k74] at w10
      have P10 : PS T N Z o2.2 h10 := by rw [w10]; exact ps_74 D (by rw [mc]; omega) P2
      have v10 : hI h10 (Z 74) man.toNatClampNeg = xi + (1 : Int32) := by rw [w10, rI_s]
      have tx : (xi + (1 : Int32)).toInt = xi.toInt + 1 := by rw [ta (by rw [z1]; omega), z1]
      replace e' := cl_s e'
      obtain ⟨o11, e11, e'⟩ := e'
      obtain ⟨s1, s2⟩ := sg_r P10.2.2.1 P10.2.2.2.1 P10.2.2.2.2.1 (kd := 4) (Or.inr ⟨rfl, rfl⟩) e11
      rw [s1] at e'
      unfold sX2_takeMan_108 at e
      unfold sX15_isMan_154 at e'
      replace e := br_s e
      replace e' := br_s e'
      rcases e with ⟨c, e⟩ | ⟨c, e⟩
      rotate_left
      · rcases e' with ⟨_, e'⟩ | ⟨n, _⟩
        · rw [← Option.some.inj e, ← Option.some.inj e']
          exact Or.inr ⟨i1n0, i1n0, P10⟩
        · exact absurd (s2.mpr (fun z => c (Int32.toInt_inj.mp z))) n
      rcases e' with ⟨n, _⟩ | ⟨_, e'⟩
      · exact absurd (by rw [c]; rfl) (s2.mp n)
      replace e' := cl_s e'
      obtain ⟨r13, e13, e'⟩ := e'
      rw [r_eq P10.2.1.1 e13] at e'
      replace e' := cl_s e'
      obtain ⟨r14, e14, e'⟩ := e'
      rw [r_eq P10.2.1.2.2.1 e14, v10] at e'
      replace e' := (gd_s e').2
      replace e := br_s e
      replace e' := br_s e'
      rcases e with ⟨d, e⟩ | ⟨d, e⟩
      · rcases e' with ⟨_, e'⟩ | ⟨n, _⟩
        · rw [← Option.some.inj e, ← Option.some.inj e']
          exact Or.inr ⟨i1n0, i1n0, P10⟩
        · refine absurd (Int32.toInt_inj.mp ?_) n
          rw [tx, d]; rfl
      have d := ne_i d
      rw [z7] at d
      rcases e' with ⟨n, _⟩ | ⟨_, e'⟩
      · have : (xi + (1 : Int32)).toInt = 8 := by rw [n]; rfl
        omega
      replace e := cl_s e
      obtain ⟨o6, e6', e⟩ := e
      replace e := nm_s e
      obtain ⟨v7, w7, e⟩ := e
      replace e' := cl_s e'
      obtain ⟨o17, e17, e'⟩ := e'
      have P17 := ps_a n12 dg D n2 (ps_b P10).1 (ps_b P10).2 e6' e17
      have K17 := (nt_k (by omega) dg (zne D) P10.2.2.2.1 n2 (by rw [← (ps_b P10).2.1]; exact (ps_b P10).2.2.1) (by rw [← (ps_b P10).2.1]; exact (ps_b P10).2.2.2) e17).1
      refine ih g P17 m0 ?_ (by rw [w7, tx]; omega) (by rw [w7, tx]; omega) ?_ e e'
      · rw [K17.2 _ _ (fun z => zn D z.1), w10, rI_a (zne D), mc]; exact mm
      · rw [K17.2 _ _ (fun z => zn D z.1), v10, w7]
end
section
variable {T : Nat → Int} {N : Int} {F : Nat} {Z : Nat → Nat} {x2 : Int32} {hc hr oc or hc1 : Hp} {x man xi : Int32} {o o' : Int32 × Hp} {i : Nat}
/-- both take a new man -/
theorem pb_m (D : ZD Z) {v : Int32} (P : PS T N Z hc hr) (l : (hI hc (Z 2) 3).toInt < 12) : PB T N Z (wI (wI hc (Z 27) (hI hc (Z 2) 3).toNatClampNeg v) (Z 2) 3 ((hI hc (Z 2) 3) + (1 : Int32))) (wI (wI hr (Z 73) (hI hc (Z 2) 3).toNatClampNeg v) (Z 15) 2 ((hI hc (Z 2) 3) + (1 : Int32))) := by
  have z1 : (1 : Int32).toInt = 1 := rfl
  obtain ⟨⟨p1, p2, p3, p4, s1, s2, s3, s4, s5, s6, s7, s8, s9⟩, c1, c2, c3⟩ := ps_b P
  have m3 : hI hc (Z 2) 3 = hI hr (Z 15) 2 := s2 (3, 2) (by decide)
  have m0 := s4.1
  have nm := nc_i m0
  have tx : ((hI hc (Z 2) 3) + (1 : Int32)).toInt = (hI hc (Z 2) 3).toInt + 1 := by rw [ta (by rw [z1]; omega), z1]
  have cc : ∀ {a : Nat}, a ∈ zl → ¬ a = 27 → ¬ a = 2 → ∀ j, hI (wI (wI hc (Z 27) (hI hc (Z 2) 3).toNatClampNeg v) (Z 2) 3 ((hI hc (Z 2) 3) + (1 : Int32))) (Z a) j = hI hc (Z a) j := fun ha n n' j => by rw [rI_a (zne D n' ha), rI_a (zne D n ha)]
  have c2' : ∀ j, ¬ j = 3 → hI (wI (wI hc (Z 27) (hI hc (Z 2) 3).toNatClampNeg v) (Z 2) 3 ((hI hc (Z 2) 3) + (1 : Int32))) (Z 2) j = hI hc (Z 2) j := fun j n => by rw [rI_o n, rI_a (zne D)]
  have c27 : ∀ j, hI (wI (wI hc (Z 27) (hI hc (Z 2) 3).toNatClampNeg v) (Z 2) 3 ((hI hc (Z 2) 3) + (1 : Int32))) (Z 27) j = hI (wI hc (Z 27) (hI hc (Z 2) 3).toNatClampNeg v) (Z 27) j := fun j => rI_a (zne D)
  have rc : ∀ {a : Nat}, a ∈ zl → ¬ a = 73 → ¬ a = 15 → ∀ j, hI (wI (wI hr (Z 73) (hI hc (Z 2) 3).toNatClampNeg v) (Z 15) 2 ((hI hc (Z 2) 3) + (1 : Int32))) (Z a) j = hI hr (Z a) j := fun ha n n' j => by rw [rI_a (zne D n' ha), rI_a (zne D n ha)]
  have r15 : ∀ j, ¬ j = 2 → hI (wI (wI hr (Z 73) (hI hc (Z 2) 3).toNatClampNeg v) (Z 15) 2 ((hI hc (Z 2) 3) + (1 : Int32))) (Z 15) j = hI hr (Z 15) j := fun j n => by rw [rI_o n, rI_a (zne D)]
  have r73 : ∀ j, hI (wI (wI hr (Z 73) (hI hc (Z 2) 3).toNatClampNeg v) (Z 15) 2 ((hI hc (Z 2) 3) + (1 : Int32))) (Z 73) j = hI (wI hr (Z 73) (hI hc (Z 2) 3).toNatClampNeg v) (Z 73) j := fun j => rI_a (zne D)
  refine ⟨⟨p1, p2, ct_w (zne D) (zne D) p1 (ct_w (zne D) (zne D) p1 p3), rt_w (zne D) (rt_w (zne D) p4), by rw [cc (by decide) (by decide) (by decide), rc (by decide) (by decide) (by decide)]; exact s1, fun p hp => ?_, s3, ?_, fun j hj => ?_, fun q hq => ?_, ⟨by rw [c2' _ (by decide)]; exact s7.1, fun q hq => ?_⟩, by rw [c2' _ (by decide), c2' _ (by decide), c2' _ (by decide), c2' _ (by decide)]; exact s8, by rw [cc (by decide) (by decide) (by decide), c2' _ (by decide)]; exact s9.1, by rw [cc (by decide) (by decide) (by decide)]; exact s9.2.1, fun q h1 h2 => ?_, by rw [cc (by decide) (by decide) (by decide)]; exact s9.2.2.2⟩, ?_⟩
  · by_cases y : p = (3, 2)
    · rw [y, rI_s, rI_s]
    · rw [c2' _ (fun z => y (prs_1 p hp (3, 2) (by decide) (Or.inl z))), r15 _ (fun z => y (prs_1 p hp (3, 2) (by decide) (Or.inr z)))]
      exact s2 p hp
  · rw [rI_s]
    exact ⟨by omega, by omega⟩
  · rw [rI_s, tx] at hj
    rw [c27, r73]
    by_cases y : j = (hI hc (Z 2) 3).toNatClampNeg
    · rw [y, rI_s, rI_s]
    · rw [rI_o y, rI_o y]; exact s5 j (by omega)
  · rw [cc (by decide) (by decide) (by decide), rc (by decide) (by decide) (by decide)]
    refine ⟨(s6 q hq).1, (s6 q hq).2.1, fun k hk => ?_⟩
    rw [cc (by decide) (by decide) (by decide), rc (by decide) (by decide) (by decide)]
    exact (s6 q hq).2.2 k hk
  · rw [c2' _ (by decide), s7.2 q hq, rI_s, tx]
    constructor
    · rintro ⟨a, b, c, d, e⟩
      exact ⟨a, b, by rw [m3]; omega, by rw [rc (by decide) (by decide) (by decide)]; exact d, by rw [rc (by decide) (by decide) (by decide)]; exact e⟩
    · rintro ⟨a, b, c, d, e⟩
      rw [rc (by decide) (by decide) (by decide)] at d e
      by_cases y : a = (hI hc (Z 2) 3).toNatClampNeg
      · have := (s9.2.2.1 a (by rw [← m3]; omega) (by omega)).2
        rw [this] at d
        have z0 : (0 : Int32).toInt = 0 := rfl
        omega
      · exact ⟨a, b, by rw [← m3]; omega, d, e⟩
  · rw [rI_s, tx] at h1
    rw [rc (by decide) (by decide) (by decide), rc (by decide) (by decide) (by decide)]
    exact s9.2.2.1 q (by rw [← m3]; omega) h2
  · rw [cc (by decide) (by decide) (by decide), rc (by decide) (by decide) (by decide)]
    exact ⟨c1, c2, c3⟩
theorem ma_r (n12 : N ≤ 1200) (dg : ∀ j : Nat, (j : Int) < N → 0 ≤ T j ∧ T j ≤ 255) (D : ZD Z) (n2 : x2.toInt = N) (P : PS T N Z hc hr) (e : sX2_takeMan F hc (Z 3) = some o) (e' : sX15_isMan F hr (Z 16) (Z 82) x2 = some o') : Out T N Z o o' := by
  have z1 : (1 : Int32).toInt = 1 := rfl
  have z12 : (12 : Int32).toInt = 12 := rfl
  unfold sX2_takeMan sX2_takeMan_38 at e
  unfold sX15_isMan sX15_isMan_48 at e'
  replace e := cl_s e
  obtain ⟨hc1, ea, e⟩ := e
  replace e' := cl_s e'
  obtain ⟨hr1, en, e'⟩ := e'
  have P1 := ps_a n12 dg D n2 (ps_b P).1 (ps_b P).2 ea en
  have no : some ((0 : Int32), hc1) = some o → some ((0 : Int32), hr1) = some o' → Out T N Z o o' := fun e e' => by
    rw [← Option.some.inj e, ← Option.some.inj e']; exact out_0 P1
  replace e := cl_s e
  obtain ⟨o2, e2, e⟩ := e
  obtain ⟨q1, v1⟩ := one_r n12 (ps_m P1) e2
  rw [q1] at e
  rcases v1 with ⟨v1, n1⟩ | ⟨v1, ⟨k1, l1⟩, y1, rg1⟩
  · replace e := br_s e
    rcases e with ⟨_, e⟩ | ⟨nb, _⟩
    rotate_left
    · exact absurd v1 nb
    replace e' := br_s e'
    rcases e' with ⟨k, e'⟩ | ⟨k, e'⟩
    · replace e' := br_s e'
      rcases e' with ⟨l, e'⟩ | ⟨l, e'⟩
      · exact absurd ⟨k, l⟩ n1
      · exact no e e'
    · exact no e e'
  replace e := br_s e
  rcases e with ⟨nb, _⟩ | ⟨_, e⟩
  · exact absurd nb v1
  replace e' := br_s e'
  rcases e' with ⟨_, e'⟩ | ⟨k, _⟩
  rotate_left
  · exact absurd k1 k
  replace e' := br_s e'
  rcases e' with ⟨_, e'⟩ | ⟨l, _⟩
  rotate_left
  · exact absurd l1 l
  replace e := cl_s e
  obtain ⟨r4, e4, e⟩ := e
  rw [r_eq P1.1.2.1 e4] at e
  replace e := cl_s e
  obtain ⟨o5, e5, e⟩ := e
  replace e' := cl_s e'
  obtain ⟨o4, e4', e'⟩ := e'
  -- the reference finds him as the class does
  have fnd : o5.2 = hc1 ∧ o4.2 = hr1 ∧ o5.1 = o4.1 := by
    unfold sX15_manAt sX15_manAt_37 sX15_manAt_38 at e4'
    replace e4' := br_s e4'
    rcases e4' with ⟨_, e4'⟩ | ⟨n, _⟩
    rotate_left
    · exact absurd k1 n
    replace e4' := br_s e4'
    rcases e4' with ⟨_, e4'⟩ | ⟨n, _⟩
    rotate_left
    · exact absurd l1 n
    replace e4' := cl_s e4'
    obtain ⟨r5, e5', e4'⟩ := e4'
    rw [r_eq P1.2.1.1 e5'] at e4'
    replace e4' := (gd_s e4').2
    rw [← y1] at e4'
    replace e4' := cl_s e4'
    obtain ⟨o6, e6, e4'⟩ := e4'
    unfold sX1_manOf at e5
    unfold sX14_find at e6
    obtain ⟨a1, a2, a3, _⟩ := manf_r (ps_m P1).2.2.2.2.2 P1.1 P1.2.1 F F (show (0 : Int) ≤ (0 : Int32).toInt by decide) (by decide) e5 e6
    rw [← Option.some.inj e4']
    exact ⟨a1, a2, a3⟩
  obtain ⟨f1, f2, f3⟩ := fnd
  rw [f1] at e
  rw [f2, ← f3] at e'
  have m12 := P1.2.2.2.2.2.2.2.2.1
  replace e := br_s e
  replace e' := br_s e'
  rcases e with ⟨b, e⟩ | ⟨b, e⟩
  rotate_left
  · rcases e' with ⟨b', _⟩ | ⟨_, e'⟩
    · exact absurd b' b
    · exact no e e'
  rcases e' with ⟨_, e'⟩ | ⟨b', _⟩
  rotate_left
  · exact absurd b b'
  replace e := cl_s e
  obtain ⟨r7, e7, e⟩ := e
  rw [r_eq P1.1.2.1 e7] at e
  replace e' := cl_s e'
  obtain ⟨r6, e6, e'⟩ := e'
  have m3 : hI hc1 (Z 2) 3 = hI hr1 (Z 15) 2 := P1.2.2.2.2.2.2.1 (3, 2) (by decide)
  rw [r_eq P1.2.1.1 e6, ← m3] at e'
  replace e := br_s e
  replace e' := br_s e'
  rcases e with ⟨c, e⟩ | ⟨c, e⟩
  rotate_left
  · rcases e' with ⟨_, e'⟩ | ⟨c', _⟩
    · exact no e e'
    · have c := nlt_i c
      refine absurd (Int32.toInt_inj.mp ?_) c'
      rw [z12]; have := m12.2; omega
  have c := lt_i c
  rw [z12] at c
  rcases e' with ⟨c', _⟩ | ⟨_, e'⟩
  · rw [c', z12] at c; omega
  replace e := cl_s e
  obtain ⟨o9, e9, e⟩ := e
  have Kc := (adv_k n12 dg P1.2.2.1 (ps_b P1).2.2.1 (ps_b P1).2.2.2 e9).1
  have ZC9 : ZC Z o9 := zc_k P1.1 Kc.1.1
  have k3 : hI o9 (Z 2) 3 = hI hc1 (Z 2) 3 := Kc.2 _ _ (fun z => zn D z.1)
  replace e := cl_s e
  obtain ⟨r10, e10, e⟩ := e
  rw [r_eq ZC9.2.1 e10] at e
  replace e := nm_s e
  obtain ⟨v11, w11, e⟩ := e
  rw [k3] at w11
  replace e := cl_s e
  obtain ⟨r12, e12, e⟩ := e
  rw [r_eq ZC9.2.1 e12] at e
  replace e := cl_s e
  obtain ⟨r13, e13, e⟩ := e
  rw [r_eq ZC9.2.2.2.1 e13] at e
  replace e := (gd_s e).2
  replace e := nm_s e
  obtain ⟨h15, w15, e⟩ := e
  replace e := cl_s e
  obtain ⟨r16, e16, e⟩ := e
  have y16 : r16 = Z 2 := r_eq ZC9.2.1 (by rw [w15] at e16; exact e16)
  rw [y16] at e
  replace e := nm_s e
  obtain ⟨h17, w17, e⟩ := e
  have k15 : hI h15 (Z 2) 3 = hI hc1 (Z 2) 3 := by rw [w15, rI_a (zne D), k3]
  rw [k15] at w17
  rw [w11] at w15 e
  -- the reference
  replace e' := cl_s e'
  obtain ⟨r8, e8, e'⟩ := e'
  rw [r_eq P1.2.1.1 e8] at e'
  replace e' := nm_s e'
  obtain ⟨v9, w9, e'⟩ := e'
  rw [← m3] at w9
  replace e' := cl_s e'
  obtain ⟨r10', e10', e'⟩ := e'
  rw [r_eq P1.2.1.1 e10'] at e'
  replace e' := cl_s e'
  obtain ⟨r11, e11, e'⟩ := e'
  rw [r_eq P1.2.1.2.1 e11] at e'
  replace e' := (gd_s e').2
  replace e' := (gd_s e').2
  rw [← y1, w9] at e'
  replace e' := nm_s e'
  obtain ⟨h14, w14, e'⟩ := e'
  replace e' := cl_s e'
  obtain ⟨r15, e15, e'⟩ := e'
  have y15 : r15 = Z 15 := r_eq P1.2.1.1 (by rw [w14] at e15; exact e15)
  rw [y15] at e'
  replace e' := nm_s e'
  obtain ⟨h16, w16, e'⟩ := e'
  have k14 : hI h14 (Z 15) 2 = hI hc1 (Z 2) 3 := by rw [w14, rI_a (zne D)]; exact m3.symm
  rw [k14] at w16
  replace e' := cl_s e'
  obtain ⟨o17, e17, e'⟩ := e'
  have PB1 : PB T N Z (wI (wI hc1 (Z 27) (hI hc1 (Z 2) 3).toNatClampNeg o2.1) (Z 2) 3 ((hI hc1 (Z 2) 3) + (1 : Int32))) h16 := by
    rw [w16, w14]
    exact pb_m D P1 c
  obtain ⟨P17, _, R17⟩ := ps_aW (W := fun g => wI (wI g (Z 27) (hI hc1 (Z 2) 3).toNatClampNeg o2.1) (Z 2) 3 ((hI hc1 (Z 2) 3) + (1 : Int32))) n12 dg D n2 (fun _ _ _ => rfl) (fun _ _ _ => rfl) (fun g g' a j q => w_3 _ _ a j (w_3 g g' a j q)) (fun g a j ha => by
    rcases ha with rfl | rfl | rfl <;> (show hI (wI (wI g (Z 27) _ _) (Z 2) 3 _) _ j = _; rw [rI_a (zne D), rI_a (zne D)])) PB1 e9 e17
  have P17 : PS T N Z h17 o17 := by rw [w17, w15]; exact P17
  have m0 := m12.1
  have nm := nc_i m0
  have tx : ((hI hc1 (Z 2) 3) + (1 : Int32)).toInt = (hI hc1 (Z 2) 3).toInt + 1 := by rw [ta (by rw [z1]; omega), z1]
  refine ma_77 n12 dg D n2 F F P17 m0 ?_ (show (0 : Int) ≤ (0 : Int32).toInt by decide) (by decide) ?_ e e'
  · rw [R17.2 _ _ (fun z => zn D z.1), w16, rI_s, tx]; omega
  · rw [R17.2 _ _ (fun z => zn D z.1), w16, rI_a (zne D), w14, rI_a (zne D)]
    exact (P1.2.2.2.2.2.2.2.2.2.2.2.2.2.2.2.1 (hI hc1 (Z 2) 3).toNatClampNeg (by rw [← m3]; omega) (by omega)).1
end
end
