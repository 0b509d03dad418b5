/-! the law is plain, no man catches, letters: alike on both sides -/
theorem and32_e {w f : Int32} (w0 : 0 ≤ w.toInt) (e : w.toInt % 64 = f.toInt) : w &&& (32 : Int32) = f &&& (32 : Int32) := by
  have h : w &&& (63 : Int32) = f := Int32.toInt_inj.mp (by rw [and63_i w0]; exact e)
  have t : (63 : Int32) &&& (32 : Int32) = (32 : Int32) := by decide
  rw [← h, Int32.and_assoc, t]
theorem sw_9 : ∀ y : Fin 16, ((nI y.val) &&& (9 : Int32) = 0 ↔ (¬ Bq (nI y.val) 0 ∧ ¬ Bq (nI y.val) 3)) := by unfold Bq; decide +kernel
section
variable {F : Nat} {Z : Nat → Nat} {hc hr : Hp} {L lw m : Nat} {o o' : Int32 × Hp} {x1 : Int32}
theorem cat_12 {k2c k2r : Hp → Nat → Int32 → Option (Int32 × Hp)} (A : ZA Z L lw hc hr) (Q : LwQ Z hc hr) (em : hR hr m 4 = some lw) (a1 : 0 ≤ x1.toInt) (b1 : x1.toInt < (hI hr lw 2).toInt) : ∀ (f g : Nat) {x2 : Int32}, 0 ≤ x2.toInt → x2.toInt ≤ 8 → sX1_hasCatch_12 F k2c f hc L x1 x2 = some o → sX15_hasCatches_15 F k2r g hr m x1 x2 = some o' → (o = ((1 : Int32), hc) ∧ o' = ((1 : Int32), hr)) ∨ (k2c hc L (x1 + (1 : Int32)) = some o ∧ k2r hr m (x1 + (1 : Int32)) = some o') := by
  have z1 : (1 : Int32).toInt = 1 := rfl
  have z8 : (8 : Int32).toInt = 8 := rfl
  obtain ⟨⟨z2, a27, a28, a29, a30, a31⟩, ⟨z15, b73, b74, b75, _⟩, g6, g7, g8⟩ := A
  have men : Rg 0 12 (hI hc (Z 2) 3) := Q.2.2.1
  have mm : hI hc (Z 2) 3 = hI hr (Z 15) 2 := Q.1 (3, 2) (by decide)
  have nx := nc_i a1
  have m12 : x1.toInt < 12 := by
    have := men.2
    rw [mm, z15] at this
    omega
  have l6 := (Q.2.2.2.2.2.2.2.2.2.1 x1.toNatClampNeg (by rw [z15]; omega)).1 (by rw [g7]; exact (Nat.succ_ne_zero _).symm)
  obtain ⟨c1, c2, c3⟩ := l6
  intro f
  induction f with
  | zero => intro g x2 _ _ e; exact absurd e (by rw [sX1_hasCatch_12]; exact fun z => nomatch z)
  | succ f ih =>
    intro g x2 a2 b2 e e'
    cases g with
    | zero => exact absurd e' (by rw [sX15_hasCatches_15]; exact fun z => nomatch z)
    | succ g =>
      rw [sX1_hasCatch_12] at e
      rw [sX15_hasCatches_15] at e'
      replace e := cl_s e; obtain ⟨r1, p, e⟩ := e
      rw [r_eq a29 p] at e
      replace e := (gd_s e).2
      replace e' := cl_s e'; obtain ⟨s1, p, e'⟩ := e'
      rw [r_eq em p] at e'
      replace e' := cl_s e'; obtain ⟨s2, p, e'⟩ := e'
      rw [r_eq b74 p] at e'
      replace e' := (gd_s e').2
      rw [← c1] at e'
      replace e := br_s e
      replace e' := br_s e'
      rcases e with ⟨l, e⟩ | ⟨l, e⟩
      · rcases e' with ⟨_, e'⟩ | ⟨l', _⟩
        rotate_left
        · exact absurd l l'
        replace e := nm_s e; obtain ⟨v, wv, e⟩ := e
        replace e' := nm_s e'; obtain ⟨v', wv', e'⟩ := e'
        rw [wv] at e
        rw [wv'] at e'
        exact Or.inr ⟨e, e'⟩
      rcases e' with ⟨l', _⟩ | ⟨_, e'⟩
      · exact absurd l' l
      have l := nle_i l
      have c28 := c2.2
      replace e := cl_s e; obtain ⟨r5, p, e⟩ := e
      rw [r_eq a28 p] at e
      replace e := (gd_s e).2
      replace e' := cl_s e'; obtain ⟨s6, p, e'⟩ := e'
      rw [r_eq em p] at e'
      replace e' := cl_s e'; obtain ⟨s7, p, e'⟩ := e'
      rw [r_eq b75 p] at e'
      replace e' := (gd_s e').2
      have n2 := nc_i a2
      have t1 : (x1 * (8 : Int32)).toInt = 8 * x1.toInt := by rw [tm (by rw [z8]; omega), z8]; omega
      have t1' : ((8 : Int32) * x1).toInt = 8 * x1.toInt := by rw [tm (by rw [z8]; omega), z8]
      have i1 : ((x1 * (8 : Int32)) + x2).toInt = 8 * x1.toInt + x2.toInt := by rw [ta (by rw [t1]; omega), t1]
      have i2 : (((8 : Int32) * x1) + x2).toInt = 8 * x1.toInt + x2.toInt := by rw [ta (by rw [t1']; omega), t1']
      have k1 : ((x1 * (8 : Int32)) + x2).toNatClampNeg = 8 * x1.toNatClampNeg + x2.toNatClampNeg := by
        have := nc_i (x := (x1 * (8 : Int32)) + x2) (by omega)
        omega
      have k2 : (((8 : Int32) * x1) + x2).toNatClampNeg = 8 * x1.toNatClampNeg + x2.toNatClampNeg := by
        have := nc_i (x := ((8 : Int32) * x1) + x2) (by omega)
        omega
      rw [k1] at e
      rw [k2] at e'
      obtain ⟨⟨sf, sa, sb, sr, ss⟩, sw⟩ := c3 x2.toNatClampNeg (by omega)
      have f0 := sf.1
      have f6 := sf.2
      have a7 := sa.1
      have b7 := sb.1
      have r1' := sr.1
      have s0 := ss.1
      have bits := and32_e (w := hI hc (Z 28) (8 * x1.toNatClampNeg + x2.toNatClampNeg)) (f := hI hr (Z 75) (8 * x1.toNatClampNeg + x2.toNatClampNeg)) (by omega) (by omega)
      rw [bits] at e
      have tx : (x2 + (1 : Int32)).toInt = x2.toInt + 1 := by rw [ta (by rw [z1]; omega), z1]
      replace e := br_s e
      replace e' := br_s e'
      rcases e with ⟨b, e⟩ | ⟨b, e⟩
      · rcases e' with ⟨_, e'⟩ | ⟨b', _⟩
        rotate_left
        · exact absurd b b'
        replace e := nm_s e; obtain ⟨v, wv, e⟩ := e
        replace e' := nm_s e'; obtain ⟨v', wv', e'⟩ := e'
        rw [wv] at e
        rw [wv'] at e'
        exact ih g (by omega) (by omega) e e'
      rcases e' with ⟨b', _⟩ | ⟨_, e'⟩
      · exact absurd b' b
      exact Or.inl ⟨(Option.some.inj e).symm, (Option.some.inj e').symm⟩
theorem cat_2 (A : ZA Z L lw hc hr) (Q : LwQ Z hc hr) (em : hR hr m 4 = some lw) : ∀ (f g : Nat) {x1 : Int32}, 0 ≤ x1.toInt → x1.toInt ≤ 12 → sX1_hasCatch_2 F f hc L x1 = some o → sX15_hasCatches_2 F g hr m x1 = some o' → o.2 = hc ∧ o'.2 = hr ∧ o.1 = o'.1 := by
  have z1 : (1 : Int32).toInt = 1 := rfl
  have z0 : (0 : Int32).toInt = 0 := rfl
  have mm : hI hc L 3 = hI hr lw 2 := by
    have := Q.1 (3, 2) (by decide)
    rw [A.1.1, A.2.1.1] at this
    exact this
  have men : Rg 0 12 (hI hc L 3) := by rw [← A.1.1]; exact Q.2.2.1
  have m12 := men.2
  intro f
  induction f with
  | zero => intro g x1 _ _ e; exact absurd e (by rw [sX1_hasCatch_2]; exact fun z => nomatch z)
  | succ f ih =>
    intro g x1 a1 b1 e e'
    cases g with
    | zero => exact absurd e' (by rw [sX15_hasCatches_2]; exact fun z => nomatch z)
    | succ g =>
      rw [sX1_hasCatch_2] at e
      rw [sX15_hasCatches_2] at e'
      replace e' := cl_s e'; obtain ⟨s1, p, e'⟩ := e'
      rw [r_eq em p, ← mm] at e'
      replace e := br_s e
      replace e' := br_s e'
      rcases e with ⟨l, e⟩ | ⟨l, e⟩
      · rcases e' with ⟨_, e'⟩ | ⟨l', _⟩
        rotate_left
        · exact absurd l l'
        rw [← Option.some.inj e, ← Option.some.inj e']
        exact ⟨rfl, rfl, rfl⟩
      rcases e' with ⟨l', _⟩ | ⟨_, e'⟩
      · exact absurd l' l
      have l := nle_i l
      have tx : (x1 + (1 : Int32)).toInt = x1.toInt + 1 := by rw [ta (by rw [z1]; omega), z1]
      rcases cat_12 A Q em a1 (by rw [← mm]; exact l) F F (by rw [z0]; omega) (by rw [z0]; omega) e e' with ⟨u, v⟩ | ⟨u, v⟩
      · rw [u, v]; exact ⟨rfl, rfl, rfl⟩
      · exact ih g (by omega) (by omega) u v
theorem cat_p (A : ZA Z L lw hc hr) (Q : LwQ Z hc hr) (em : hR hr m 4 = some lw) (e : sX1_hasCatch F hc L = some o) (e' : sX15_hasCatches F hr m = some o') : o.2 = hc ∧ o'.2 = hr ∧ o.1 = o'.1 := by
  unfold sX1_hasCatch at e
  unfold sX15_hasCatches at e'
  exact cat_2 A Q em F F (by decide) (by decide) e e'
theorem plain_p (A : ZA Z L lw hc hr) (Q : LwQ Z hc hr) (c20 : 0 ≤ (hI hr lw 20).toInt) (e : sX1_isPlain hc L = some o) : o.2 = hc ∧ (¬ o.1 = 0 ↔ (hI hr lw 15 = 0 ∧ hI hr lw 18 = 0 ∧ ¬ (0 : Int32) < hI hr lw 20)) := by
  have z0 : (0 : Int32).toInt = 0 := rfl
  obtain ⟨⟨z2, _⟩, ⟨z15, _⟩, g6, g7, g8⟩ := A
  have l5 := Q.2.2.2.2.2.2.2.2.1
  have q7 : hI hc L 7 = hI hr lw 20 := by
    have := Q.1 (7, 20) (by decide)
    rw [z2, z15] at this
    exact this
  obtain ⟨r10, l5⟩ := l5
  rw [z2] at r10
  have k0 := l5 0 (by decide) (by rw [g8]; decide)
  have k3 := l5 3 (by decide) (by rw [g8]; decide)
  rw [z2, z15] at k0 k3
  have r0 := r10.1
  have r1 := r10.2
  have nn := nc_i r0
  have sw := sw_9 ⟨(hI hc L 10).toNatClampNeg, by omega⟩
  have en : nI (hI hc L 10).toNatClampNeg = hI hc L 10 := Int32.toInt_inj.mp (by rw [z_toInt (by omega)]; omega)
  dsimp only at sw
  rw [en] at sw
  have c1 : ((hI hc L 10) &&& (9 : Int32) = 0) ↔ (hI hr lw 15 = 0 ∧ hI hr lw 18 = 0) := by
    rw [sw, k0, k3]
    constructor
    · rintro ⟨u, v⟩
      exact ⟨Classical.not_not.mp u, Classical.not_not.mp v⟩
    · rintro ⟨u, v⟩
      exact ⟨fun w => w u, fun w => w v⟩
  have c2 : hI hc L 7 = 0 ↔ ¬ (0 : Int32) < hI hr lw 20 := by
    rw [q7]
    constructor
    · intro u v
      rw [u] at v
      exact absurd v (by decide)
    · intro u
      have u := nlt_i u
      exact Int32.toInt_inj.mp (by rw [z0]; rw [z0] at u; omega)
  unfold sX1_isPlain sX1_isPlain_20 sX1_isPlain_21 at e
  replace e := cl_s e; obtain ⟨o1, eo1, e⟩ := e
  unfold sX1_has sX1_has_14 at eo1
  replace eo1 := br_s eo1
  rcases eo1 with ⟨b, eo1⟩ | ⟨b, eo1⟩
  · have y := Option.some.inj (gd_s eo1).2
    rw [← y] at e
    dsimp only at e
    replace e := br_s e
    rcases e with ⟨_, e⟩ | ⟨n, _⟩
    rotate_left
    · exact absurd rfl n
    replace e := br_s e
    rcases e with ⟨d, e⟩ | ⟨d, e⟩
    · have y := Option.some.inj (gd_s e).2
      rw [← y]
      exact ⟨rfl, fun _ => ⟨(c1.mp b).1, (c1.mp b).2, c2.mp d⟩, fun _ => show ¬ (1 : Int32) = 0 by decide⟩
    · have y := Option.some.inj (gd_s e).2
      rw [← y]
      exact ⟨rfl, fun w => absurd rfl w, fun w => absurd (c2.mpr w.2.2) d⟩
  · have y := Option.some.inj (gd_s eo1).2
    rw [← y] at e
    dsimp only at e
    replace e := br_s e
    rcases e with ⟨n, _⟩ | ⟨_, e⟩
    · exact absurd n (by decide)
    have y := Option.some.inj (gd_s e).2
    rw [← y]
    exact ⟨rfl, fun w => absurd rfl w, fun w => absurd (c1.mpr ⟨w.1, w.2.1⟩) b⟩
/-- a letter's man -/
theorem ml_p {x b s : Int32} (A : ZA Z L lw hc hr) (Q : LwQ Z hc hr) (em : hR hr m 4 = some lw) (H : ∀ l : Int32, Rg 97 122 l → ((l = x) ↔ (b = l ∨ b = l - (32 : Int32))) ∧ (b = l → s = 1) ∧ (b = l - (32 : Int32) → ¬ b = l → s = 0)) : ∀ (f g : Nat) {j : Int32}, 0 ≤ j.toInt → j.toInt ≤ 12 → sX1_manOf_2 F f hc L x j = some o → sX15_manLetter_2 F g hr m b j = some o' → o.2 = hc ∧ o'.2 = hr ∧ ((o.1 = (-1 : Int32) ∧ o'.1 = 0) ∨ (Rg 0 11 o.1 ∧ o'.1 = ((1 : Int32) + ((2 : Int32) * o.1)) + s)) := by
  have z1 : (1 : Int32).toInt = 1 := rfl
  obtain ⟨⟨z2, a27, _⟩, ⟨z15, b73, _⟩, _⟩ := A
  have mm : hI hc L 3 = hI hr lw 2 := by
    have := Q.1 (3, 2) (by decide)
    rw [z2, z15] at this
    exact this
  have men : Rg 0 12 (hI hc L 3) := by rw [← z2]; exact Q.2.2.1
  have m12 := men.2
  have l1 := Q.2.2.2.1
  intro f
  induction f with
  | zero => intro g j _ _ e; exact absurd e (by rw [sX1_manOf_2]; exact fun z => nomatch z)
  | succ f ih =>
    intro g j j0 j12 e e'
    cases g with
    | zero => exact absurd e' (by rw [sX15_manLetter_2]; exact fun z => nomatch z)
    | succ g =>
      rw [sX1_manOf_2] at e
      rw [sX15_manLetter_2] at e'
      replace e' := cl_s e'; obtain ⟨s1, p, e'⟩ := e'
      rw [r_eq em p, ← mm] at e'
      replace e := br_s e
      replace e' := br_s e'
      rcases e with ⟨l, e⟩ | ⟨l, e⟩
      · rcases e' with ⟨_, e'⟩ | ⟨l', _⟩
        rotate_left
        · exact absurd l l'
        rw [← Option.some.inj e, ← Option.some.inj e']
        exact ⟨rfl, rfl, Or.inl ⟨rfl, rfl⟩⟩
      rcases e' with ⟨l', _⟩ | ⟨_, e'⟩
      · exact absurd l' l
      have l := nle_i l
      have nj := nc_i j0
      obtain ⟨q1, q2⟩ := l1 j.toNatClampNeg (by rw [z2]; omega)
      replace e := cl_s e; obtain ⟨r2, p, e⟩ := e
      rw [r_eq a27 p] at e
      replace e := (gd_s e).2
      replace e' := cl_s e'; obtain ⟨s3, p, e'⟩ := e'
      rw [r_eq em p] at e'
      replace e' := cl_s e'; obtain ⟨s4, p, e'⟩ := e'
      rw [r_eq b73 p] at e'
      replace e' := (gd_s e').2
      rw [← q1] at e'
      obtain ⟨H1, H2, H3⟩ := H _ q2
      have tx : (j + (1 : Int32)).toInt = j.toInt + 1 := by rw [ta (by rw [z1]; omega), z1]
      replace e := br_s e
      replace e' := br_s e'
      rcases e' with ⟨b', e'⟩ | ⟨b', e'⟩
      · rcases e with ⟨_, e⟩ | ⟨n, _⟩
        rotate_left
        · exact absurd (H1.mpr (Or.inl b')) n
        replace e' := cl_s e'; obtain ⟨o13, eo, e'⟩ := e'
        unfold sX15_valueOf at eo
        rw [← Option.some.inj e, ← Option.some.inj e', ← Option.some.inj eo, H2 b']
        exact ⟨rfl, rfl, Or.inr ⟨⟨j0, by show j.toInt ≤ 11; omega⟩, rfl⟩⟩
      replace e' := cl_s e'; obtain ⟨s7, p, e'⟩ := e'
      rw [r_eq em p] at e'
      replace e' := cl_s e'; obtain ⟨s8, p, e'⟩ := e'
      rw [r_eq b73 p] at e'
      replace e' := (gd_s e').2
      rw [← q1] at e'
      replace e' := br_s e'
      rcases e' with ⟨b2, e'⟩ | ⟨b2, e'⟩
      · rcases e with ⟨_, e⟩ | ⟨n, _⟩
        rotate_left
        · exact absurd (H1.mpr (Or.inr b2)) n
        replace e' := cl_s e'; obtain ⟨o13, eo, e'⟩ := e'
        unfold sX15_valueOf at eo
        rw [← Option.some.inj e, ← Option.some.inj e', ← Option.some.inj eo, H3 b2 b']
        exact ⟨rfl, rfl, Or.inr ⟨⟨j0, by show j.toInt ≤ 11; omega⟩, rfl⟩⟩
      rcases e with ⟨n, _⟩ | ⟨_, e⟩
      · rcases H1.mp n with n | n
        · exact absurd n b'
        · exact absurd n b2
      replace e := nm_s e; obtain ⟨v, wv, e⟩ := e
      replace e' := nm_s e'; obtain ⟨v', wv', e'⟩ := e'
      rw [wv] at e
      rw [wv'] at e'
      exact ih g (by omega) (by omega) e e'
/-- a byte's code: the one's is the other's less 1 -/
theorem code_p {x b : Int32} (A : ZA Z L lw hc hr) (Q : LwQ Z hc hr) (em : hR hr m 4 = some lw) (ix : Rg 0 255 x) (eb : b.toInt = sg x.toInt) (e : sX1_codeOf F hc L x = some o) (e' : sX15_manLetter F hr m b = some o') : o.2 = hc ∧ o'.2 = hr ∧ ((o.1 = (-1 : Int32) ∧ o'.1 = 0) ∨ (Rg 1 24 o'.1 ∧ o.1 = o'.1 - (1 : Int32))) := by
  have z1 : (1 : Int32).toInt = 1 := rfl
  have z0 : (0 : Int32).toInt = 0 := rfl
  have z2 : (2 : Int32).toInt = 2 := rfl
  have z32 : (32 : Int32).toInt = 32 := rfl
  have z65 : (65 : Int32).toInt = 65 := rfl
  have z90 : (90 : Int32).toInt = 90 := rfl
  have x0 := ix.1
  have x1 := ix.2
  unfold sX15_manLetter at e'
  have low : ∀ l : Int32, Rg 97 122 l → (l - (32 : Int32)).toInt = l.toInt - 32 := fun l hl => by
    have := hl.1
    have := hl.2
    rw [ts (by rw [z32]; omega), z32]
  have eqs : ∀ l : Int32, Rg 97 122 l → (b = l ↔ x.toInt = l.toInt) ∧ (b = l - (32 : Int32) ↔ x.toInt = l.toInt - 32) := fun l hl => by
    have h1 := hl.1
    have h2 := hl.2
    have h3 := low l hl
    rw [← Int32.toInt_inj, ← Int32.toInt_inj, eb, h3]
    exact ⟨sg_e ⟨x0, x1⟩ ⟨by omega, by omega⟩, sg_e ⟨x0, x1⟩ ⟨by omega, by omega⟩⟩
  have fin : ∀ {man s : Int32} {u : Int32}, Rg 0 11 man → Rg 0 1 s → u = ((1 : Int32) + ((2 : Int32) * man)) + s → Rg 1 24 u ∧ ((2 : Int32) * man) + s = u - (1 : Int32) := fun {man s u} hm hs eu => by
    have a1 := hm.1
    have a2 := hm.2
    have b1 := hs.1
    have b2 := hs.2
    have t1 : ((2 : Int32) * man).toInt = 2 * man.toInt := by rw [tm (by rw [z2]; omega), z2]
    have t2 : ((1 : Int32) + ((2 : Int32) * man)).toInt = 1 + 2 * man.toInt := by rw [ta (by rw [t1, z1]; omega), t1, z1]
    have t3 : u.toInt = 1 + 2 * man.toInt + s.toInt := by rw [eu, ta (by rw [t2]; omega), t2]
    refine ⟨⟨by omega, by omega⟩, Int32.toInt_inj.mp ?_⟩
    rw [ta (by rw [t1]; omega), t1, ts (by rw [z1]; omega), z1]
    omega
  -- no letter of the greater kind
  have lowC : ¬ (65 ≤ x.toInt ∧ x.toInt ≤ 90) → sX1_codeOf_17 F hc L x (0 : Int32) = some o → o.2 = hc ∧ o'.2 = hr ∧ ((o.1 = (-1 : Int32) ∧ o'.1 = 0) ∨ (Rg 1 24 o'.1 ∧ o.1 = o'.1 - (1 : Int32))) := fun nb e => by
    unfold sX1_codeOf_17 sX1_codeOf_31 sX1_codeOf_57 sX1_codeOf_56 sX1_codeOf_57 at e
    replace e := br_s e
    rcases e with ⟨_, e⟩ | ⟨n, _⟩
    rotate_left
    · exact absurd rfl n
    replace e := cl_s e; obtain ⟨o1, eo, e⟩ := e
    unfold sX1_manOf at eo
    obtain ⟨w1, w2, w3⟩ := ml_p (s := (1 : Int32)) (x := x) (b := b) A Q em (fun l hl => by
      obtain ⟨g1, g2⟩ := eqs l hl
      have h1 := hl.1
      have h2 := hl.2
      rw [g1, g2, ← Int32.toInt_inj]
      exact ⟨⟨fun z => Or.inl z.symm, fun z => by omega⟩, fun _ => rfl, fun z => by omega⟩) F F (by decide) (by decide) eo e'
    rw [w1] at e
    replace e := br_s e
    rcases e with ⟨b1, e⟩ | ⟨b1, e⟩
    · rw [← Option.some.inj e]
      refine ⟨rfl, w2, ?_⟩
      rcases w3 with ⟨_, w3⟩ | ⟨w3, _⟩
      · exact Or.inl ⟨rfl, w3⟩
      · exact absurd w3.1 (by rw [b1]; decide)
    rcases w3 with ⟨w3, _⟩ | ⟨w3, w4⟩
    · exact absurd w3 b1
    replace e := br_s e
    rcases e with ⟨_, e⟩ | ⟨n, _⟩
    rotate_left
    · exact absurd rfl n
    rw [← Option.some.inj e]
    exact ⟨rfl, w2, Or.inr (fin w3 ⟨by decide, by decide⟩ w4)⟩
  unfold sX1_codeOf sX1_codeOf_16 at e
  replace e := br_s e
  rcases e with ⟨c, e⟩ | ⟨c, e⟩
  · have c := lt_i c
    rw [z65] at c
    exact lowC (by omega) e
  have c := nlt_i c
  rw [z65] at c
  replace e := br_s e
  rcases e with ⟨d, e⟩ | ⟨d, e⟩
  · have d := lt_i d
    rw [z90] at d
    exact lowC (by omega) e
  have d := nlt_i d
  rw [z90] at d
  unfold sX1_codeOf_17 sX1_codeOf_31 sX1_codeOf_57 sX1_codeOf_56 sX1_codeOf_57 at e
  replace e := br_s e
  rcases e with ⟨n, _⟩ | ⟨_, e⟩
  · exact absurd n (by decide)
  replace e := cl_s e; obtain ⟨o1, eo, e⟩ := e
  unfold sX1_manOf at eo
  have x32 : (x + (32 : Int32)).toInt = x.toInt + 32 := by rw [ta (by rw [z32]; omega), z32]
  obtain ⟨w1, w2, w3⟩ := ml_p (s := (0 : Int32)) (x := x + (32 : Int32)) (b := b) A Q em (fun l hl => by
    obtain ⟨g1, g2⟩ := eqs l hl
    have h1 := hl.1
    have h2 := hl.2
    rw [g1, g2, ← Int32.toInt_inj, x32]
    exact ⟨⟨fun z => Or.inr (by omega), fun z => by omega⟩, fun z => by omega, fun _ _ => rfl⟩) F F (by decide) (by decide) eo e'
  rw [w1] at e
  replace e := br_s e
  rcases e with ⟨b1, e⟩ | ⟨b1, e⟩
  · rw [← Option.some.inj e]
    refine ⟨rfl, w2, ?_⟩
    rcases w3 with ⟨_, w3⟩ | ⟨w3, _⟩
    · exact Or.inl ⟨rfl, w3⟩
    · exact absurd w3.1 (by rw [b1]; decide)
  rcases w3 with ⟨w3, _⟩ | ⟨w3, w4⟩
  · exact absurd w3 b1
  replace e := br_s e
  rcases e with ⟨n, _⟩ | ⟨_, e⟩
  · exact absurd n (by decide)
  rw [← Option.some.inj e]
  exact ⟨rfl, w2, Or.inr (fin w3 ⟨by decide, by decide⟩ w4)⟩
end
