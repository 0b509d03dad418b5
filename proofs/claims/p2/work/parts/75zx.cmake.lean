/-! men of the law alone: put, shift, blast, make -/
/-- men that are changed: gone, or squares and men of the law -/
def kq (k : Nat) : Bool := k == 34 || k == 36 || k == 4 || k == 38
def PxC (ρ : Nat → Nat) (n m : Int) (h o : Hp) : Prop := (∀ a i, hR o a i = hR h a i) ∧ (∀ a i, kq (ρ a) = false → hI o a i = hI h a i) ∧ ∀ a s, ρ a = 34 → hI o a s = hI h a s ∨ (hI o a s).toInt < 0 ∨ ((s : Int) < n ∧ (hI o a s).toInt < 2 * m)
/-- where a position's rows lie -/
def PR (ρ : Nat → Nat) (p : Nat) (h : Hp) : Prop := ρ p = 4 ∧ (∀ r, hR h p 0 = some r → ρ r = 34) ∧ (∀ r, hR h p 2 = some r → ρ r = 36) ∧ ∀ r, hR h p 4 = some r → ρ r = 38
def MvX (n m : Int) (v : Int32) : Prop := (v &&& (63 : Int32)).toInt < n ∧ ((v >>> ((6 : Int32) &&& 31)) &&& (63 : Int32)).toInt < n ∧ ((v >>> ((12 : Int32) &&& 31)) &&& (15 : Int32)).toInt < m ∧ (((v >>> ((16 : Int32) &&& 31)) &&& (15 : Int32)) = 15 ∨ ((v >>> ((16 : Int32) &&& 31)) &&& (15 : Int32)).toInt < m)
section
variable {ρ : Nat → Nat} {c : Cm} {h o g : Hp} {x0 p L F : Nat} {n m : Int} {x1 x2 x3 : Int32}
theorem px_0 : PxC ρ n m h h := ⟨fun _ _ => rfl, fun _ _ _ => rfl, fun _ _ _ => Or.inl rfl⟩
theorem px_t (a : PxC ρ n m h g) (b : PxC ρ n m g o) : PxC ρ n m h o := ⟨fun x i => (b.1 x i).trans (a.1 x i), fun x i r => (b.2.1 x i r).trans (a.2.1 x i r), fun x s r => by
  rcases b.2.2 x s r with z | z
  · rw [z]; exact a.2.2 x s r
  · exact Or.inr z⟩
theorem px_J {a i : Nat} {v : Int64} : PxC ρ n m h (wJ h a i v) := ⟨fun _ _ => rfl, fun _ _ _ => rfl, fun _ _ _ => Or.inl rfl⟩
theorem px_I {a i : Nat} {v : Int32} (n2 : kq (ρ a) = true) (n34 : ¬ ρ a = 34) : PxC ρ n m h (wI h a i v) := ⟨fun _ _ => rfl, fun b j r => by rw [r_I, if_neg (fun z => by rw [z.1, n2] at r; exact absurd r (by decide))], fun b j r => Or.inl (by rw [r_I, if_neg (fun z => n34 (by rw [← z.1]; exact r))])⟩
theorem pxn {a i : Nat} {v : Int32} (r : ρ a = 34) (z : v.toInt < 0 ∨ ((i : Int) < n ∧ v.toInt < 2 * m)) : PxC ρ n m h (wI h a i v) := ⟨fun _ _ => rfl, fun b j rb => by rw [r_I, if_neg (fun z => by rw [z.1, r] at rb; exact absurd rb (by decide))], fun b j rb => by
  rw [r_I]
  by_cases y : b = a ∧ j = i
  · rw [if_pos y, y.2]; exact Or.inr z
  · rw [if_neg y]; exact Or.inl rfl⟩
theorem pr_k (k : ∀ a i, hR o a i = hR h a i) (P : PR ρ p h) : PR ρ p o := ⟨P.1, fun r e => P.2.1 r (by rw [← k]; exact e), fun r e => P.2.2.1 r (by rw [← k]; exact e), fun r e => P.2.2.2 r (by rw [← k]; exact e)⟩
/-- the side is as it was -/
def Sd5 (ρ : Nat → Nat) (h o : Hp) : Prop := ∀ a, ρ a = 4 → hI o a 5 = hI h a 5
theorem sd_t (a : Sd5 ρ h g) (b : Sd5 ρ g o) : Sd5 ρ h o := fun x r => (b x r).trans (a x r)
theorem sd_I {a i : Nat} {v : Int32} (n4 : ¬ ρ a = 4) : Sd5 ρ h (wI h a i v) := fun b r => by rw [r_I, if_neg (fun z => n4 (by rw [← z.1]; exact r))]
theorem put70_x (P : PR ρ p h) (i1 : Rg 0 63 x1) (i2 : Rg (-2) 23 x2) (X : 0 ≤ x2.toInt → x1.toInt < n ∧ x2.toInt < 2 * m) {x4 : Int64} (e : sX3_put_70 h p x1 x2 x3 x4 = some o) : PxC ρ n m h o ∧ Sd5 ρ h o := by
  unfold sX3_put_70 sX3_put_111 at e
  simp only [nm] at e
  replace e := cl_s e
  obtain ⟨on, e1, e⟩ := e
  have qon := P.2.1 on e1
  replace e := (gd_s e).2
  rw [nar8 i2] at e
  have c1 := clamp_i i1.1
  have K1 : PxC ρ n m h (wI h on x1.toNatClampNeg x2) := pxn qon (by
    by_cases z : 0 ≤ x2.toInt
    · exact Or.inr ⟨by have := (X z).1; omega, (X z).2⟩
    · exact Or.inl (by omega))
  have S1 : Sd5 ρ h (wI h on x1.toNatClampNeg x2) := sd_I (by rw [qon]; decide)
  replace e := br_s e
  rcases e with ⟨_, e⟩ | ⟨_, e⟩
  · rw [← Option.some.inj e]
    exact ⟨px_t K1 px_J, fun a r => S1 a r⟩
  replace e := cl_s e
  obtain ⟨of, e5, e⟩ := e
  replace e := (gd_s (gd_s e).2).2
  replace e := br_s e
  rcases e with ⟨_, e⟩ | ⟨_, e⟩
  · replace e := cl_s e
    obtain ⟨ra, e10, e⟩ := e
    replace e := (gd_s e).2
    have qra := P.2.2.1 ra e10
    rw [← Option.some.inj e]
    exact ⟨px_t K1 (px_t px_J (px_t (px_I (by rw [qra]; decide) (by rw [qra]; decide)) px_J)), sd_t S1 (sd_t (fun _ _ => rfl) (sd_t (sd_I (by rw [qra]; decide)) (fun _ _ => rfl)))⟩
  · rw [← Option.some.inj e]
    exact ⟨px_t K1 (px_t px_J px_J), fun a r => S1 a r⟩
theorem put_x (P : PR ρ p h) (i2 : Rg (-2) 23 x2) (X : 0 ≤ x2.toInt → x1.toInt < n ∧ x2.toInt < 2 * m) (e : sX3_put h p x1 x2 x3 = some o) : PxC ρ n m h o ∧ Sd5 ρ h o := by
  unfold sX3_put sX3_put_10 at e
  simp only [nm] at e
  replace e := br_s e
  rcases e with ⟨_, e⟩ | ⟨n0, e⟩
  · rw [← Option.some.inj e]; exact ⟨px_0, fun _ _ => rfl⟩
  replace e := br_s e
  rcases e with ⟨l64, e⟩ | ⟨_, e⟩
  · have i1 : Rg 0 63 x1 := by
      have a := nlt_i n0
      have b := Int32.lt_iff_toInt_lt.mp l64
      have z0 : (0 : Int32).toInt = 0 := rfl
      have z64 : (64 : Int32).toInt = 64 := rfl
      exact ⟨by omega, by omega⟩
    replace e := cl_s e
    obtain ⟨q4, w4, e⟩ := e
    replace e := (gd_s e).2
    have fin : ∀ {g : Hp}, (∀ a i, hR g a i = hR h a i) → PxC ρ n m h g → Sd5 ρ h g → sX3_put_70 g p x1 x2 x3 ((1 : Int64) <<< (x1.toInt64 &&& 63)) = some o → PxC ρ n m h o ∧ Sd5 ρ h o := fun {g} a1 a2 a3 e => by
      obtain ⟨u1, u2⟩ := put70_x (n := n) (m := m) (pr_k a1 P) i1 i2 X e
      exact ⟨px_t a2 u1, sd_t a3 u2⟩
    replace e := br_s e
    rcases e with ⟨_, e⟩ | ⟨_, e⟩
    · exact put70_x P i1 i2 X e
    · replace e := cl_s e
      obtain ⟨q8, w8, e⟩ := e
      replace e := (gd_s (gd_s e).2).2
      replace e := cl_s e
      obtain ⟨q12, w12, e⟩ := e
      replace e := (gd_s e).2
      replace e := br_s e
      rcases e with ⟨_, e⟩ | ⟨_, e⟩
      · replace e := cl_s e
        obtain ⟨q15, w15, e⟩ := e
        have qra := P.2.2.1 q15 w15
        replace e := (gd_s e).2
        refine fin ?_ ?_ ?_ e
        · intro a i; rfl
        · exact px_t px_J (px_I (by rw [qra]; decide) (by rw [qra]; decide))
        · exact sd_t (g := wJ h q8 _ _) (fun _ _ => rfl) (sd_I (by rw [qra]; decide))
      · refine fin ?_ ?_ ?_ e
        · intro a i; rfl
        · exact px_J
        · intro a r; rfl
  · rw [← Option.some.inj e]; exact ⟨px_0, fun _ _ => rfl⟩
theorem near_16 : ∀ (f : Nat) {x4 x5 : Int32} {o : Int32 × Hp}, sX5_nearest_16 F f h x0 p x3 x4 x5 = some o → o.2 = h := by
  intro f
  induction f with
  | zero => intro x4 x5 o e; exact absurd e (by rw [sX5_nearest_16]; exact fun z => nomatch z)
  | succ f ih =>
    intro x4 x5 o e
    rw [sX5_nearest_16] at e
    unfold sX5_nearest_62 at e
    simp only [nm] at e
    replace e := br_s e
    rcases e with ⟨_, e⟩ | ⟨_, e⟩
    · rw [← Option.some.inj e]
    replace e := cl_s e
    obtain ⟨_, _, e⟩ := e
    replace e := br_s e
    rcases e with ⟨_, e⟩ | ⟨_, e⟩
    · rw [← Option.some.inj e]
    replace e := cl_s e
    obtain ⟨_, _, e⟩ := e
    replace e := (gd_s e).2
    replace e := br_s e
    rcases e with ⟨_, e⟩ | ⟨_, e⟩
    · exact ih e
    · rw [← Option.some.inj e]
theorem near_h {o : Int32 × Hp} (e : sX5_nearest F h x0 p x2 x3 = some o) : o.2 = h := by
  unfold sX5_nearest at e
  replace e := cl_s e
  obtain ⟨_, _, e⟩ := e
  replace e := cl_s e
  obtain ⟨_, _, e⟩ := e
  replace e := (gd_s e).2
  exact near_16 F e
/-- what a shift asks: law, side, castle -/
def ShP (ρ : Nat → Nat) (x0 p L : Nat) (m : Int) (h : Hp) : Prop := PR ρ p h ∧ hR h x0 0 = some L ∧ ρ L = 2 ∧ Rg 0 1 (hI h p 5) ∧ Rg (-1) 11 (hI h L 6) ∧ (hI h L 6).toInt < m ∧ m ≤ 12
theorem sh_k (k : PxC ρ n m h o) (s : Sd5 ρ h o) (P : ShP ρ x0 p L m h) : ShP ρ x0 p L m o := by
  obtain ⟨a, b, cL, d, e, f, g⟩ := P
  refine ⟨pr_k k.1 a, by rw [k.1]; exact b, cL, by rw [s p a.1]; exact d, by rw [k.2.1 L 6 (by rw [cL]; rfl)]; exact e, by rw [k.2.1 L 6 (by rw [cL]; rfl)]; exact f, g⟩
theorem code_x {y z : Int32} (iy : Rg (-1) 11 y) (iz : Rg 0 1 z) (l : y.toInt < m) : Rg (-2) 23 (((2 : Int32) * y) + z) ∧ (((2 : Int32) * y) + z).toInt < 2 * m := by
  have a := iy.1
  have b := iy.2
  have c := iz.1
  have d := iz.2
  have z2 : (2 : Int32).toInt = 2 := rfl
  have t1 : ((2 : Int32) * y).toInt = 2 * y.toInt := by rw [tm (by rw [z2]; omega), z2]
  have t2 : (((2 : Int32) * y) + z).toInt = 2 * y.toInt + z.toInt := by rw [ta (by rw [t1]; omega), t1]
  exact ⟨⟨by omega, by omega⟩, by omega⟩
theorem sh_145 {x4 x6 : Int32} (P : ShP ρ x0 p L m h) (M : MvX n m x2) (l4 : x4.toInt < n) (i6 : Rg (-2) 23 x6) (l6 : x6.toInt < 2 * m) (e : sX5_shift_145 F h x0 p x2 x3 x4 x6 = some o) : PxC ρ n m h o ∧ Sd5 ρ h o := by
  unfold sX5_shift_145 sX5_shift_185 at e
  replace e := cl_s e
  obtain ⟨r1, _, e⟩ := e
  replace e := cl_s e
  obtain ⟨o2, e2, e⟩ := e
  obtain ⟨k2, s2⟩ := put_x (n := n) (m := m) P.1 (rg_m (rg_b rfl : Rg (-1) (-1) (-1 : Int32)) (by decide)) (fun z => absurd z (by decide)) e2
  have P2 := sh_k k2 s2 P
  have bec : ∀ {g : Hp} {o : Int32 × Hp}, sX5_becomes g x2 = some o → o.2 = g ∧ (¬ o.1 = (-1 : Int32) → Rg (-1) 11 o.1 ∧ o.1.toInt < m) := fun {g o} e => by
    unfold sX5_becomes sX5_becomes_19 at e
    simp only [nm] at e
    replace e := br_s e
    rcases e with ⟨_, e⟩ | ⟨n15, e⟩
    · rw [← Option.some.inj e]; exact ⟨rfl, fun z => absurd rfl z⟩
    · rw [← Option.some.inj e]
      refine ⟨rfl, fun _ => ?_⟩
      rcases M.2.2.2 with z | z
      · exact absurd z n15
      · have i : Rg 0 15 ((x2 >>> ((16 : Int32) &&& 31)) &&& (15 : Int32)) := rg_and (c := 15) (d := 15) (rg_b rfl) (by decide)
        have := i.1
        have := P.2.2.2.2.2.2
        exact ⟨⟨by show (-1 : Int) ≤ ((x2 >>> ((16 : Int32) &&& 31)) &&& (15 : Int32)).toInt; omega, by show ((x2 >>> ((16 : Int32) &&& 31)) &&& (15 : Int32)).toInt ≤ _; omega⟩, z⟩
  replace e := cl_s e
  obtain ⟨o3, e3, e⟩ := e
  obtain ⟨q3, _⟩ := bec e3
  rw [q3] at e
  replace e := br_s e
  rcases e with ⟨_, e⟩ | ⟨ne, e⟩
  · replace e := cl_s e
    obtain ⟨r1', _, e⟩ := e
    replace e := cl_s e
    obtain ⟨o4, e4, e⟩ := e
    rw [← Option.some.inj e]
    obtain ⟨k4, s4⟩ := put_x (n := n) (m := m) P2.1 i6 (fun _ => ⟨l4, l6⟩) e4
    exact ⟨px_t k2 k4, sd_t s2 s4⟩
  · replace e := cl_s e
    obtain ⟨o5, e5, e⟩ := e
    obtain ⟨q5, b5⟩ := bec e5
    have e35 : o5.1 = o3.1 := by
      rw [e3] at e5
      have := Option.some.inj e5
      rw [← this]
    obtain ⟨ib, lb⟩ := b5 (by rw [e35]; exact ne)
    rw [q5] at e
    replace e := cl_s e
    obtain ⟨r1', _, e⟩ := e
    replace e := cl_s e
    obtain ⟨o4, e4, e⟩ := e
    rw [← Option.some.inj e]
    obtain ⟨ci, cl⟩ := code_x ib P2.2.2.2.1 lb
    obtain ⟨k4, s4⟩ := put_x (n := n) (m := m) P2.1 ci (fun _ => ⟨l4, cl⟩) e4
    exact ⟨px_t k2 k4, sd_t s2 s4⟩
theorem sh_122 {x4 x5 x6 : Int32} (P : ShP ρ x0 p L m h) (M : MvX n m x2) (l4 : x4.toInt < n) (i6 : Rg (-2) 23 x6) (l6 : x6.toInt < 2 * m) (e : sX5_shift_122 F h x0 p x2 x3 x4 x5 x6 = some o) : PxC ρ n m h o ∧ Sd5 ρ h o := by
  unfold sX5_shift_122 at e
  replace e := br_s e
  rcases e with ⟨_, e⟩ | ⟨_, e⟩
  · replace e := cl_s e
    obtain ⟨o2, e2, e⟩ := e
    have q2 : o2.2 = h := by unfold sX3_passSquare at e2; rw [← Option.some.inj e2]
    rw [q2] at e
    replace e := cl_s e
    obtain ⟨r3, _, e⟩ := e
    replace e := cl_s e
    obtain ⟨o4, e4, e⟩ := e
    obtain ⟨k4, s4⟩ := put_x (n := n) (m := m) P.1 (rg_m (rg_b rfl : Rg (-1) (-1) (-1 : Int32)) (by decide)) (fun z => absurd z (by decide)) e4
    obtain ⟨k5, s5⟩ := sh_145 (sh_k k4 s4 P) M l4 i6 l6 e
    exact ⟨px_t k4 k5, sd_t s4 s5⟩
  · exact sh_145 P M l4 i6 l6 e
theorem shift_x (P : ShP ρ x0 p L m h) (M : MvX n m x2) (e : sX5_shift F h x0 p x2 = some o) : PxC ρ n m h o ∧ Sd5 ρ h o := by
  unfold sX5_shift sX5_leftBy sX5_comeTo sX5_kindOf sX5_manOf at e
  simp only [nm] at e
  replace e := cl_s e
  obtain ⟨o1, e1, e⟩ := e
  have y1 := Option.some.inj e1
  subst y1
  replace e := cl_s e
  obtain ⟨o2, e2, e⟩ := e
  have y2 := Option.some.inj e2
  subst y2
  replace e := cl_s e
  obtain ⟨o3, e3, e⟩ := e
  have y3 := Option.some.inj e3
  subst y3
  replace e := cl_s e
  obtain ⟨o4, e4, e⟩ := e
  have y4 := Option.some.inj e4
  subst y4
  have im : Rg 0 15 ((x2 >>> ((12 : Int32) &&& 31)) &&& (15 : Int32)) := rg_and (c := 15) (d := 15) (rg_b rfl) (by decide)
  have im0 := im.1
  have m12 := P.2.2.2.2.2.2
  have lm := M.2.2.1
  obtain ⟨ci, cl⟩ := code_x (m := m) (y := (x2 >>> ((12 : Int32) &&& 31)) &&& (15 : Int32)) ⟨by omega, by omega⟩ P.2.2.2.1 lm
  replace e := br_s e
  rcases e with ⟨_, e⟩ | ⟨_, e⟩
  · replace e := cl_s e
    obtain ⟨r9, _, e⟩ := e
    replace e := cl_s e
    obtain ⟨o10, e10, e⟩ := e
    rw [← Option.some.inj e]
    exact put_x (n := n) (m := m) P.1 ci (fun _ => ⟨M.1, cl⟩) e10
  have b72 : ∀ {d : Int32}, sX5_shift_72 F h x0 p x2 ((x2 >>> ((6 : Int32) &&& 31)) &&& (63 : Int32)) (x2 &&& (63 : Int32)) ((x2 >>> ((24 : Int32) &&& 31)) &&& (3 : Int32)) (((2 : Int32) * ((x2 >>> ((12 : Int32) &&& 31)) &&& (15 : Int32))) + (hI h p 5)) d ((x2 >>> ((6 : Int32) &&& 31)) &&& (63 : Int32)) p x0 = some o → PxC ρ n m h o ∧ Sd5 ρ h o := fun {d} e => by
    unfold sX5_shift_72 at e
    replace e := cl_s e
    obtain ⟨o1, e1, e⟩ := e
    rw [near_h e1] at e
    replace e := cl_s e
    obtain ⟨r2, _, e⟩ := e
    replace e := cl_s e
    obtain ⟨o3, e3, e⟩ := e
    obtain ⟨k3, s3⟩ := put_x (n := n) (m := m) P.1 (rg_m (rg_b rfl : Rg (-1) (-1) (-1 : Int32)) (by decide)) (fun z => absurd z (by decide)) e3
    have P3 := sh_k k3 s3 P
    replace e := cl_s e
    obtain ⟨r4, e4, e⟩ := e
    have y4 : r4 = L := r_eq P3.2.1 e4
    subst y4
    replace e := cl_s e
    obtain ⟨r5, _, e⟩ := e
    replace e := cl_s e
    obtain ⟨o6, e6, e⟩ := e
    obtain ⟨ci2, cl2⟩ := code_x P3.2.2.2.2.1 P3.2.2.2.1 P3.2.2.2.2.2.1
    have ia : Rg 0 63 ((x2 >>> ((6 : Int32) &&& 31)) &&& (63 : Int32)) := rg_and (c := 63) (d := 63) (rg_b rfl) (by decide)
    have ib : Rg 0 63 (x2 &&& (63 : Int32)) := rg_and (c := 63) (d := 63) (rg_b rfl) (by decide)
    have lmid : ((((x2 >>> ((6 : Int32) &&& 31)) &&& (63 : Int32)) + (x2 &&& (63 : Int32))) >>> ((1 : Int32) &&& 31)).toInt < n := by
      have a1 := ia.1
      have a2 := ia.2
      have b1 := ib.1
      have b2 := ib.2
      have m1 := M.1
      have m2 := M.2.1
      rw [ti_shr1, ta (by omega)]
      omega
    obtain ⟨k6, s6⟩ := put_x (n := n) (m := m) P3.1 ci2 (fun _ => ⟨lmid, cl2⟩) e6
    obtain ⟨k7, s7⟩ := sh_122 (sh_k k6 s6 P3) M M.1 ci cl e
    exact ⟨px_t k3 (px_t k6 k7), sd_t s3 (sd_t s6 s7)⟩
  replace e := br_s e
  rcases e with ⟨_, e⟩ | ⟨_, e⟩
  · replace e := br_s e
    rcases e with ⟨_, e⟩ | ⟨_, e⟩
    · exact b72 e
    · exact b72 e
  · exact sh_122 P M M.1 ci cl e
end
