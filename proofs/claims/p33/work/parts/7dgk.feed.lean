/-! the bytes that are fed -/
theorem and255 (y : Int32) : (y &&& (255 : Int32)).toInt = y.toInt % 256 := by
  have h : (y &&& (255 : Int32)).toBitVec.toNat = y.toBitVec.toNat % 256 := by
    show (y.toBitVec &&& 255#32).toNat = _
    rw [BitVec.toNat_and]
    exact Nat.and_two_pow_sub_one_eq_mod y.toBitVec.toNat 8
  have e1 : ∀ z : Int32, z.toInt = if 2 * z.toBitVec.toNat < 2 ^ 32 then (z.toBitVec.toNat : Int) else (z.toBitVec.toNat : Int) - ((2 ^ 32 : Nat) : Int) := fun z => BitVec.toInt_eq_toNat_cond _
  have a := e1 (y &&& (255 : Int32))
  have b := e1 y
  rw [h] at a
  have p : (2 ^ 32 : Nat) = 4294967296 := by decide
  rw [p] at a b
  rw [if_pos (by omega)] at a
  rw [a]
  split at b <;> omega
theorem sg_b {y z : Int32} (h : y.toInt % 256 = z.toInt % 256) : (vp_nar .byte y.toInt8.toInt32).toInt = sg (z &&& (255 : Int32)).toInt := by
  have e8 : (2 ^ 8 : Nat) = 256 := by decide
  have r := rg_y y
  have r1 := r.1
  have r2 := r.2
  have w : (vp_nar .byte y.toInt8.toInt32).toInt = y.toInt8.toInt32.toInt := by
    show y.toInt8.toInt32.toInt8.toInt32.toInt = _
    rw [Int8.toInt_toInt32 (x := y.toInt8.toInt32.toInt8), Int32.toInt_toInt8, e8]
    exact Int.bmod_eq_of_le_mul_two (by omega) (by omega)
  rw [w, and255, ← h, Int8.toInt_toInt32, Int32.toInt_toInt8, e8]
  unfold sg Int.bmod
  have q1 := Int.emod_nonneg y.toInt (show (256 : Int) ≠ 0 by decide)
  dsimp only
  split <;> split <;> omega
/-- byte j of a number, as the class has it; as the reference has it -/
def cb (x : Int32) (j : Nat) : Int32 := match j with
  | 0 => (x.toUInt32 >>> ((24 : Int32).toUInt32 &&& Int32.toUInt32 31)).toInt32
  | 1 => (x.toUInt32 >>> ((16 : Int32).toUInt32 &&& Int32.toUInt32 31)).toInt32
  | 2 => (x.toUInt32 >>> ((8 : Int32).toUInt32 &&& Int32.toUInt32 31)).toInt32
  | _ => x
def rb (x : Int32) (j : Nat) : Int32 := match j with
  | 0 => x >>> ((24 : Int32) &&& 31)
  | 1 => x >>> ((16 : Int32) &&& 31)
  | 2 => x >>> ((8 : Int32) &&& 31)
  | _ => x >>> ((0 : Int32) &&& 31)
theorem cb_m (x : Int32) {j : Nat} (hj : j < 4) : (rb x j).toInt % 256 = (cb x j).toInt % 256 := by
  have t : ∀ q : Int32, ∀ k : Nat, q.toBitVec.toNat % 32 = k → (x >>> (q &&& 31)).toInt = x.toInt / (2 ^ k : Nat) := fun q k hk => Jvm.RoadKit.c_ishr x q k hk
  have u : ∀ q : Int32, ∀ k : Nat, q.toBitVec.toNat % 32 = k → 0 < k → ((x.toUInt32 >>> (q &&& 31).toUInt32).toInt32).toInt = (x.toInt % 4294967296) / (2 ^ k : Nat) := fun q k hk h0 => Jvm.RoadKit.c_iushr x q k hk h0
  have d := Int.emod_add_mul_ediv x.toInt 4294967296
  match j, hj with
  | 0, _ =>
    have a : (rb x 0).toInt = x.toInt / 16777216 := t 24 24 rfl
    have b : (cb x 0).toInt = (x.toInt % 4294967296) / 16777216 := u 24 24 rfl (by decide)
    rw [a, b]
    generalize x.toInt / 4294967296 = p at *
    generalize x.toInt % 4294967296 = r at *
    omega
  | 1, _ =>
    have a : (rb x 1).toInt = x.toInt / 65536 := t 16 16 rfl
    have b : (cb x 1).toInt = (x.toInt % 4294967296) / 65536 := u 16 16 rfl (by decide)
    rw [a, b]
    generalize x.toInt / 4294967296 = p at *
    generalize x.toInt % 4294967296 = r at *
    omega
  | 2, _ =>
    have a : (rb x 2).toInt = x.toInt / 256 := t 8 8 rfl
    have b : (cb x 2).toInt = (x.toInt % 4294967296) / 256 := u 8 8 rfl (by decide)
    rw [a, b]
    generalize x.toInt / 4294967296 = p at *
    generalize x.toInt % 4294967296 = r at *
    omega
  | 3, _ =>
    have a : (rb x 3).toInt = x.toInt / 1 := t 0 0 rfl
    rw [a, Int.ediv_one]
    rfl
  | j + 4, hj => exact absurd hj (by omega)
def wrd5 (x1 x2 x3 x4 x5 : Int32) (k : Nat) : Int32 := if k < 4 then x1 else if k < 8 then x2 else if k < 12 then x3 else if k < 16 then x4 else x5
section
variable {h : Hp} {x0 t F : Nat} {x1 x2 x3 x4 x5 : Int32}
theorem app_2 {o : Hp} {b : Nat} (eb : hR h t 0 = some b) (nb : ¬ b = t) (N : hN h b = 1200) (l : (hI h t 1).toInt < 1200) (l0 : 0 ≤ (hI h t 1).toInt) (e : sX9_append h t x1 = some o) : hI o b (hI h t 1).toInt.toNat = (x1 &&& (255 : Int32)) ∧ ∀ i, ¬ i = (hI h t 1).toInt.toNat → hI o b i = hI h b i := by
  unfold sX9_append sX9_append_36 at e
  replace e := cl_s e
  obtain ⟨r1, e1, e⟩ := e
  have y1 : r1 = b := r_eq eb e1
  subst y1
  have z12 : (nI 1200).toInt = 1200 := rfl
  replace e := br_s e
  rcases e with ⟨q, e⟩ | ⟨_, e⟩
  · have q := le_i q
    rw [N, z12] at q
    omega
  replace e := cl_s e
  obtain ⟨r3, e3, e⟩ := e
  have y3 : r3 = r1 := r_eq eb e3
  subst y3
  replace e := (gd_s e).2
  replace e := nm_s e
  obtain ⟨h5, w5', e⟩ := e
  replace e := nm_s e
  obtain ⟨h6, w6, e⟩ := e
  have zz := Option.some.inj e
  subst zz
  have nx := nc_i (x := hI h t 1) l0
  have ix : (hI h t 1).toNatClampNeg = (hI h t 1).toInt.toNat := by omega
  rw [ix] at w5'
  exact ⟨by rw [w6, rI_a nb, w5', rI_s], fun i n => by rw [w6, rI_a nb, w5', rI_o n]⟩
theorem appn_2 {o : Hp} {b : Nat} (eb : hR h t 0 = some b) (nb : ¬ b = t) (N : hN h b = 1200) (l : (hI h t 1).toInt ≤ 1196) (l0 : 0 ≤ (hI h t 1).toInt) (e : sX9_appendNumber h t x1 = some o) : (∀ j : Nat, j < 4 → hI o b ((hI h t 1).toInt.toNat + j) = ((cb x1 j) &&& (255 : Int32))) ∧ ∀ i : Nat, i < (hI h t 1).toInt.toNat → hI o b i = hI h b i := by
  unfold sX9_appendNumber at e
  replace e := cl_s e
  obtain ⟨o1, e1, e⟩ := e
  obtain ⟨a1, b1, c1⟩ := app_1 eb nb N (by omega) l0 e1
  obtain ⟨p1, q1⟩ := app_2 eb nb N (by omega) l0 e1
  replace e := cl_s e
  obtain ⟨o2, e2, e⟩ := e
  obtain ⟨a2, b2, c2⟩ := app_1 (by rw [b1]; exact eb) nb (by rw [c1]; exact N) (by omega) (by omega) e2
  obtain ⟨p2, q2⟩ := app_2 (by rw [b1]; exact eb) nb (by rw [c1]; exact N) (by omega) (by omega) e2
  replace e := cl_s e
  obtain ⟨o3, e3, e⟩ := e
  obtain ⟨a3, b3, c3⟩ := app_1 (by rw [b2, b1]; exact eb) nb (by rw [c2, c1]; exact N) (by omega) (by omega) e3
  obtain ⟨p3, q3⟩ := app_2 (by rw [b2, b1]; exact eb) nb (by rw [c2, c1]; exact N) (by omega) (by omega) e3
  replace e := cl_s e
  obtain ⟨o4, e4, e⟩ := e
  obtain ⟨p4, q4⟩ := app_2 (by rw [b3, b2, b1]; exact eb) nb (by rw [c3, c2, c1]; exact N) (by omega) (by omega) e4
  rw [← Option.some.inj e]
  have n1 : (hI o1 t 1).toInt.toNat = (hI h t 1).toInt.toNat + 1 := by omega
  have n2 : (hI o2 t 1).toInt.toNat = (hI h t 1).toInt.toNat + 2 := by omega
  have n3 : (hI o3 t 1).toInt.toNat = (hI h t 1).toInt.toNat + 3 := by omega
  rw [n1] at p2 q2
  rw [n2] at p3 q3
  rw [n3] at p4 q4
  refine ⟨fun j hj => ?_, fun i hi => by rw [q4 i (by omega), q3 i (by omega), q2 i (by omega), q1 i (by omega)]⟩
  match j, hj with
  | 0, _ => rw [q4 _ (by omega), q3 _ (by omega), q2 _ (by omega)]; exact p1
  | 1, _ => rw [q4 _ (by omega), q3 _ (by omega)]; exact p2
  | 2, _ => rw [q4 _ (by omega)]; exact p3
  | 3, _ => exact p4
  | j + 4, hj => exact absurd hj (by omega)
/-- feed: the class's bytes -/
theorem feed_c {o : Int32 × Hp} {b : Nat} (et : hR h x0 0 = some t) (eb : hR h t 0 = some b) (nb : ¬ b = t) (N : hN h b = 1200) (i0 : Rg 0 1200 (hI h t 1)) (l20 : (hI h t 1).toInt + 20 ≤ 1200) (e : sX11_feed h x0 x1 x2 x3 x4 x5 = some o) : (∀ k : Nat, k < 20 → hI o.2 b ((hI h t 1).toInt.toNat + k) = ((cb (wrd5 x1 x2 x3 x4 x5 k) (k % 4)) &&& (255 : Int32))) ∧ ∀ i : Nat, i < (hI h t 1).toInt.toNat → hI o.2 b i = hI h b i := by
  have l0 := i0.1
  have l1 := i0.2
  have z20 : (20 : Int32).toInt = 20 := rfl
  have z12 : (1200 : Int32).toInt = 1200 := rfl
  have t20 : ((hI h t 1) + (20 : Int32)).toInt = (hI h t 1).toInt + 20 := by rw [ta (by rw [z20]; omega), z20]
  unfold sX11_feed at e
  replace e := cl_s e
  obtain ⟨r1, e1, e⟩ := e
  have y1 : r1 = t := r_eq et e1
  subst y1
  replace e := br_s e
  rcases e with ⟨q, e⟩ | ⟨q, e⟩
  rotate_left
  · have q := nle_i q
    rw [t20, z12] at q
    omega
  replace e := cl_s e
  obtain ⟨s1, f1, e⟩ := e
  have y : s1 = r1 := r_eq et f1
  subst y
  replace e := cl_s e
  obtain ⟨o1, g1, e⟩ := e
  obtain ⟨a1, b1, c1⟩ := appn_1 eb nb N (by omega) l0 g1
  obtain ⟨u1, v1⟩ := appn_2 eb nb N (by omega) l0 g1
  replace e := cl_s e
  obtain ⟨s2, f2, e⟩ := e
  have y : s2 = s1 := by rw [b1] at f2; exact r_eq et f2
  subst y
  replace e := cl_s e
  obtain ⟨o2, g2, e⟩ := e
  obtain ⟨a2, b2, c2⟩ := appn_1 (by rw [b1]; exact eb) nb (by rw [c1]; exact N) (by omega) (by omega) g2
  obtain ⟨u2, v2⟩ := appn_2 (by rw [b1]; exact eb) nb (by rw [c1]; exact N) (by omega) (by omega) g2
  replace e := cl_s e
  obtain ⟨s3, f3, e⟩ := e
  have y : s3 = s2 := by rw [b2, b1] at f3; exact r_eq et f3
  subst y
  replace e := cl_s e
  obtain ⟨o3, g3, e⟩ := e
  obtain ⟨a3, b3, c3⟩ := appn_1 (by rw [b2, b1]; exact eb) nb (by rw [c2, c1]; exact N) (by omega) (by omega) g3
  obtain ⟨u3, v3⟩ := appn_2 (by rw [b2, b1]; exact eb) nb (by rw [c2, c1]; exact N) (by omega) (by omega) g3
  replace e := cl_s e
  obtain ⟨s4, f4, e⟩ := e
  have y : s4 = s3 := by rw [b3, b2, b1] at f4; exact r_eq et f4
  subst y
  replace e := cl_s e
  obtain ⟨o4, g4, e⟩ := e
  obtain ⟨a4, b4, c4⟩ := appn_1 (by rw [b3, b2, b1]; exact eb) nb (by rw [c3, c2, c1]; exact N) (by omega) (by omega) g4
  obtain ⟨u4, v4⟩ := appn_2 (by rw [b3, b2, b1]; exact eb) nb (by rw [c3, c2, c1]; exact N) (by omega) (by omega) g4
  replace e := cl_s e
  obtain ⟨s5, f5, e⟩ := e
  have y : s5 = s4 := by rw [b4, b3, b2, b1] at f5; exact r_eq et f5
  subst y
  replace e := cl_s e
  obtain ⟨o5, g5, e⟩ := e
  obtain ⟨u5, v5⟩ := appn_2 (by rw [b4, b3, b2, b1]; exact eb) nb (by rw [c4, c3, c2, c1]; exact N) (by omega) (by omega) g5
  replace e := cl_s e
  obtain ⟨s6, f6, e⟩ := e
  rw [← Option.some.inj e]
  have n1 : (hI o1 s5 1).toInt.toNat = (hI h s5 1).toInt.toNat + 4 := by omega
  have n2 : (hI o2 s5 1).toInt.toNat = (hI h s5 1).toInt.toNat + 8 := by omega
  have n3 : (hI o3 s5 1).toInt.toNat = (hI h s5 1).toInt.toNat + 12 := by omega
  have n4 : (hI o4 s5 1).toInt.toNat = (hI h s5 1).toInt.toNat + 16 := by omega
  rw [n1] at u2 v2
  rw [n2] at u3 v3
  rw [n3] at u4 v4
  rw [n4] at u5 v5
  refine ⟨fun k hk => ?_, fun i hi => ?_⟩
  · show hI o5 b _ = _
    unfold wrd5
    by_cases k1 : k < 4
    · rw [if_pos k1, v5 _ (by omega), v4 _ (by omega), v3 _ (by omega), v2 _ (by omega), Nat.mod_eq_of_lt k1]
      exact u1 k k1
    rw [if_neg k1]
    by_cases k2 : k < 8
    · rw [if_pos k2, v5 _ (by omega), v4 _ (by omega), v3 _ (by omega)]
      have w := u2 (k - 4) (by omega)
      rw [show (hI h s5 1).toInt.toNat + 4 + (k - 4) = (hI h s5 1).toInt.toNat + k by omega, show k - 4 = k % 4 by omega] at w
      exact w
    rw [if_neg k2]
    by_cases k3 : k < 12
    · rw [if_pos k3, v5 _ (by omega), v4 _ (by omega)]
      have w := u3 (k - 8) (by omega)
      rw [show (hI h s5 1).toInt.toNat + 8 + (k - 8) = (hI h s5 1).toInt.toNat + k by omega, show k - 8 = k % 4 by omega] at w
      exact w
    rw [if_neg k3]
    by_cases k4 : k < 16
    · rw [if_pos k4, v5 _ (by omega)]
      have w := u4 (k - 12) (by omega)
      rw [show (hI h s5 1).toInt.toNat + 12 + (k - 12) = (hI h s5 1).toInt.toNat + k by omega, show k - 12 = k % 4 by omega] at w
      exact w
    rw [if_neg k4]
    have w := u5 (k - 16) (by omega)
    rw [show (hI h s5 1).toInt.toNat + 16 + (k - 16) = (hI h s5 1).toInt.toNat + k by omega, show k - 16 = k % 4 by omega] at w
    exact w
  · show hI o5 b i = _
    rw [v5 i (by omega), v4 i (by omega), v3 i (by omega), v2 i (by omega), v1 i hi]
/-- feed: the reference's -/
theorem rb_s : ∀ k : Nat, k < 20 → (((24 : Int32) - ((8 : Int32) * ((nI k) &&& (3 : Int32)))) &&& 31) = ((if k % 4 = 0 then (24 : Int32) else if k % 4 = 1 then 16 else if k % 4 = 2 then 8 else 0) &&& 31) := by decide
theorem rb_v (x : Int32) {k : Nat} (hk : k < 20) : x >>> (((24 : Int32) - ((8 : Int32) * ((nI k) &&& (3 : Int32)))) &&& 31) = rb x (k % 4) := by
  rw [rb_s k hk]
  have m := Nat.mod_lt k (show 0 < 4 by decide)
  generalize k % 4 = j at *
  match j, m with
  | 0, _ => rfl
  | 1, _ => rfl
  | 2, _ => rfl
  | 3, _ => rfl
  | j + 4, m => exact absurd m (by omega)
theorem fd_19 (nt : ¬ x0 = t) : ∀ (f : Nat) {h : Hp} {k : Nat} {o : Int32 × Hp}, hR h x0 0 = some t → k ≤ 20 → 0 ≤ (hI h x0 1).toInt → (hI h x0 1).toInt + (20 - (k : Int)) ≤ 1200 → sX15_feed_19 F f h x0 x1 x2 x3 x4 x5 (nI k) = some o → (∀ j : Nat, k ≤ j → j < 20 → hI o.2 t ((hI h x0 1).toInt.toNat + (j - k)) = vp_nar .byte (rb (wrd5 x1 x2 x3 x4 x5 j) (j % 4)).toInt8.toInt32) ∧ ∀ i : Nat, i < (hI h x0 1).toInt.toNat → hI o.2 t i = hI h t i := by
  have z1 : (1 : Int32).toInt = 1 := rfl
  have z4 : (4 : Int32).toInt = 4 := rfl
  have z8 : (8 : Int32).toInt = 8 := rfl
  have z12 : (12 : Int32).toInt = 12 := rfl
  have z16 : (16 : Int32).toInt = 16 := rfl
  have z20 : (20 : Int32).toInt = 20 := rfl
  intro f
  induction f with
  | zero => intro h k o _ _ _ _ e; exact absurd e (by simp [sX15_feed_19])
  | succ f ih =>
    intro h k o et l6 a1 l1 e
    have tk : (nI k).toInt = (k : Int) := z_toInt (by omega)
    have go : ∀ {t0 : Int32}, k < 20 → t0 = wrd5 x1 x2 x3 x4 x5 k → sX15_feed_72 F (sX15_feed_19 F f) h x0 x1 x2 x3 x4 x5 (nI k) t0 = some o → (∀ j : Nat, k ≤ j → j < 20 → hI o.2 t ((hI h x0 1).toInt.toNat + (j - k)) = vp_nar .byte (rb (wrd5 x1 x2 x3 x4 x5 j) (j % 4)).toInt8.toInt32) ∧ ∀ i : Nat, i < (hI h x0 1).toInt.toNat → hI o.2 t i = hI h t i := fun {t0} l q0 e => by
      unfold sX15_feed_72 at e
      replace e := cl_s e
      obtain ⟨t', et', e⟩ := e
      have y : t' = t := r_eq et et'
      subst y
      replace e := (gd_s e).2
      replace e := nm_s e
      obtain ⟨h3, w3, e⟩ := e
      replace e := nm_s e
      obtain ⟨h4, w4, e⟩ := e
      replace e := nm_s e
      obtain ⟨v5, w5', e⟩ := e
      have y5 : v5 = nI (k + 1) := Int32.toInt_inj.mp (by
        rw [w5', ta (by rw [z1, tk]; omega), z1, tk, z_toInt (by omega)]
        omega)
      rw [y5] at e
      have nx := nc_i (x := hI h x0 1) a1
      have ix : (hI h x0 1).toNatClampNeg = (hI h x0 1).toInt.toNat := by omega
      rw [ix, rb_v t0 l, q0] at w3
      have e4 : (hI h4 x0 1).toInt = (hI h x0 1).toInt + 1 := by
        rw [w4, rI_s, w3, rI_a nt, ta (by rw [z1]; omega), z1]
      have n4 : (hI h4 x0 1).toInt.toNat = (hI h x0 1).toInt.toNat + 1 := by omega
      obtain ⟨u1, u2⟩ := ih (h := h4) (k := k + 1) (by rw [w4, w3]; exact et) (by omega) (by omega) (by omega) e
      rw [n4] at u1 u2
      refine ⟨fun j hj lj => ?_, fun i hi => ?_⟩
      · by_cases z : j = k
        · rw [z, Nat.sub_self, Nat.add_zero, u2 _ (by omega), w4, rI_a (fun y => nt y.symm), w3, rI_s]
        · have w := u1 j (by omega) lj
          rw [show (hI h x0 1).toInt.toNat + 1 + (j - (k + 1)) = (hI h x0 1).toInt.toNat + (j - k) by omega] at w
          exact w
      · rw [u2 i (by omega), w4, rI_a (fun y => nt y.symm), w3, rI_o (by omega)]
    unfold sX15_feed_19 at e
    replace e := br_s e
    rcases e with ⟨l, e⟩ | ⟨l, e⟩
    · have l := le_i l
      rw [z20, tk] at l
      rw [← Option.some.inj e]
      exact ⟨fun j hj lj => absurd lj (by omega), fun _ _ => rfl⟩
    have l := nle_i l
    rw [z20, tk] at l
    replace e := br_s e
    rcases e with ⟨m4, e⟩ | ⟨m4, e⟩
    · have m4 := le_i m4
      rw [z4, tk] at m4
      replace e := br_s e
      rcases e with ⟨m8, e⟩ | ⟨m8, e⟩
      · have m8 := le_i m8
        rw [z8, tk] at m8
        replace e := br_s e
        rcases e with ⟨m12, e⟩ | ⟨m12, e⟩
        · have m12 := le_i m12
          rw [z12, tk] at m12
          replace e := br_s e
          rcases e with ⟨m16, e⟩ | ⟨m16, e⟩
          · have m16 := le_i m16
            rw [z16, tk] at m16
            exact go (by omega) (by unfold wrd5; rw [if_neg (by omega), if_neg (by omega), if_neg (by omega), if_neg (by omega)]) e
          · have m16 := nle_i m16
            rw [z16, tk] at m16
            exact go (by omega) (by unfold wrd5; rw [if_neg (by omega), if_neg (by omega), if_neg (by omega), if_pos (by omega)]) e
        · have m12 := nle_i m12
          rw [z12, tk] at m12
          exact go (by omega) (by unfold wrd5; rw [if_neg (by omega), if_neg (by omega), if_pos (by omega)]) e
      · have m8 := nle_i m8
        rw [z8, tk] at m8
        exact go (by omega) (by unfold wrd5; rw [if_neg (by omega), if_pos (by omega)]) e
    · have m4 := nle_i m4
      rw [z4, tk] at m4
      exact go (by omega) (by unfold wrd5; rw [if_pos (by omega)]) e
theorem feed_r {o : Int32 × Hp} (nt : ¬ x0 = t) (et : hR h x0 0 = some t) (a1 : 0 ≤ (hI h x0 1).toInt) (l : (hI h x0 1).toInt + 20 ≤ 1200) (e : sX15_feed F h x0 x1 x2 x3 x4 x5 = some o) : (∀ j : Nat, j < 20 → hI o.2 t ((hI h x0 1).toInt.toNat + j) = vp_nar .byte (rb (wrd5 x1 x2 x3 x4 x5 j) (j % 4)).toInt8.toInt32) ∧ ∀ i : Nat, i < (hI h x0 1).toInt.toNat → hI o.2 t i = hI h t i := by
  have z20 : (20 : Int32).toInt = 20 := rfl
  have zb : (1200 : Int32).toInt = 1200 := rfl
  have tt : (hI h x0 1 + (20 : Int32)).toInt = (hI h x0 1).toInt + 20 := by rw [ta (by rw [z20]; omega), z20]
  unfold sX15_feed at e
  replace e := br_s e
  rcases e with ⟨_, e⟩ | ⟨q, _⟩
  · obtain ⟨u1, u2⟩ := fd_19 nt F (k := 0) et (by omega) a1 (by omega) e
    exact ⟨fun j lj => u1 j (Nat.zero_le j) lj, u2⟩
  · have q := nle_i q
    rw [tt, zb] at q
    omega
end
