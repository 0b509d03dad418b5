section
/-! the class: a STEP's vectors over the board -/
/-- the class's RULES are these numbers -/
def wrdI (L : Nat → Nat → Int) (j : Nat) : Int := L 75 j + 64 * (L 76 j + 8) + 1024 * (L 77 j + 8) + 16384 * L 78 j + 131072 * L 79 j
def CLq (V : Nat → Nat) (h : Hp) (L : Nat → Nat → Int) : Prop := (hI h (V 2) 0).toInt = L 0 0 ∧ (hI h (V 2) 1).toInt = L 1 0 ∧ (hI h (V 2) 2).toInt = L 0 0 * L 1 0 ∧ (hI h (V 2) 3).toInt = L 2 0 ∧ (∀ m : Nat, (m : Int) < L 2 0 → (hI h (V 29) m).toInt = L 74 m ∧ ∀ i : Nat, (i : Int) < L 74 m → (hI h (V 28) (8 * m + i)).toInt = wrdI L (8 * m + i)) ∧ ∀ s : Nat, (s : Int) < L 0 0 * L 1 0 → (hI h (V 32) s).toInt = s % L 0 0 ∧ (hI h (V 33) s).toInt = s / L 0 0
def WLf (V : Nat → Nat) (h : Hp) : Prop := hR h (V 11) 6 = some (V 56) ∧ hR h (V 11) 7 = some (V 2) ∧ hR h (V 2) 15 = some (V 28) ∧ hR h (V 2) 16 = some (V 29) ∧ hR h (V 2) 19 = some (V 32) ∧ hR h (V 2) 20 = some (V 33)
section
variable {F : Nat} {V : Nat → Nat} {h o' : Hp} {L : Nat → Nat → Int} {Ls : List (Nat × Nat)}
theorem clw_f (D : VD V) (P : CLq V h L) (A : FrV V (wl Ls) h o') (n : ∀ p, p ∈ Ls → p.1 ∈ vql ∧ ¬ p.1 = 2 ∧ ¬ p.1 = 28 ∧ ¬ p.1 = 29 ∧ ¬ p.1 = 32 ∧ ¬ p.1 = 33) : CLq V o' L := by
  have hL : ∀ p, p ∈ Ls → p.1 ∈ vql := fun p hp => (n p hp).1
  have k2 : ∀ i, hI o' (V 2) i = hI h (V 2) i := fun i => fvI D A 2 i (fun p hp => (n p hp).2.1) (by decide) hL
  have k28 : ∀ i, hI o' (V 28) i = hI h (V 28) i := fun i => fvI D A 28 i (fun p hp => (n p hp).2.2.1) (by decide) hL
  have k29 : ∀ i, hI o' (V 29) i = hI h (V 29) i := fun i => fvI D A 29 i (fun p hp => (n p hp).2.2.2.1) (by decide) hL
  have k32 : ∀ i, hI o' (V 32) i = hI h (V 32) i := fun i => fvI D A 32 i (fun p hp => (n p hp).2.2.2.2.1) (by decide) hL
  have k33 : ∀ i, hI o' (V 33) i = hI h (V 33) i := fun i => fvI D A 33 i (fun p hp => (n p hp).2.2.2.2.2) (by decide) hL
  obtain ⟨a, b, c, d, e, f⟩ := P
  exact ⟨by rw [k2]; exact a, by rw [k2]; exact b, by rw [k2]; exact c, by rw [k2]; exact d, fun m hm => ⟨by rw [k29]; exact (e m hm).1, fun i hi => by rw [k28]; exact (e m hm).2 i hi⟩, fun s hs => ⟨by rw [k32]; exact (f s hs).1, by rw [k33]; exact (f s hs).2⟩⟩
theorem wlf_f {W : Nat → Nat → Bool} (P : WLf V h) (A : FrV V W h o') : WLf V o' := by
  obtain ⟨a, b, c, d, e, f⟩ := P
  exact ⟨by rw [A.1]; exact a, by rw [A.1]; exact b, by rw [A.1]; exact c, by rw [A.1]; exact d, by rw [A.1]; exact e, by rw [A.1]; exact f⟩
/-- fields of a STEP's word -/
theorem wrd_e {w : Int32} {j : Nat} (J : StR L j) (e : w.toInt = wrdI L j) : (((w >>> ((6 : Int32) &&& 31)) &&& (15 : Int32)) - (8 : Int32)).toInt = L 76 j ∧ (((w >>> ((10 : Int32) &&& 31)) &&& (15 : Int32)) - (8 : Int32)).toInt = L 77 j ∧ ((w >>> ((14 : Int32) &&& 31)) &&& (7 : Int32)).toInt = L 78 j ∧ ((w >>> ((17 : Int32) &&& 31)) &&& (15 : Int32)).toInt = L 79 j ∧ (w &&& (63 : Int32)).toInt = L 75 j ∧ (w &&& (4 : Int32) = 0 ↔ fbt (L 75 j) 2 = false) := by
  have z8 : (8 : Int32).toInt = 8 := rfl
  obtain ⟨⟨f0, f1⟩, ⟨a0, a1⟩, ⟨b0, b1⟩, _, ⟨r0, r1⟩, ⟨s0, s1⟩⟩ := J
  unfold wrdI at e
  have s6 : (w >>> ((6 : Int32) &&& 31)).toInt = w.toInt / 64 := shr_i 6 (by decide)
  have s10 : (w >>> ((10 : Int32) &&& 31)).toInt = w.toInt / 1024 := shr_i 10 (by decide)
  have s14 : (w >>> ((14 : Int32) &&& 31)).toInt = w.toInt / 16384 := shr_i 14 (by decide)
  have s17 : (w >>> ((17 : Int32) &&& 31)).toInt = w.toInt / 131072 := shr_i 17 (by decide)
  have m6 : ((w >>> ((6 : Int32) &&& 31)) &&& (15 : Int32)).toInt = w.toInt / 64 % 16 := by rw [and_i (m := 4) (by rw [s6]; omega) (by decide) rfl, s6]; rfl
  have m10 : ((w >>> ((10 : Int32) &&& 31)) &&& (15 : Int32)).toInt = w.toInt / 1024 % 16 := by rw [and_i (m := 4) (by rw [s10]; omega) (by decide) rfl, s10]; rfl
  have m14 : ((w >>> ((14 : Int32) &&& 31)) &&& (7 : Int32)).toInt = w.toInt / 16384 % 8 := by rw [and_i (m := 3) (by rw [s14]; omega) (by decide) rfl, s14]; rfl
  have m17 : ((w >>> ((17 : Int32) &&& 31)) &&& (15 : Int32)).toInt = w.toInt / 131072 % 16 := by rw [and_i (m := 4) (by rw [s17]; omega) (by decide) rfl, s17]; rfl
  have m63 : (w &&& (63 : Int32)).toInt = w.toInt % 64 := by rw [and_i (m := 6) (by omega) (by decide) rfl]; rfl
  refine ⟨?_, ?_, by rw [m14]; omega, by rw [m17]; omega, by rw [m63]; omega, ?_⟩
  · rw [ts (by rw [m6, z8]; omega), m6, z8]; omega
  · rw [ts (by rw [m10, z8]; omega), m10, z8]; omega
  · have b := (fb_e (x := w &&& (63 : Int32)) ⟨by rw [m63]; omega, by rw [m63]; omega⟩).2.2.1
    rw [m63, show w.toInt % 64 = L 75 j by omega, Int32.and_assoc, show (63 : Int32) &&& (4 : Int32) = (4 : Int32) by decide] at b
    exact b
theorem ison_v {f r : Int32} {o : Int32 × Hp} (w7 : hR h (V 11) 7 = some (V 2)) (P : CLq V h L) (e : sX10_isOn h (V 11) f r = some o) : o.2 = h ∧ ((o.1 = 0 ∧ ¬ (0 ≤ f.toInt ∧ f.toInt < L 0 0 ∧ 0 ≤ r.toInt ∧ r.toInt < L 1 0)) ∨ (o.1 = 1 ∧ (0 ≤ f.toInt ∧ f.toInt < L 0 0 ∧ 0 ≤ r.toInt ∧ r.toInt < L 1 0))) := by
  have z0 : (0 : Int32).toInt = 0 := rfl
  unfold sX10_isOn sX10_isOn_34 sX10_isOn_35 at e
  rcases br_s e with ⟨c, e⟩ | ⟨c, e⟩
  · have c := lt_i c
    rw [z0] at c
    rw [so_e (gg_e e)]
    exact ⟨rfl, Or.inl ⟨rfl, by omega⟩⟩
  have c := nlt_i c
  rw [z0] at c
  replace e := ce_e w7 e
  rcases br_s e with ⟨d, e⟩ | ⟨d, e⟩
  · have d := le_i d
    rw [P.1] at d
    rw [so_e (gg_e e)]
    exact ⟨rfl, Or.inl ⟨rfl, by omega⟩⟩
  have d := nle_i d
  rw [P.1] at d
  rcases br_s e with ⟨g, e⟩ | ⟨g, e⟩
  · have g := lt_i g
    rw [z0] at g
    rw [so_e (gg_e e)]
    exact ⟨rfl, Or.inl ⟨rfl, by omega⟩⟩
  have g := nlt_i g
  rw [z0] at g
  replace e := ce_e w7 e
  rcases br_s e with ⟨i, e⟩ | ⟨i, e⟩
  · have i := le_i i
    rw [P.2.1] at i
    rw [so_e (gg_e e)]
    exact ⟨rfl, Or.inl ⟨rfl, by omega⟩⟩
  have i := nle_i i
  rw [P.2.1] at i
  rw [so_e (gg_e e)]
  exact ⟨rfl, Or.inr ⟨rfl, c, d, g, i⟩⟩
end
section
variable {F : Nat} {V : Nat → Nat} {L : Nat → Nat → Int} {o : Int64 × Hp}
/-- along one vector -/
theorem rd_158 (D : VD V) {i w X Y : Int32} {j s : Nat} (H : LOk L) (J : StR L j) (ew : w.toInt = wrdI L j) (sL : (s : Int) < L 0 0 * L 1 0) (ii : 0 ≤ i.toInt ∧ i.toInt < 8) (iX : -7 ≤ X.toInt ∧ X.toInt ≤ 7) (iY : -7 ≤ Y.toInt ∧ Y.toInt ≤ 7) (nz : ¬ (X.toInt = 0 ∧ Y.toInt = 0)) : ∀ (f : Nat) {h : Hp} {x11 : Int64} {x13 x14 x15 : Int32}, WLf V h → CLq V h L → 1 ≤ x15.toInt → x15.toInt ≤ 8 → x13.toInt = (s : Int) % L 0 0 + x15.toInt * X.toInt → x14.toInt = (s : Int) / L 0 0 + x15.toInt * Y.toInt → sX10_ride_158 F f h (V 11) i w X Y x11 x13 x14 x15 = some o → FrV V (wl [(56, 999)]) h o.2 ∧ (∀ k : Int, x15.toInt ≤ k → k ≤ L 78 j → onK (L 0 0) (L 1 0) s X.toInt Y.toInt k → (hI o.2 (V 56) (tgt (L 0 0) s X.toInt Y.toInt k * 8 + i.toInt).toNat).toInt = k) ∧ (∀ x : Nat, (∀ k : Int, x15.toInt ≤ k → k ≤ L 78 j → onK (L 0 0) (L 1 0) s X.toInt Y.toInt k → ¬ (x : Int) = tgt (L 0 0) s X.toInt Y.toInt k * 8 + i.toInt) → hI o.2 (V 56) x = hI h (V 56) x) ∧ ∀ t : Nat, t < 64 → (bitJ o.1 t = true ↔ bitJ x11 t = true ∨ ∃ k : Int, x15.toInt ≤ k ∧ k ≤ L 78 j ∧ onK (L 0 0) (L 1 0) s X.toInt Y.toInt k ∧ (t : Int) = tgt (L 0 0) s X.toInt Y.toInt k) := by
  have z1 : (1 : Int32).toInt = 1 := rfl
  have z8 : (8 : Int32).toInt = 8 := rfl
  have sq := sq_64 H
  have fi := H.1
  have ra := H.2.1
  have r7 := J.2.2.2.2.1
  have rd := (wrd_e J ew).2.2.1
  intro f
  induction f with
  | zero => intro h x11 x13 x14 x15 _ _ _ _ _ _ e; exact absurd e (by rw [sX10_ride_158]; exact fun z => nomatch z)
  | succ f ih =>
    intro h x11 x13 x14 x15 W P a15 b15 e13 e14 e
    rw [sX10_ride_158] at e
    unfold sX10_ride_239 at e
    have stop : (∀ k : Int, x15.toInt ≤ k → k ≤ L 78 j → ¬ onK (L 0 0) (L 1 0) s X.toInt Y.toInt k) → some (x11, h) = some o → FrV V (wl [(56, 999)]) h o.2 ∧ (∀ k : Int, x15.toInt ≤ k → k ≤ L 78 j → onK (L 0 0) (L 1 0) s X.toInt Y.toInt k → (hI o.2 (V 56) (tgt (L 0 0) s X.toInt Y.toInt k * 8 + i.toInt).toNat).toInt = k) ∧ (∀ x : Nat, (∀ k : Int, x15.toInt ≤ k → k ≤ L 78 j → onK (L 0 0) (L 1 0) s X.toInt Y.toInt k → ¬ (x : Int) = tgt (L 0 0) s X.toInt Y.toInt k * 8 + i.toInt) → hI o.2 (V 56) x = hI h (V 56) x) ∧ ∀ t : Nat, t < 64 → (bitJ o.1 t = true ↔ bitJ x11 t = true ∨ ∃ k : Int, x15.toInt ≤ k ∧ k ≤ L 78 j ∧ onK (L 0 0) (L 1 0) s X.toInt Y.toInt k ∧ (t : Int) = tgt (L 0 0) s X.toInt Y.toInt k) := fun no u => by
      rw [so_e u]
      refine ⟨fv_0, fun k a b c => absurd c (no k a b), fun _ _ => rfl, fun t _ => ⟨fun z => Or.inl z, ?_⟩⟩
      rintro (z | ⟨k, a, b, c, _⟩)
      · exact z
      · exact absurd c (no k a b)
    rcases br_s e with ⟨l, e⟩ | ⟨l, e⟩
    · have l := lt_i l
      rw [rd] at l
      exact stop (fun k a b => by omega) e
    have l := nlt_i l
    rw [rd] at l
    replace e := cl_s e; obtain ⟨o2, eo2, e⟩ := e
    obtain ⟨w2, on2⟩ := ison_v W.2.1 P eo2
    rw [w2] at e
    rcases br_s e with ⟨c, e⟩ | ⟨c, e⟩
    · refine stop (fun k a b ok => ?_) e
      have ok' := onk_mid (j := x15.toInt) (show 0 < L 0 0 by omega) (by omega) sL ok ⟨by omega, a⟩
      rcases on2 with ⟨_, n⟩ | ⟨y, _⟩
      · exact n (by rw [e13, e14]; exact ok')
      · rw [y] at c; exact absurd c (by decide)
    have ok : onK (L 0 0) (L 1 0) s X.toInt Y.toInt x15.toInt := by
      rcases on2 with ⟨y, _⟩ | ⟨_, y⟩
      · exact absurd y c
      · rw [e13, e14] at y; exact y
    obtain ⟨t0, t1, _, _⟩ := tgt_on (show 0 < L 0 0 by omega) ok
    have okb := ok
    obtain ⟨k0, k1, k2, k3⟩ := okb
    replace e := ce_e W.2.1 e
    replace e := nm_s e; obtain ⟨v5, u5, e⟩ := e
    have b1 := mb (n := 8) (m := 8) (k := x14.toInt) (d := (hI h (V 2) 0).toInt) ⟨by omega, by omega⟩ ⟨by rw [P.1]; omega, by rw [P.1]; omega⟩ (by decide)
    have m5 : (x14 * (hI h (V 2) 0)).toInt = x14.toInt * L 0 0 := by rw [tm (by omega), P.1]
    have t5 : v5.toInt = tgt (L 0 0) s X.toInt Y.toInt x15.toInt := by
      rw [u5, ta (by rw [m5]; rw [P.1] at b1; omega), m5, e13, e14]
      rfl
    have m8 : (v5 * (8 : Int32)).toInt = v5.toInt * 8 := by rw [tm (by rw [z8]; omega), z8]
    have ix : ((v5 * (8 : Int32)) + i).toNatClampNeg = (tgt (L 0 0) s X.toInt Y.toInt x15.toInt * 8 + i.toInt).toNat := by
      have a : ((v5 * (8 : Int32)) + i).toInt = v5.toInt * 8 + i.toInt := by rw [ta (by rw [m8]; omega), m8]
      have := nc_i (x := (v5 * (8 : Int32)) + i) (by omega)
      omega
    replace e := ce_e W.1 e
    replace e := gg_e e
    replace e := nm_s e; obtain ⟨h8, u8, e⟩ := e
    rw [ix] at u8
    replace e := nm_s e; obtain ⟨v9, u9, e⟩ := e
    replace e := nm_s e; obtain ⟨v10, u10, e⟩ := e
    replace e := nm_s e; obtain ⟨v11, u11, e⟩ := e
    replace e := nm_s e; obtain ⟨v12, u12, e⟩ := e
    have A : FrV V (wl [(56, 999)]) h h8 := by rw [u8]; exact fv_w (wl_9 (by decide))
    have t12 : v12.toInt = x15.toInt + 1 := by rw [u12, ta (by rw [z1]; omega), z1]
    have px := mb (n := 7) (m := 8) (k := x15.toInt) (d := X.toInt) ⟨by omega, by omega⟩ iX (by decide)
    have py := mb (n := 7) (m := 8) (k := x15.toInt) (d := Y.toInt) ⟨by omega, by omega⟩ iY (by decide)
    have t10 : v10.toInt = (s : Int) % L 0 0 + v12.toInt * X.toInt := by
      rw [u10, ta (by omega), e13, t12, Int.add_mul, Int.one_mul]; omega
    have t11 : v11.toInt = (s : Int) / L 0 0 + v12.toInt * Y.toInt := by
      rw [u11, ta (by omega), e14, t12, Int.add_mul, Int.one_mul]; omega
    obtain ⟨r1, r2, r3, r4⟩ := ih (wlf_f W A) (clw_f D P A (by decide)) (by omega) (by omega) t10 t11 e
    have uni : ∀ k : Int, onK (L 0 0) (L 1 0) s X.toInt Y.toInt k → tgt (L 0 0) s X.toInt Y.toInt k = tgt (L 0 0) s X.toInt Y.toInt x15.toInt → k = x15.toInt := fun k ok' te => by
      obtain ⟨a, b⟩ := tgt_u ok' ok te
      by_cases c : X.toInt = 0
      · exact Int.eq_of_mul_eq_mul_right (fun z => nz ⟨c, z⟩) b
      · exact Int.eq_of_mul_eq_mul_right c a
    refine ⟨fv_t A r1, fun k a b c => ?_, fun x hx => ?_, fun t ht => ?_⟩
    · by_cases q : k = x15.toInt
      · rw [q, r3 _ (fun k' a' b' c' z => ?_), u8, rI_s]
        have : tgt (L 0 0) s X.toInt Y.toInt k' = tgt (L 0 0) s X.toInt Y.toInt x15.toInt := by omega
        have := uni k' c' this
        omega
      · exact r2 k (by omega) b c
    · rw [r3 x (fun k a b c => hx k (by omega) b c), u8, rI_o (fun z => hx x15.toInt (Int.le_refl _) l ok (by omega))]
    · rw [r4 t ht, u9, bj_or, Bool.or_eq_true, bj_one (x := v5) ⟨by omega, by omega⟩, decide_eq_true_eq]
      have cv := nc_i (x := v5) (by omega)
      constructor
      · rintro ((z | z) | ⟨k, a, b, c, d⟩)
        · exact Or.inl z
        · exact Or.inr ⟨x15.toInt, Int.le_refl _, l, ok, by omega⟩
        · exact Or.inr ⟨k, by omega, b, c, d⟩
      · rintro (z | ⟨k, a, b, c, d⟩)
        · exact Or.inl (Or.inl z)
        · by_cases q : k = x15.toInt
          · rw [q] at d
            exact Or.inl (Or.inr (by omega))
          · exact Or.inr ⟨k, by omega, b, c, d⟩
/-- one vector of a STEP -/
theorem rd_val {i w v sd : Int32} {j : Nat} {x : Int32} {h : Hp} (J : StR L j) (ew : w.toInt = wrdI L j) (iv : Rg 0 7 v) (isd : Rg 0 1 sd) (fo : fbt (L 75 j) 2 = true → v = 0) (W : WLf V h) (e : sX10_ride F h (V 11) x i w v sd = some o) : ∃ X Y : Int32, X.toInt = vXi (L 76 j) (L 77 j) (fbt (L 75 j) 2) v.toNatClampNeg ∧ Y.toInt = vYi (L 76 j) (L 77 j) sd.toInt (fbt (L 75 j) 2) v.toNatClampNeg ∧ sX10_ride_158 F F h (V 11) i w X Y (0 : Int64) ((hI h (V 32) x.toNatClampNeg) + X) ((hI h (V 33) x.toNatClampNeg) + Y) (1 : Int32) = some o := by
  have z0 : (0 : Int32).toInt = 0 := rfl
  have z1 : (1 : Int32).toInt = 1 := rfl
  obtain ⟨ea, eb, _, _, _, e4⟩ := wrd_e J ew
  obtain ⟨b1, b2, b4⟩ := bt_d iv
  obtain ⟨_, ⟨a0, a1⟩, ⟨c0, c1⟩, _⟩ := J
  unfold sX10_ride at e
  replace e := nm_s e; obtain ⟨A, uA, e⟩ := e
  replace e := nm_s e; obtain ⟨B, uB, e⟩ := e
  rw [← uA] at ea
  rw [← uB] at eb
  rw [← ea] at a0 a1
  rw [← eb] at c0 c1
  rw [← ea, ← eb]
  have neg : ∀ {y : Int32}, -7 ≤ y.toInt → y.toInt ≤ 7 → (-y).toInt = -y.toInt := fun {y} p q => by
    have : -y = (0 : Int32) - y := by rw [Int32.zero_sub]
    rw [this, ts (by rw [z0]; omega), z0]; omega
  -- the end
  have fin : ∀ {X Y : Int32}, sX10_ride_124 F h (V 11) x i w X Y = some o → sX10_ride_158 F F h (V 11) i w X Y (0 : Int64) ((hI h (V 32) x.toNatClampNeg) + X) ((hI h (V 33) x.toNatClampNeg) + Y) (1 : Int32) = some o := fun {X Y} u => by
    unfold sX10_ride_124 at u
    replace u := ce_e W.2.1 u
    replace u := ce_e W.2.2.2.2.1 u
    replace u := gg_e u
    replace u := nx_e u
    replace u := ce_e W.2.1 u
    replace u := ce_e W.2.2.2.2.2 u
    replace u := gg_e u
    exact u
  rcases br_s e with ⟨c, e⟩ | ⟨c, e⟩
  · -- eight vectors
    rw [e4.mp c]
    unfold sX10_ride_35 at e
    replace e := bp_e rfl e
    have last : ∀ {P Q : Int32}, P.toInt = (if v.toNatClampNeg / 4 % 2 = 1 then B.toInt else A.toInt) → Q.toInt = (if v.toNatClampNeg / 4 % 2 = 1 then A.toInt else B.toInt) → sX10_ride_87 F h (V 11) x i w v sd (0 : Int32) P Q = some o → ∃ X Y : Int32, X.toInt = vXi A.toInt B.toInt false v.toNatClampNeg ∧ Y.toInt = vYi A.toInt B.toInt sd.toInt false v.toNatClampNeg ∧ sX10_ride_158 F F h (V 11) i w X Y (0 : Int64) ((hI h (V 32) x.toNatClampNeg) + X) ((hI h (V 33) x.toNatClampNeg) + Y) (1 : Int32) = some o := fun {P Q} hP hQ u => by
      unfold sX10_ride_87 at u
      have rP : -7 ≤ P.toInt ∧ P.toInt ≤ 7 := by rw [hP]; split <;> omega
      have rQ : -7 ≤ Q.toInt ∧ Q.toInt ≤ 7 := by rw [hQ]; split <;> omega
      have k101 : ∀ {X : Int32}, X.toInt = vXi A.toInt B.toInt false v.toNatClampNeg → sX10_ride_101 F h (V 11) x i w v sd (0 : Int32) X Q = some o → ∃ X Y : Int32, X.toInt = vXi A.toInt B.toInt false v.toNatClampNeg ∧ Y.toInt = vYi A.toInt B.toInt sd.toInt false v.toNatClampNeg ∧ sX10_ride_158 F F h (V 11) i w X Y (0 : Int64) ((hI h (V 32) x.toNatClampNeg) + X) ((hI h (V 33) x.toNatClampNeg) + Y) (1 : Int32) = some o := fun {X} hX y => by
        unfold sX10_ride_101 at y
        rcases br_s y with ⟨d, y⟩ | ⟨d, y⟩
        · replace y := bp_e rfl y
          refine ⟨X, Q, hX, ?_, fin y⟩
          unfold vYi
          rw [if_neg (by decide), if_neg (b2.mp d)]; exact hQ
        · unfold sX10_ride_119 at y
          refine ⟨X, -Q, hX, ?_, fin (nx_e y)⟩
          unfold vYi
          rw [if_neg (by decide), if_pos (by
            by_cases q : v.toNatClampNeg / 2 % 2 = 1
            · exact q
            · exact absurd (b2.mpr q) d), neg rQ.1 rQ.2, hQ]
      rcases br_s u with ⟨d, u⟩ | ⟨d, u⟩
      · refine k101 ?_ u
        unfold vXi
        rw [if_neg (by decide), if_neg (b1.mp d)]; exact hP
      · refine k101 (X := -P) ?_ (nx_e u)
        unfold vXi
        rw [if_neg (by decide), if_pos (by
          by_cases q : v.toNatClampNeg % 2 = 1
          · exact q
          · exact absurd (b1.mpr q) d), neg rP.1 rP.2, hP]
    unfold sX10_ride_61 at e
    rcases br_s e with ⟨d, e⟩ | ⟨d, e⟩
    · replace e := bp_e rfl e
      replace e := bp_e d e
      exact last (by rw [if_neg (b4.mp d)]) (by rw [if_neg (b4.mp d)]) e
    · replace e := bp_e rfl e
      replace e := bn_e d e
      have t : v.toNatClampNeg / 4 % 2 = 1 := by
        by_cases q : v.toNatClampNeg / 4 % 2 = 1
        · exact q
        · exact absurd (b4.mpr q) d
      exact last (by rw [if_pos t]) (by rw [if_pos t]) e
  · -- one
    have ft : fbt (L 75 j) 2 = true := by
      cases q : fbt (L 75 j) 2 with
      | true => rfl
      | false => exact absurd (e4.mpr q) c
    have v0 := fo ft
    rw [ft]
    unfold sX10_ride_35 sX10_ride_61 sX10_ride_87 sX10_ride_101 sX10_ride_119 at e
    rw [v0] at e ⊢
    replace e := bn_e (by decide) e
    replace e := bn_e (by decide) e
    replace e := bp_e (by decide) e
    replace e := bp_e (by decide) e
    replace e := bn_e (by decide) e
    rcases br_s e with ⟨d, e⟩ | ⟨d, e⟩
    · refine ⟨A, -B, rfl, ?_, fin (nx_e e)⟩
      unfold vYi
      rw [if_pos rfl, if_neg (by rw [d]; decide), neg c0 c1]
    · refine ⟨A, B, rfl, ?_, fin e⟩
      unfold vYi
      have : sd.toInt = 0 := by
        have s0 := isd.1
        have s1 := isd.2
        have : ¬ sd.toInt = 1 := fun z => d (Int32.toInt_inj.mp (by rw [z, z1]))
        omega
      rw [if_pos rfl, if_pos this]
end
end
section
/-! the class: all vectors of a STEP, all STEPS of a man -/
def htV (L : Nat → Nat → Int) (j : Nat) (sd : Int) (s e : Nat) (k : Int) (t : Nat) : Prop := 1 ≤ k ∧ k ≤ L 78 j ∧ onK (L 0 0) (L 1 0) s (vXi (L 76 j) (L 77 j) (fbt (L 75 j) 2) e) (vYi (L 76 j) (L 77 j) sd (fbt (L 75 j) 2) e) k ∧ (t : Int) = tgt (L 0 0) s (vXi (L 76 j) (L 77 j) (fbt (L 75 j) 2) e) (vYi (L 76 j) (L 77 j) sd (fbt (L 75 j) 2) e) k
def TmD (L : Nat → Nat → Int) (j : Nat) (sd : Int) (s d : Nat) (x : Int) (t : Nat) : Prop := (x = 0 ∧ ∀ (e : Nat) (k : Int), e < d → ¬ htV L j sd s e k t) ∨ ∃ e, e < d ∧ htV L j sd s e x t
def TmS (L : Nat → Nat → Int) (j : Nat) (sd : Int) (s t : Nat) (x : Int) : Prop := (x = 0 ∧ ∀ k, ¬ RchL L j sd s t k) ∨ RchL L j sd s t x
def RcS (L : Nat → Nat → Int) (V : Nat → Nat) (m : Nat) (sd : Int) (s n : Nat) (h : Hp) : Prop := ∀ t i : Nat, t < 64 → i < 8 → (i < n → TmS L (8 * m + i) sd s t (hI h (V 56) (t * 8 + i)).toInt) ∧ (n ≤ i → hI h (V 56) (t * 8 + i) = 0)
theorem rch_h {L : Nat → Nat → Int} {j : Nat} {sd : Int} {s t : Nat} {k : Int} : RchL L j sd s t k ↔ (L 79 j = 0 ∨ L 79 j = rkF L s sd) ∧ ∃ e, e < 8 ∧ htV L j sd s e k t := by
  constructor
  · rintro ⟨f, k1, k2, d, hd, a, b⟩
    exact ⟨f, d, hd, k1, k2, a, b⟩
  · rintro ⟨f, d, hd, k1, k2, a, b⟩
    exact ⟨f, k1, k2, d, hd, a, b⟩
theorem ht_fo {L : Nat → Nat → Int} {j : Nat} {sd : Int} {s e e' : Nat} {k : Int} {t : Nat} (fo : fbt (L 75 j) 2 = true) (h : htV L j sd s e k t) : htV L j sd s e' k t := by
  unfold htV at h ⊢
  unfold vXi vYi at h ⊢
  rw [if_pos fo, if_pos fo] at h ⊢
  exact h
section
variable {F : Nat} {V : Nat → Nat} {L : Nat → Nat → Int} {o : Int64 × Hp}
theorem rc_123 (D : VD V) {K : Hp → Nat → Int32 → Int32 → Int32 → Int64 → Int32 → Option (Int64 × Hp)} {x1 x2 x3 x6 x7 x10 : Int32} {j : Nat} {Q : Nat → Prop} (H : LOk L) (J : StR L j) (ew : x7.toInt = wrdI L j) (i2 : 0 ≤ x2.toInt) (sL : x2.toInt < L 0 0 * L 1 0) (i6 : 0 ≤ x6.toInt ∧ x6.toInt < 8) (i1 : 0 ≤ x1.toInt) (ix : x10.toInt = if fbt (L 75 j) 2 = true then 1 else 8) : ∀ (f : Nat) {h : Hp} {x4 : Int64} {x11 : Int32}, WLf V h → CLq V h L → 0 ≤ x11.toInt → x11.toInt ≤ x10.toInt → (∀ t, t < 64 → TmD L j (x1.toInt % 2) x2.toNatClampNeg x11.toNatClampNeg (hI h (V 56) (t * 8 + x6.toNatClampNeg)).toInt t) → (∀ t, t < 64 → (bitJ x4 t = true ↔ Q t ∨ ∃ (e : Nat) (k : Int), e < x11.toNatClampNeg ∧ htV L j (x1.toInt % 2) x2.toNatClampNeg e k t)) → sX10_reach_123 F K f h (V 11) x1 x2 x3 x4 x6 x7 x10 x11 = some o → ∃ (g : Hp) (y4 : Int64), FrV V (wl [(56, 999)]) h g ∧ (∀ x : Nat, (∀ t, t < 64 → ¬ x = t * 8 + x6.toNatClampNeg) → hI g (V 56) x = hI h (V 56) x) ∧ (∀ t, t < 64 → TmD L j (x1.toInt % 2) x2.toNatClampNeg x10.toNatClampNeg (hI g (V 56) (t * 8 + x6.toNatClampNeg)).toInt t) ∧ (∀ t, t < 64 → (bitJ y4 t = true ↔ Q t ∨ ∃ (e : Nat) (k : Int), e < x10.toNatClampNeg ∧ htV L j (x1.toInt % 2) x2.toNatClampNeg e k t)) ∧ sX10_reach_155 F K g (V 11) x1 x2 x3 y4 x6 = some o := by
  have z1 : (1 : Int32).toInt = 1 := rfl
  have z8 : (8 : Int32).toInt = 8 := rfl
  have sq := sq_64 H
  have fi := H.1
  have c2 := nc_i i2
  have c6 := nc_i i6.1
  have b10 : 0 ≤ x10.toInt ∧ x10.toInt ≤ 8 := by rw [ix]; split <;> omega
  have sdv : (x1 &&& (1 : Int32)).toInt = x1.toInt % 2 := and1_i i1
  intro f
  induction f with
  | zero => intro h x4 x11 _ _ _ _ _ _ e; exact absurd e (by rw [sX10_reach_123]; exact fun z => nomatch z)
  | succ f ih =>
    intro h x4 x11 W P a11 b11 tm' bits e
    have c11 := nc_i a11
    rw [sX10_reach_123] at e
    rcases br_s e with ⟨l, e⟩ | ⟨l, e⟩
    · have l := le_i l
      have ee : x10 = x11 := Int32.toInt_inj.mp (by omega)
      rw [ee]
      exact ⟨h, x4, fv_0, fun _ _ => rfl, tm', bits, e⟩
    have l := nle_i l
    replace e := cl_s e; obtain ⟨o2, eo2, e⟩ := e
    obtain ⟨X, Y, vx, vy, eo2⟩ := rd_val J ew ⟨a11, by omega⟩ ⟨by rw [sdv]; omega, by rw [sdv]; omega⟩ (fun fo => Int32.toInt_inj.mp (by
      rw [if_pos fo] at ix
      show x11.toInt = 0
      omega)) W eo2
    rw [sdv] at vy
    have vr := v_rg (a := L 76 j) (b := L 77 j) (sd := x1.toInt % 2) (fo := fbt (L 75 j) 2) (d := x11.toNatClampNeg) J.2.1 J.2.2.1
    have nz := v_nz (sd := x1.toInt % 2) (fo := fbt (L 75 j) 2) (d := x11.toNatClampNeg) J.2.2.2.1
    rw [← vx, ← vy] at vr nz
    have ff := P.2.2.2.2.2 x2.toNatClampNeg (by omega)
    have m0 : 0 ≤ (x2.toNatClampNeg : Int) % L 0 0 := Int.emod_nonneg _ (by omega)
    have m1 : (x2.toNatClampNeg : Int) % L 0 0 < L 0 0 := Int.emod_lt_of_pos _ (by omega)
    have d0 : 0 ≤ (x2.toNatClampNeg : Int) / L 0 0 := Int.ediv_nonneg (by omega) (by omega)
    have d1 : (x2.toNatClampNeg : Int) / L 0 0 ≤ 64 := Int.le_trans (Int.ediv_le_self _ (by omega)) (by omega)
    obtain ⟨r1, r2, r3, r4⟩ := rd_158 (s := x2.toNatClampNeg) D H J ew (by omega) i6 vr.1 vr.2 nz F W P (by decide) (by decide) (by rw [ta (by rw [ff.1]; omega), ff.1, z1, Int.one_mul]) (by rw [ta (by rw [ff.2]; omega), ff.2, z1, Int.one_mul]) eo2
    rw [z1] at r2 r3 r4
    have ht : ∀ (k : Int) (t : Nat), htV L j (x1.toInt % 2) x2.toNatClampNeg x11.toNatClampNeg k t ↔ 1 ≤ k ∧ k ≤ L 78 j ∧ onK (L 0 0) (L 1 0) x2.toNatClampNeg X.toInt Y.toInt k ∧ (t : Int) = tgt (L 0 0) x2.toNatClampNeg X.toInt Y.toInt k := fun k t => by
      unfold htV
      rw [vx, vy]
    replace e := nm_s e; obtain ⟨v3, u3, e⟩ := e
    replace e := nm_s e; obtain ⟨v4, u4, e⟩ := e
    have t4 : v4.toInt = x11.toInt + 1 := by rw [u4, ta (by rw [z1]; omega), z1]
    have c4 : v4.toNatClampNeg = x11.toNatClampNeg + 1 := by
      have := nc_i (x := v4) (by omega)
      omega
    obtain ⟨g, y4, q1, q2, q3, q4, q5⟩ := ih (wlf_f W r1) (clw_f D P r1 (by decide)) (x4 := v3) (by omega) (by omega) (fun t ht' => by
      rw [c4]
      by_cases c : ∃ k, htV L j (x1.toInt % 2) x2.toNatClampNeg x11.toNatClampNeg k t
      · obtain ⟨k, hk⟩ := c
        have hk' := hk
        obtain ⟨a, b, c, d⟩ := (ht k t).mp hk'
        have v := r2 k a b c
        rw [← d, show ((t : Int) * 8 + x6.toInt).toNat = t * 8 + x6.toNatClampNeg by omega] at v
        exact Or.inr ⟨x11.toNatClampNeg, by omega, by rw [v]; exact hk⟩
      · have v := r3 (t * 8 + x6.toNatClampNeg) (fun k a b d z => c ⟨k, (ht k t).mpr ⟨a, b, d, by omega⟩⟩)
        rw [v]
        rcases tm' t ht' with ⟨a, b⟩ | ⟨e', a, b⟩
        · refine Or.inl ⟨a, fun e' k he hh => ?_⟩
          by_cases y : e' = x11.toNatClampNeg
          · rw [y] at hh; exact c ⟨k, hh⟩
          · exact b e' k (by omega) hh
        · exact Or.inr ⟨e', by omega, b⟩) (fun t ht' => by
      rw [u3, bj_or, Bool.or_eq_true, bits t ht', r4 t ht', bj_zero, c4]
      constructor
      · rintro ((z | ⟨e', k, a, b⟩) | (z | ⟨k, a, b, d, g⟩))
        · exact Or.inl z
        · exact Or.inr ⟨e', k, by omega, b⟩
        · exact absurd z (by decide)
        · exact Or.inr ⟨x11.toNatClampNeg, k, by omega, (ht k t).mpr ⟨a, b, d, g⟩⟩
      · rintro (z | ⟨e', k, a, b⟩)
        · exact Or.inl (Or.inl z)
        · by_cases y : e' = x11.toNatClampNeg
          · rw [y] at b
            exact Or.inr (Or.inr ⟨k, (ht k t).mp b⟩)
          · exact Or.inl (Or.inr ⟨e', k, by omega, b⟩)) e
    refine ⟨g, y4, fv_t r1 q1, fun x hx => ?_, q3, q4, q5⟩
    rw [q2 x hx, r3 x (fun k a b c z => ?_)]
    obtain ⟨p0, p1, _⟩ := tgt_on (show 0 < L 0 0 by omega) c
    exact hx (tgt (L 0 0) x2.toNatClampNeg X.toInt Y.toInt k).toNat (by omega) (by omega)
/-- all STEPS of a man -/
theorem rc_10 (D : VD V) {x1 x2 x3 : Int32} {m : Nat} (H : LOk L) (i2 : 0 ≤ x2.toInt) (sL : x2.toInt < L 0 0 * L 1 0) (i1 : 0 ≤ x1.toInt) (mL : (m : Int) < L 2 0) (em : x3.toInt = m) : ∀ (f : Nat) {h : Hp} {x4 : Int64} {x6 : Int32}, WLf V h → CLq V h L → 0 ≤ x6.toInt → x6.toInt ≤ L 74 m → RcS L V m (x1.toInt % 2) x2.toNatClampNeg x6.toNatClampNeg h → (∀ t, t < 64 → (bitJ x4 t = true ↔ ∃ (i : Nat) (k : Int), i < x6.toNatClampNeg ∧ RchL L (8 * m + i) (x1.toInt % 2) x2.toNatClampNeg t k)) → sX10_reach_10 F f h (V 11) x1 x2 x3 x4 x6 = some o → FrV V (wl [(56, 999)]) h o.2 ∧ RcS L V m (x1.toInt % 2) x2.toNatClampNeg (L 74 m).toNat o.2 ∧ ∀ t, t < 64 → (bitJ o.1 t = true ↔ ∃ (i : Nat) (k : Int), (i : Int) < L 74 m ∧ RchL L (8 * m + i) (x1.toInt % 2) x2.toNatClampNeg t k) := by
  have z1 : (1 : Int32).toInt = 1 := rfl
  have z0 : (0 : Int32).toInt = 0 := rfl
  have z8 : (8 : Int32).toInt = 8 := rfl
  have sq := sq_64 H
  have fi := H.1
  have ra := H.2.1
  have L2 := H.2.2.1
  obtain ⟨H74, Hst⟩ := H.2.2.2 _ mL
  have c2 := nc_i i2
  have c3 : x3.toNatClampNeg = m := by
    have := nc_i (x := x3) (by omega)
    omega
  have sdv : (x1 &&& (1 : Int32)).toInt = x1.toInt % 2 := and1_i i1
  intro f
  induction f with
  | zero => intro h x4 x6 _ _ _ _ _ _ e; exact absurd e (by rw [sX10_reach_10]; exact fun z => nomatch z)
  | succ f ih =>
    intro h x4 x6 W P a6 b6 R bits e
    have c6 := nc_i a6
    rw [sX10_reach_10] at e
    have l74 := (P.2.2.2.2.1 m mL).1
    replace e := ce_e W.2.1 e
    replace e := ce_e W.2.2.2.1 e
    replace e := gg_e e
    rw [c3] at e
    rcases br_s e with ⟨l, e⟩ | ⟨l, e⟩
    · have l := le_i l
      rw [l74] at l
      have n6 : x6.toNatClampNeg = (L 74 m).toNat := by omega
      rw [so_e e]
      refine ⟨fv_0, by rw [← n6]; exact R, fun t ht => ?_⟩
      rw [bits t ht]
      constructor
      · rintro ⟨i, k, a, b⟩
        exact ⟨i, k, by omega, b⟩
      · rintro ⟨i, k, a, b⟩
        exact ⟨i, k, by omega, b⟩
    have l := nle_i l
    rw [l74] at l
    have m8 : (x3 * (8 : Int32)).toInt = x3.toInt * 8 := by rw [tm (by rw [z8]; omega), z8]
    have ix : ((x3 * (8 : Int32)) + x6).toNatClampNeg = 8 * m + x6.toNatClampNeg := by
      have a : ((x3 * (8 : Int32)) + x6).toInt = x3.toInt * 8 + x6.toInt := by rw [ta (by rw [m8]; omega), m8]
      have := nc_i (x := (x3 * (8 : Int32)) + x6) (by omega)
      omega
    have J : StR L (8 * m + x6.toNatClampNeg) := Hst _ (by omega)
    replace e := ce_e W.2.1 e
    replace e := ce_e W.2.2.1 e
    replace e := gg_e e
    replace e := nm_s e; obtain ⟨v8, u8, e⟩ := e
    rw [ix] at u8
    have ew : v8.toInt = wrdI L (8 * m + x6.toNatClampNeg) := by rw [u8]; exact (P.2.2.2.2.1 m mL).2 _ (by omega)
    obtain ⟨_, _, _, w79, _, w4⟩ := wrd_e J ew
    replace e := nm_s e; obtain ⟨v9, u9, e⟩ := e
    rw [← u9] at w79
    have t6 : (x6 + (1 : Int32)).toInt = x6.toInt + 1 := by rw [ta (by rw [z1]; omega), z1]
    have n6 : (x6 + (1 : Int32)).toNatClampNeg = x6.toNatClampNeg + 1 := by
      have := nc_i (x := x6 + (1 : Int32)) (by omega)
      omega
    -- on to the next STEP
    have nxt : ∀ {g : Hp} {y4 : Int64}, FrV V (wl [(56, 999)]) h g → (∀ x : Nat, (∀ t, t < 64 → ¬ x = t * 8 + x6.toNatClampNeg) → hI g (V 56) x = hI h (V 56) x) → (∀ t, t < 64 → TmS L (8 * m + x6.toNatClampNeg) (x1.toInt % 2) x2.toNatClampNeg t (hI g (V 56) (t * 8 + x6.toNatClampNeg)).toInt) → (∀ t, t < 64 → (bitJ y4 t = true ↔ bitJ x4 t = true ∨ ∃ k, RchL L (8 * m + x6.toNatClampNeg) (x1.toInt % 2) x2.toNatClampNeg t k)) → sX10_reach_155 F (sX10_reach_10 F f) g (V 11) x1 x2 x3 y4 x6 = some o → FrV V (wl [(56, 999)]) h o.2 ∧ RcS L V m (x1.toInt % 2) x2.toNatClampNeg (L 74 m).toNat o.2 ∧ ∀ t, t < 64 → (bitJ o.1 t = true ↔ ∃ (i : Nat) (k : Int), (i : Int) < L 74 m ∧ RchL L (8 * m + i) (x1.toInt % 2) x2.toNatClampNeg t k) := fun {g y4} G oth new bq u => by
      unfold sX10_reach_155 at u
      obtain ⟨r1, r2, r3⟩ := ih (wlf_f W G) (clw_f D P G (by decide)) (by omega) (by omega) (fun t i ht hi => by
        rw [n6]
        obtain ⟨p, q⟩ := R t i ht hi
        by_cases c : i = x6.toNatClampNeg
        · rw [c]
          exact ⟨fun _ => new t ht, fun z => absurd z (by omega)⟩
        · have same : hI g (V 56) (t * 8 + i) = hI h (V 56) (t * 8 + i) := oth _ (fun t' _ z => c (by omega))
          rw [same]
          exact ⟨fun z => p (by omega), fun z => q (by omega)⟩) (fun t ht => by
        rw [bq t ht, bits t ht, n6]
        constructor
        · rintro (⟨i, k, a, b⟩ | ⟨k, b⟩)
          · exact ⟨i, k, by omega, b⟩
          · exact ⟨x6.toNatClampNeg, k, by omega, b⟩
        · rintro ⟨i, k, a, b⟩
          by_cases c : i = x6.toNatClampNeg
          · rw [c] at b; exact Or.inr ⟨k, b⟩
          · exact Or.inl ⟨i, k, by omega, b⟩) (nx_e u)
      exact ⟨fv_t G r1, r2, r3⟩
    -- the STEP is not for this rank
    have skip : ¬ (L 79 (8 * m + x6.toNatClampNeg) = 0 ∨ L 79 (8 * m + x6.toNatClampNeg) = rkF L x2.toNatClampNeg (x1.toInt % 2)) → sX10_reach_155 F (sX10_reach_10 F f) h (V 11) x1 x2 x3 x4 x6 = some o → FrV V (wl [(56, 999)]) h o.2 ∧ RcS L V m (x1.toInt % 2) x2.toNatClampNeg (L 74 m).toNat o.2 ∧ ∀ t, t < 64 → (bitJ o.1 t = true ↔ ∃ (i : Nat) (k : Int), (i : Int) < L 74 m ∧ RchL L (8 * m + i) (x1.toInt % 2) x2.toNatClampNeg t k) := fun nf u => by
      refine nxt fv_0 (fun _ _ => rfl) (fun t ht => Or.inl ⟨?_, fun k z => nf z.1⟩) (fun t ht => ⟨fun z => Or.inl z, ?_⟩) u
      · rw [(R t x6.toNatClampNeg ht (by omega)).2 (Nat.le_refl _)]; rfl
      · rintro (z | ⟨k, z⟩)
        · exact z
        · exact absurd z.1 nf
    -- it is
    have go : (L 79 (8 * m + x6.toNatClampNeg) = 0 ∨ L 79 (8 * m + x6.toNatClampNeg) = rkF L x2.toNatClampNeg (x1.toInt % 2)) → sX10_reach_105 F (sX10_reach_10 F f) h (V 11) x1 x2 x3 x4 x6 v8 = some o → FrV V (wl [(56, 999)]) h o.2 ∧ RcS L V m (x1.toInt % 2) x2.toNatClampNeg (L 74 m).toNat o.2 ∧ ∀ t, t < 64 → (bitJ o.1 t = true ↔ ∃ (i : Nat) (k : Int), (i : Int) < L 74 m ∧ RchL L (8 * m + i) (x1.toInt % 2) x2.toNatClampNeg t k) := fun yf u => by
      unfold sX10_reach_105 sX10_reach_118 at u
      have all : ∀ {x10 : Int32}, (x10.toInt = if fbt (L 75 (8 * m + x6.toNatClampNeg)) 2 = true then 1 else 8) → sX10_reach_123 F (sX10_reach_10 F f) F h (V 11) x1 x2 x3 x4 x6 v8 x10 (0 : Int32) = some o → FrV V (wl [(56, 999)]) h o.2 ∧ RcS L V m (x1.toInt % 2) x2.toNatClampNeg (L 74 m).toNat o.2 ∧ ∀ t, t < 64 → (bitJ o.1 t = true ↔ ∃ (i : Nat) (k : Int), (i : Int) < L 74 m ∧ RchL L (8 * m + i) (x1.toInt % 2) x2.toNatClampNeg t k) := fun {x10} hx y => by
        have b10 : 0 ≤ x10.toInt ∧ x10.toInt ≤ 8 := by rw [hx]; split <;> omega
        have c10 := nc_i b10.1
        have n0 : (0 : Int32).toNatClampNeg = 0 := rfl
        obtain ⟨g, y4, q1, q2, q3, q4, q5⟩ := rc_123 (Q := fun t => bitJ x4 t = true) D H J ew i2 sL ⟨a6, by omega⟩ i1 hx F W P (by decide) (by rw [z0]; omega) (fun t ht => Or.inl ⟨by rw [(R t x6.toNatClampNeg ht (by omega)).2 (Nat.le_refl _)]; rfl, fun e' k he => by rw [n0] at he; omega⟩) (fun t ht => ⟨fun z => Or.inl z, fun z => by
          rcases z with z | ⟨e', k, he, _⟩
          · exact z
          · rw [n0] at he; omega⟩) y
        have all8 : ∀ (k : Int) (t : Nat), (∃ e', e' < 8 ∧ htV L (8 * m + x6.toNatClampNeg) (x1.toInt % 2) x2.toNatClampNeg e' k t) ↔ ∃ e', e' < x10.toNatClampNeg ∧ htV L (8 * m + x6.toNatClampNeg) (x1.toInt % 2) x2.toNatClampNeg e' k t := fun k t => by
          by_cases fo : fbt (L 75 (8 * m + x6.toNatClampNeg)) 2 = true
          · rw [if_pos fo] at hx
            constructor
            · rintro ⟨e', _, z⟩
              exact ⟨0, by omega, ht_fo fo z⟩
            · rintro ⟨e', he, z⟩
              exact ⟨e', by omega, z⟩
          · rw [if_neg fo] at hx
            rw [show x10.toNatClampNeg = 8 by omega]
        refine nxt q1 q2 (fun t ht => ?_) (fun t ht => ?_) q5
        · rcases q3 t ht with ⟨a, b⟩ | ⟨e', a, b⟩
          · refine Or.inl ⟨a, fun k z => ?_⟩
            obtain ⟨e', he, z⟩ := (all8 k t).mp (rch_h.mp z).2
            exact b e' k he z
          · exact Or.inr (rch_h.mpr ⟨yf, (all8 _ t).mpr ⟨e', a, b⟩⟩)
        · rw [q4 t ht]
          constructor
          · rintro (z | ⟨e', k, a, b⟩)
            · exact Or.inl z
            · exact Or.inr ⟨k, rch_h.mpr ⟨yf, (all8 k t).mpr ⟨e', a, b⟩⟩⟩
          · rintro (z | ⟨k, z⟩)
            · exact Or.inl z
            · obtain ⟨e', he, z⟩ := (all8 k t).mp (rch_h.mp z).2
              exact Or.inr ⟨e', k, he, z⟩
      rcases br_s u with ⟨c, u⟩ | ⟨c, u⟩
      · exact all (by rw [if_neg (by rw [w4.mp c]; decide)]; rfl) u
      · refine all ?_ u
        rw [if_pos]
        · rfl
        · cases q : fbt (L 75 (8 * m + x6.toNatClampNeg)) 2 with
          | true => rfl
          | false => exact absurd (w4.mpr q) c
    -- which rank it is
    have ff := (P.2.2.2.2.2 x2.toNatClampNeg (by omega)).2
    have d0 : 0 ≤ (x2.toNatClampNeg : Int) / L 0 0 := Int.ediv_nonneg (by omega) (by omega)
    have d1 : (x2.toNatClampNeg : Int) / L 0 0 ≤ 64 := Int.le_trans (Int.ediv_le_self _ (by omega)) (by omega)
    have k88 : ∀ {r : Int32}, r.toInt = rkF L x2.toNatClampNeg (x1.toInt % 2) → sX10_reach_88 F (sX10_reach_10 F f) h (V 11) x1 x2 x3 x4 x6 v8 v9 r = some o → FrV V (wl [(56, 999)]) h o.2 ∧ RcS L V m (x1.toInt % 2) x2.toNatClampNeg (L 74 m).toNat o.2 ∧ ∀ t, t < 64 → (bitJ o.1 t = true ↔ ∃ (i : Nat) (k : Int), (i : Int) < L 74 m ∧ RchL L (8 * m + i) (x1.toInt % 2) x2.toNatClampNeg t k) := fun {r} hr u => by
      unfold sX10_reach_88 at u
      rcases br_s u with ⟨c, u⟩ | ⟨c, u⟩
      · exact go (Or.inl (by rw [← w79, c]; rfl)) u
      rcases br_s u with ⟨d, u⟩ | ⟨d, u⟩
      · exact go (Or.inr (by rw [← w79, d, hr])) u
      · refine skip ?_ u
        rintro (z | z)
        · exact c (Int32.toInt_inj.mp (by rw [w79, z]; rfl))
        · exact d (Int32.toInt_inj.mp (by rw [w79, z, hr]))
    rcases br_s e with ⟨c, e⟩ | ⟨c, e⟩
    · replace e := ce_e W.2.1 e
      replace e := ce_e W.2.2.2.2.2 e
      replace e := gg_e e
      refine k88 ?_ e
      have s0 : x1.toInt % 2 = 0 := by rw [← sdv, c]; rfl
      unfold rkF
      rw [if_pos s0, ta (by rw [ff, z1]; omega), ff, z1]
    · replace e := ce_e W.2.1 e
      replace e := ce_e W.2.1 e
      replace e := ce_e W.2.2.2.2.2 e
      replace e := gg_e e
      refine k88 ?_ e
      have s0 : ¬ x1.toInt % 2 = 0 := fun z => c (Int32.toInt_inj.mp (by rw [sdv, z]; rfl))
      unfold rkF
      rw [if_neg s0, ts (by rw [ff, P.2.1]; omega), ff, P.2.1]
end
end
section
/-! the class: one way more -/
abbrev waL : List (Nat × Nat) := [(11, 8), (51, 999), (52, 999), (53, 999), (54, 999)]
/-- what addWay leaves: way n of code c from s to t -/
def AwP (V : Nat → Nat) (h o : Hp) (n c s t : Nat) (fl k st : Int) : Prop := FrV V (wl waL) h o ∧ (hI o (V 11) 8).toInt = (n : Int) + 1 ∧ (hI o (V 51) n).toInt = t + 64 * fl + 4096 * k ∧ (∀ w, ¬ w = n → hI o (V 51) w = hI h (V 51) w) ∧ (∀ w, ¬ w = n → hJ o (V 52) w = hJ h (V 52) w) ∧ (∀ q, q < 64 → (bitJ (hJ o (V 52) n) q = true ↔ ∃ j : Nat, 1 ≤ j ∧ (j : Int) < k ∧ (q : Int) = s + j * st)) ∧ (∀ x q, bitJ (hJ o (V 53) x) q = (bitJ (hJ h (V 53) x) q || (decide (x = c * 64 + t) && decide (s = q)))) ∧ ∀ x q, bitJ (hJ o (V 54) x) q = (bitJ (hJ h (V 54) x) q || (decide (x = c * 64 + t) && decide (s = q) && !fbt fl 0))
section
variable {F : Nat} {V : Nat → Nat} {h o : Hp}
theorem awy_33 (D : VD V) (wc : WCf V h) {x1 x2 x3 x4 x5 x8 : Int32} {n : Nat} (ec : hI h (V 11) 8 = nI n) (hn : n < 172032) (i1 : 0 ≤ x1.toInt ∧ x1.toInt ≤ 23) (i2 : 0 ≤ x2.toInt ∧ x2.toInt < 64) (i3 : 0 ≤ x3.toInt ∧ x3.toInt < 64) (i4 : Rg 0 63 x4) (i5 : 1 ≤ x5.toInt ∧ x5.toInt ≤ 7) (i8 : -64 ≤ x8.toInt ∧ x8.toInt ≤ 64) (on : ∀ j : Int, 1 ≤ j → j < x5.toInt → 0 ≤ x2.toInt + j * x8.toInt ∧ x2.toInt + j * x8.toInt < 64) : ∀ (f : Nat) {x6 : Int64} {x9 : Int32}, 1 ≤ x9.toInt → x9.toInt ≤ x5.toInt → (∀ q, q < 64 → (bitJ x6 q = true ↔ ∃ j : Nat, 1 ≤ j ∧ (j : Int) < x9.toInt ∧ (q : Int) = x2.toInt + j * x8.toInt)) → sX10_addWay_33 F f h (V 11) x1 x2 x3 x4 x5 x6 x8 x9 = some o → AwP V h o n x1.toNatClampNeg x2.toNatClampNeg x3.toNatClampNeg x4.toInt x5.toInt x8.toInt := by
  have z1 : (1 : Int32).toInt = 1 := rfl
  have z64 : (64 : Int32).toInt = 64 := rfl
  have c1 := nc_i i1.1
  have c2 := nc_i i2.1
  have c3 := nc_i i3.1
  have f0 := i4.1
  have f1 := i4.2
  have ii2 : Rg 0 63 x2 := ⟨i2.1, by omega⟩
  intro f
  induction f with
  | zero => intro x6 x9 _ _ _ e; exact absurd e (by rw [sX10_addWay_33]; exact fun z => nomatch z)
  | succ f ih =>
    intro x6 x9 a9 b9 bits e
    rw [sX10_addWay_33] at e
    rcases br_s e with ⟨l, e⟩ | ⟨l, e⟩
    rotate_left
    · have l := nle_i l
      replace e := nm_s e; obtain ⟨v18, u18, e⟩ := e
      replace e := nm_s e; obtain ⟨v19, u19, e⟩ := e
      have pm := mb (n := 64) (m := 8) (k := x9.toInt) (d := x8.toInt) ⟨by omega, by omega⟩ i8 (by decide)
      have m9 : (x9 * x8).toInt = x9.toInt * x8.toInt := tm (by omega)
      have t9 : (x2 + (x9 * x8)).toInt = x2.toInt + x9.toInt * x8.toInt := by rw [ta (by rw [m9]; omega), m9]
      have o9 := on x9.toInt a9 l
      have ir : Rg 0 63 (x2 + (x9 * x8)) := ⟨by rw [t9]; omega, by rw [t9]; omega⟩
      have cr := nc_i ir.1
      have t19 : v19.toInt = x9.toInt + 1 := by rw [u19, ta (by rw [z1]; omega), z1]
      refine ih (x6 := v18) (x9 := v19) (by omega) (by omega) (fun q hq => ?_) e
      rw [u18, bj_or, Bool.or_eq_true, bits q hq, bj_one ir, decide_eq_true_eq, t19]
      constructor
      · rintro (⟨j, a, b, c⟩ | z)
        · exact ⟨j, a, by omega, c⟩
        · refine ⟨x9.toInt.toNat, by omega, by omega, ?_⟩
          rw [show ((x9.toInt.toNat : Nat) : Int) = x9.toInt by omega]
          omega
      · rintro ⟨j, a, b, c⟩
        by_cases y : (j : Int) = x9.toInt
        · rw [y] at c
          exact Or.inr (by omega)
        · exact Or.inl ⟨j, a, by omega, c⟩
    · have l := le_i l
      have e9 : x9.toInt = x5.toInt := by omega
      rw [e9] at bits
      unfold sX10_addWay_144 at e
      -- the word
      have s4 : (x4 <<< ((6 : Int32) &&& 31)).toInt = x4.toInt * 64 := shl_i (m := 6) (by decide) f0 (by
        have : ((2 ^ 6 : Nat) : Int) = 64 := by decide
        rw [this]; omega)
      have s5 : (x5 <<< ((12 : Int32) &&& 31)).toInt = x5.toInt * 4096 := shl_i (m := 12) (by decide) (by omega) (by
        have : ((2 ^ 12 : Nat) : Int) = 4096 := by decide
        rw [this]; omega)
      have o1 : (x3 ||| (x4 <<< ((6 : Int32) &&& 31))).toInt = x3.toInt + x4.toInt * 64 := by
        rw [or_i (m := 6) (z := x4.toInt) i3.1 (by
          have : ((2 ^ 6 : Nat) : Int) = 64 := by decide
          rw [this]; exact i3.2) f0 s4 (by rw [s4]; omega), s4]
      have o2 : ((x3 ||| (x4 <<< ((6 : Int32) &&& 31))) ||| (x5 <<< ((12 : Int32) &&& 31))).toInt = x3.toInt + 64 * x4.toInt + 4096 * x5.toInt := by
        rw [or_i (m := 12) (z := x5.toInt) (by rw [o1]; omega) (by
          have : ((2 ^ 12 : Nat) : Int) = 4096 := by decide
          rw [this, o1]; omega) (by omega) s5 (by rw [o1, s5]; omega), o1, s5]
        omega
      have cn : (nI n).toNatClampNeg = n := z_clamp (by omega)
      have tn : (nI n).toInt = (n : Int) := z_toInt (by omega)
      replace e := ce_e wc.2.1 e
      replace e := gg_e e
      replace e := nm_s e; obtain ⟨h4, u4, e⟩ := e
      rw [ec, cn] at u4
      have k4 : hI h4 (V 11) 8 = nI n := by rw [u4, rI_a (vne D)]; exact ec
      replace e := ce_e (show hR h4 (V 11) 2 = some (V 52) by rw [u4]; exact wc.2.2.1) e
      replace e := gg_e e
      replace e := nm_s e; obtain ⟨h7, u7, e⟩ := e
      rw [k4, cn] at u7
      replace e := nm_s e; obtain ⟨h8, u8, e⟩ := e
      have k7 : hI h7 (V 11) 8 = nI n := by rw [u7]; exact k4
      rw [k7] at u8
      have R8 : ∀ a i, hR h8 a i = hR h a i := fun a i => by rw [u8, u7, u4]; rfl
      have J8 : ∀ a i, ¬ a = V 52 → hJ h8 a i = hJ h a i := fun a i na => by
        rw [u8]
        show hJ h7 a i = _
        rw [u7, r_J, if_neg (fun z => na z.1), u4]; rfl
      have m64 : (x1 * (64 : Int32)).toInt = x1.toInt * 64 := by rw [tm (by rw [z64]; omega), z64]
      have ix : ((x1 * (64 : Int32)) + x3).toNatClampNeg = x1.toNatClampNeg * 64 + x3.toNatClampNeg := by
        have a : ((x1 * (64 : Int32)) + x3).toInt = x1.toInt * 64 + x3.toInt := by rw [ta (by rw [m64]; omega), m64]
        have := nc_i (x := (x1 * (64 : Int32)) + x3) (by omega)
        omega
      replace e := ce_e ((R8 _ _).trans wc.2.2.2.1) e
      replace e := gg_e e
      replace e := gg_e e
      replace e := nm_s e; obtain ⟨h12, u12, e⟩ := e
      rw [ix, J8 _ _ (vne D)] at u12
      have A12 : FrV V (wl waL) h h12 := fv_t (g2 := h8) (fv_t (g2 := h7) (fv_t (g2 := h4) (by rw [u4]; exact fv_w (wl_9 (by decide))) (by rw [u7]; exact fv_j (wl_9 (by decide)))) (by rw [u8]; exact fv_w rfl)) (by rw [u12]; exact fv_j (wl_9 (by decide)))
      have J12 : ∀ a i, ¬ a = V 52 → ¬ a = V 53 → hJ h12 a i = hJ h a i := fun a i na nb => by rw [u12, r_J, if_neg (fun z => nb z.1), J8 a i na]
      have I12 : ∀ a i, hI h12 a i = hI h8 a i := fun a i => by rw [u12]; rfl
      have cnt : (hI h12 (V 11) 8).toInt = (n : Int) + 1 := by rw [I12, u8, rI_s, ta (by rw [tn, z1]; omega), tn, z1]
      have w51 : (hI h12 (V 51) n).toInt = (x3.toNatClampNeg : Int) + 64 * x4.toInt + 4096 * x5.toInt := by
        rw [I12, u8, rI_a (vne D), u7]
        show (hI h4 (V 51) n).toInt = _
        rw [u4, rI_s, o2]; omega
      have w51' : ∀ w, ¬ w = n → hI h12 (V 51) w = hI h (V 51) w := fun w nw => by
        rw [I12, u8, rI_a (vne D), u7]
        show hI h4 (V 51) w = _
        rw [u4, rI_o nw]
      have j52 : ∀ w, hJ h12 (V 52) w = if w = n then x6 else hJ h (V 52) w := fun w => by
        rw [u12, r_J, if_neg (fun z => (vne D : ¬ V 52 = V 53) z.1), u8]
        show hJ h7 (V 52) w = _
        rw [u7, r_J]
        by_cases c : w = n
        · rw [if_pos ⟨rfl, c⟩, if_pos c]
        · rw [if_neg (fun z => c z.2), if_neg c, u4]; rfl
      have j53 : ∀ x q, bitJ (hJ h12 (V 53) x) q = (bitJ (hJ h (V 53) x) q || (decide (x = x1.toNatClampNeg * 64 + x3.toNatClampNeg) && decide (x2.toNatClampNeg = q))) := fun x q => by
        rw [u12, r_J]
        by_cases c : x = x1.toNatClampNeg * 64 + x3.toNatClampNeg
        · rw [if_pos ⟨rfl, c⟩, bj_or, bj_one ii2, c, decide_eq_true rfl, Bool.true_and]
        · rw [if_neg (fun z => c z.2), J8 _ _ (vne D), decide_eq_false c, Bool.false_and, Bool.or_false]
      have b52 : ∀ {g : Hp}, (∀ w, hJ g (V 52) w = hJ h12 (V 52) w) → ∀ q, q < 64 → (bitJ (hJ g (V 52) n) q = true ↔ ∃ j : Nat, 1 ≤ j ∧ (j : Int) < x5.toInt ∧ (q : Int) = (x2.toNatClampNeg : Int) + j * x8.toInt) := fun {g} hg q hq => by
        rw [hg, j52, if_pos rfl, bits q hq, c2]
      have fb := (fb_e i4).1
      rcases br_s e with ⟨c, e⟩ | ⟨c, e⟩
      · replace e := ce_e (show hR h12 (V 11) 4 = some (V 54) by rw [u12]; exact (R8 _ _).trans wc.2.2.2.2.1) e
        replace e := gg_e e
        replace e := gg_e e
        replace e := nm_s e; obtain ⟨h17, u17, e⟩ := e
        rw [ix, J12 _ _ (vne D) (vne D)] at u17
        rw [so_e e]
        have J17 : ∀ a i, ¬ a = V 54 → hJ h17 a i = hJ h12 a i := fun a i na => by rw [u17, r_J, if_neg (fun z => na z.1)]
        have I17 : ∀ a i, hI h17 a i = hI h12 a i := fun a i => by rw [u17]; rfl
        refine ⟨fv_t A12 (by rw [u17]; exact fv_j (wl_9 (by decide))), by rw [I17]; exact cnt, by rw [I17]; exact w51, fun w nw => by rw [I17]; exact w51' w nw, fun w nw => by rw [J17 _ _ (vne D), j52, if_neg nw], b52 (fun w => J17 _ _ (vne D)), fun x q => by rw [J17 _ _ (vne D)]; exact j53 x q, fun x q => ?_⟩
        rw [fb.mp c, u17, r_J]
        by_cases c' : x = x1.toNatClampNeg * 64 + x3.toNatClampNeg
        · rw [if_pos ⟨rfl, c'⟩, bj_or, bj_one ii2, c', decide_eq_true rfl]
          simp
        · rw [if_neg (fun z => c' z.2), J12 _ _ (vne D) (vne D), decide_eq_false c']
          simp
      · rw [so_e e]
        have ft : fbt x4.toInt 0 = true := by
          cases y : fbt x4.toInt 0 with
          | true => rfl
          | false => exact absurd (fb.mpr y) c
        refine ⟨A12, cnt, w51, w51', fun w nw => by rw [j52, if_neg nw], b52 (fun w => rfl), j53, fun x q => ?_⟩
        rw [J12 _ _ (vne D) (vne D), ft]
        simp
theorem aw_q (D : VD V) (wc : WCf V h) {x1 x2 x3 x4 x5 : Int32} {n : Nat} {st : Int} (ec : hI h (V 11) 8 = nI n) (hn : n < 172032) (i1 : 0 ≤ x1.toInt ∧ x1.toInt ≤ 23) (i2 : 0 ≤ x2.toInt ∧ x2.toInt < 64) (i3 : 0 ≤ x3.toInt ∧ x3.toInt < 64) (i4 : Rg 0 63 x4) (i5 : 1 ≤ x5.toInt ∧ x5.toInt ≤ 7) (es : x3.toInt - x2.toInt = x5.toInt * st) (on : ∀ j : Int, 1 ≤ j → j < x5.toInt → 0 ≤ x2.toInt + j * st ∧ x2.toInt + j * st < 64) (e : sX10_addWay F h (V 11) x1 x2 x3 x4 x5 = some o) : AwP V h o n x1.toNatClampNeg x2.toNatClampNeg x3.toNatClampNeg x4.toInt x5.toInt st := by
  have z0 : (0 : Int32).toInt = 0 := rfl
  have z1 : (1 : Int32).toInt = 1 := rfl
  have zc : (172032 : Int32).toInt = 172032 := rfl
  have tn : (nI n).toInt = (n : Int) := z_toInt (by omega)
  unfold sX10_addWay sX10_addWay_28 at e
  replace e := bp_e (by rw [ec]; exact ii_lt.mpr (by rw [tn, zc]; omega)) e
  replace e := bn_e (fun z => by have := le_i z; rw [z0] at this; omega) e
  replace e := gg_e e
  have td' : ((x3 - x2) / x5).toInt = st := by
    have t : (x3 - x2).toInt = x5.toInt * st := by rw [ts (by omega), es]
    rw [Int32.toInt_div_of_ne_right _ _ (fun z => by
      have : x5.toInt = -1 := by rw [z]; decide
      omega), t, Int.mul_tdiv_cancel_left _ (by omega)]
  have sb : -64 ≤ st ∧ st ≤ 64 := by
    have h1 : -64 < x5.toInt * st ∧ x5.toInt * st < 64 := by omega
    by_cases c : 0 ≤ st
    · have := Int.mul_le_mul_of_nonneg_right i5.1 c
      omega
    · have := Int.mul_le_mul_of_nonpos_right i5.1 (show st ≤ 0 by omega)
      omega
  have r := awy_33 D wc (x8 := (x3 - x2) / x5) ec hn i1 i2 i3 i4 i5 (by rw [td']; exact sb) (fun j a b => by rw [td']; exact on j a b) F (x6 := 0) (x9 := 1) (by decide) (by rw [z1]; exact i5.1) (fun q hq => ⟨fun z => by rw [bj_zero] at z; exact absurd z (by decide), fun ⟨j, a, b, _⟩ => by rw [z1] at b; omega⟩) e
  rw [td'] at r
  exact r
end
end
section
/-! the class: all ways laid out -/
def cntN (V : Nat → Nat) (h : Hp) : Nat := (hI h (V 11) 8).toNatClampNeg
def fstA (V : Nat → Nat) (h : Hp) (N a y : Nat) : Nat := if y < N then rowN h (V 50) y else a
/-- cells below N are right; the last of them ends at a -/
def LayA (L : Nat → Nat → Int) (V : Nat → Nat) (h : Hp) (N a : Nat) : Prop := ∀ x, x < N → 0 ≤ (hI h (V 50) x).toInt ∧ rowN h (V 50) x ≤ fstA V h N a (x + 1) ∧ fstA V h N a (x + 1) ≤ a ∧ (((x / 64 % 64 : Nat) : Int) < L 0 0 * L 1 0 → CellW L V h (x / 4096) (x / 64 % 64) (x % 64) (rowN h (V 50) x) (fstA V h N a (x + 1)))
/-- squares from which ways lead, by cells below N, and at N by STEPS below I -/
def LayB (L : Nat → Nat → Int) (V : Nat → Nat) (h : Hp) (N I : Nat) : Prop := ∀ c s t : Nat, (c : Int) < 2 * L 2 0 → s < 64 → t < 64 → (bitJ (hJ h (V 53) (c * 64 + t)) s = true ↔ (s : Int) < L 0 0 * L 1 0 ∧ ∃ (i : Nat) (k : Int), (celN c s t < N ∨ (celN c s t = N ∧ i < I)) ∧ (i : Int) < L 74 (c / 2) ∧ RchL L (8 * (c / 2) + i) ((c % 2 : Nat) : Int) s t k) ∧ (bitJ (hJ h (V 54) (c * 64 + t)) s = true ↔ (s : Int) < L 0 0 * L 1 0 ∧ ∃ (i : Nat) (k : Int), (celN c s t < N ∨ (celN c s t = N ∧ i < I)) ∧ (i : Int) < L 74 (c / 2) ∧ fbt (L 75 (8 * (c / 2) + i)) 0 = false ∧ RchL L (8 * (c / 2) + i) ((c % 2 : Nat) : Int) s t k)
/-- one cell, by STEPS below I -/
def CellP (L : Nat → Nat → Int) (V : Nat → Nat) (h : Hp) (c s t a b n : Nat) : Prop := a ≤ b ∧ ∃ I : Nat → Nat, (∀ w, a ≤ w → w < b → I w < n ∧ ((I w : Nat) : Int) < L 74 (c / 2) ∧ WyE L V h c s t (I w) w) ∧ (∀ w w', a ≤ w → w < w' → w' < b → I w < I w') ∧ ∀ (i : Nat) (k : Int), i < n → (i : Int) < L 74 (c / 2) → RchL L (8 * (c / 2) + i) ((c % 2 : Nat) : Int) s t k → ∃ w, a ≤ w ∧ w < b ∧ I w = i
/-- times: those below (T, I) are gone again -/
def Tst (L : Nat → Nat → Int) (V : Nat → Nat) (m : Nat) (sd : Int) (s T I : Nat) (h : Hp) : Prop := ∀ t i : Nat, t < 64 → i < 8 → ((t < T ∨ (t = T ∧ i < I)) → hI h (V 56) (t * 8 + i) = 0) ∧ (¬ (t < T ∨ (t = T ∧ i < I)) → ((i : Int) < L 74 m → TmS L (8 * m + i) sd s t (hI h (V 56) (t * 8 + i)).toInt) ∧ (L 74 m ≤ (i : Int) → hI h (V 56) (t * 8 + i) = 0))
def Tz (V : Nat → Nat) (h : Hp) : Prop := ∀ x, x < 512 → hI h (V 56) x = 0
section
variable {F : Nat} {V : Nat → Nat} {L : Nat → Nat → Int}
theorem wye_k {h h' : Hp} {c s t i w : Nat} (E : WyE L V h c s t i w) (a : hI h' (V 51) w = hI h (V 51) w) (b : hJ h' (V 52) w = hJ h (V 52) w) : WyE L V h' c s t i w := by
  unfold WyE
  rw [a, b]
  exact E
theorem cw_k {h h' : Hp} {c s t a b : Nat} (E : CellW L V h c s t a b) (ka : ∀ w, w < b → hI h' (V 51) w = hI h (V 51) w) (kb : ∀ w, w < b → hJ h' (V 52) w = hJ h (V 52) w) : CellW L V h' c s t a b := by
  obtain ⟨l, I, I1, I2, I3⟩ := E
  exact ⟨l, I, fun w x y => ⟨(I1 w x y).1, wye_k (I1 w x y).2 (ka w y) (kb w y)⟩, I2, I3⟩
theorem cp_k {h h' : Hp} {c s t a b n : Nat} (E : CellP L V h c s t a b n) (ka : ∀ w, w < b → hI h' (V 51) w = hI h (V 51) w) (kb : ∀ w, w < b → hJ h' (V 52) w = hJ h (V 52) w) : CellP L V h' c s t a b n := by
  obtain ⟨l, I, I1, I2, I3⟩ := E
  exact ⟨l, I, fun w x y => ⟨(I1 w x y).1, (I1 w x y).2.1, wye_k (I1 w x y).2.2 (ka w y) (kb w y)⟩, I2, I3⟩
theorem cp_0 {h : Hp} {c s t a : Nat} : CellP L V h c s t a a 0 := ⟨Nat.le_refl _, fun _ => 0, fun w x y => by omega, fun w w' x y z => by omega, fun i k x => absurd x (Nat.not_lt_zero i)⟩
theorem cp_w {h : Hp} {c s t a b n : Nat} (E : CellP L V h c s t a b n) (hn : L 74 (c / 2) ≤ (n : Int)) : CellW L V h c s t a b := by
  obtain ⟨l, I, I1, I2, I3⟩ := E
  exact ⟨l, I, fun w x y => ⟨(I1 w x y).2.1, (I1 w x y).2.2⟩, I2, fun i k x y => I3 i k (by omega) x y⟩
/-- no way by STEP n -/
theorem cp_n {h : Hp} {c s t a b n : Nat} (E : CellP L V h c s t a b n) (no : (n : Int) < L 74 (c / 2) → ∀ k, ¬ RchL L (8 * (c / 2) + n) ((c % 2 : Nat) : Int) s t k) : CellP L V h c s t a b (n + 1) := by
  obtain ⟨l, I, I1, I2, I3⟩ := E
  refine ⟨l, I, fun w x y => ⟨by have := (I1 w x y).1; omega, (I1 w x y).2⟩, I2, fun i k x y z => ?_⟩
  by_cases c' : i = n
  · rw [c'] at y z
    exact absurd z (no y k)
  · exact I3 i k (by omega) y z
/-- one way by STEP n -/
theorem cp_s {h h' : Hp} {c s t a b n : Nat} (E : CellP L V h c s t a b n) (ka : ∀ w, w < b → hI h' (V 51) w = hI h (V 51) w) (kb : ∀ w, w < b → hJ h' (V 52) w = hJ h (V 52) w) (nL : (n : Int) < L 74 (c / 2)) (W : WyE L V h' c s t n b) : CellP L V h' c s t a (b + 1) (n + 1) := by
  obtain ⟨l, I, I1, I2, I3⟩ := E
  refine ⟨by omega, fun w => if w = b then n else I w, fun w x y => ?_, fun w w' x y z => ?_, fun i k x y z => ?_⟩
  · dsimp only
    by_cases c' : w = b
    · rw [if_pos c', c']
      exact ⟨by omega, nL, W⟩
    · rw [if_neg c']
      have q := I1 w x (by omega)
      exact ⟨by omega, q.2.1, wye_k q.2.2 (ka w (by omega)) (kb w (by omega))⟩
  · have cw : ¬ w = b := by omega
    show (if w = b then n else I w) < (if w' = b then n else I w')
    rw [if_neg cw]
    by_cases c' : w' = b
    · rw [if_pos c']
      exact (I1 w x (by omega)).1
    · rw [if_neg c']
      exact I2 w w' x y (by omega)
  · by_cases c' : i = n
    · exact ⟨b, l, by omega, by show (if b = b then n else I b) = i; rw [if_pos rfl, c']⟩
    · obtain ⟨w, p, q, r⟩ := I3 i k (by omega) y z
      exact ⟨w, p, by omega, by show (if w = b then n else I w) = i; rw [if_neg (show ¬ w = b by omega)]; exact r⟩
theorem la_k {h h' : Hp} {N a : Nat} (E : LayA L V h N a) (k50 : ∀ x, x < N → hI h' (V 50) x = hI h (V 50) x) (ka : ∀ w, w < a → hI h' (V 51) w = hI h (V 51) w) (kb : ∀ w, w < a → hJ h' (V 52) w = hJ h (V 52) w) : LayA L V h' N a := fun x hx => by
  obtain ⟨p, q, r, w⟩ := E x hx
  have e1 : rowN h' (V 50) x = rowN h (V 50) x := by unfold rowN; rw [k50 x hx]
  have e2 : fstA V h' N a (x + 1) = fstA V h N a (x + 1) := by
    unfold fstA
    by_cases c : x + 1 < N
    · rw [if_pos c, if_pos c]; unfold rowN; rw [k50 _ c]
    · rw [if_neg c, if_neg c]
  rw [k50 x hx, e1, e2]
  exact ⟨p, q, r, fun z => cw_k (w z) (fun w' y => ka w' (by omega)) (fun w' y => kb w' (by omega))⟩
theorem lb_k {h h' : Hp} {N I : Nat} (E : LayB L V h N I) (k53 : ∀ x, hJ h' (V 53) x = hJ h (V 53) x) (k54 : ∀ x, hJ h' (V 54) x = hJ h (V 54) x) : LayB L V h' N I := fun c s t hc hs ht => by
  rw [k53, k54]
  exact E c s t hc hs ht
/-- the cell is whole -/
theorem la_s {h : Hp} {N a b : Nat} (E : LayA L V h N a) (eN : rowN h (V 50) N = a) (e0 : 0 ≤ (hI h (V 50) N).toInt) (ab : a ≤ b) (W : ((N / 64 % 64 : Nat) : Int) < L 0 0 * L 1 0 → CellW L V h (N / 4096) (N / 64 % 64) (N % 64) a b) : LayA L V h (N + 1) b := fun x hx => by
  by_cases c : x = N
  · rw [c]
    unfold fstA
    rw [if_neg (Nat.lt_irrefl _), eN]
    exact ⟨e0, ab, Nat.le_refl _, W⟩
  · obtain ⟨p, q, r, w⟩ := E x (by omega)
    have e2 : fstA V h (N + 1) b (x + 1) = fstA V h N a (x + 1) := by
      unfold fstA
      rw [if_pos (show x + 1 < N + 1 by omega)]
      by_cases d : x + 1 < N
      · rw [if_pos d]
      · rw [if_neg d, show x + 1 = N by omega, eN]
    rw [e2]
    exact ⟨p, q, by omega, w⟩
theorem lb_s {h : Hp} {N n : Nat} (E : LayB L V h N n) (hn : ∀ c s t : Nat, (c : Int) < 2 * L 2 0 → s < 64 → t < 64 → celN c s t = N → (s : Int) < L 0 0 * L 1 0 → L 74 (c / 2) ≤ (n : Int)) : LayB L V h (N + 1) 0 := fun c s t hc hs ht => by
  obtain ⟨p, q⟩ := E c s t hc hs ht
  constructor
  · rw [p]
    constructor
    · rintro ⟨a, i, k, b, d, g⟩
      exact ⟨a, i, k, Or.inl (by omega), d, g⟩
    · rintro ⟨a, i, k, b, d, g⟩
      refine ⟨a, i, k, ?_, d, g⟩
      by_cases y : celN c s t = N
      · have := hn c s t hc hs ht y a
        exact Or.inr ⟨y, by omega⟩
      · exact Or.inl (by omega)
  · rw [q]
    constructor
    · rintro ⟨a, i, k, b, d, g⟩
      exact ⟨a, i, k, Or.inl (by omega), d, g⟩
    · rintro ⟨a, i, k, b, d, g⟩
      refine ⟨a, i, k, ?_, d, g⟩
      by_cases y : celN c s t = N
      · have := hn c s t hc hs ht y a
        exact Or.inr ⟨y, by omega⟩
      · exact Or.inl (by omega)
/-- STEP n adds nothing -/
theorem lb_n {h : Hp} {c0 s0 t0 n : Nat} (h0 : s0 < 64) (ht0 : t0 < 64) (E : LayB L V h (celN c0 s0 t0) n) (no : (n : Int) < L 74 (c0 / 2) → ∀ k, ¬ RchL L (8 * (c0 / 2) + n) ((c0 % 2 : Nat) : Int) s0 t0 k) : LayB L V h (celN c0 s0 t0) (n + 1) := fun c s t hc hs ht => by
  have inj : celN c s t = celN c0 s0 t0 → c = c0 ∧ s = s0 ∧ t = t0 := fun z => by unfold celN at z; omega
  obtain ⟨p, q⟩ := E c s t hc hs ht
  constructor
  · rw [p]
    constructor
    · rintro ⟨a, i, k, b, d, g⟩
      exact ⟨a, i, k, by omega, d, g⟩
    · rintro ⟨a, i, k, b, d, g⟩
      refine ⟨a, i, k, ?_, d, g⟩
      by_cases y : celN c s t = celN c0 s0 t0 ∧ i = n
      · obtain ⟨e1, e2, e3⟩ := inj y.1
        rw [e1, e2, e3, y.2] at g
        rw [e1, y.2] at d
        exact absurd g (no d k)
      · omega
  · rw [q]
    constructor
    · rintro ⟨a, i, k, b, d, g⟩
      exact ⟨a, i, k, by omega, d, g⟩
    · rintro ⟨a, i, k, b, d, g⟩
      refine ⟨a, i, k, ?_, d, g⟩
      by_cases y : celN c s t = celN c0 s0 t0 ∧ i = n
      · obtain ⟨e1, e2, e3⟩ := inj y.1
        rw [e1, e2, e3, y.2] at g
        rw [e1, y.2] at d
        exact absurd g.2 (no d k)
      · omega
/-- STEP n adds s0 -/
theorem lb_w {h h' : Hp} {c0 s0 t0 n : Nat} {fl k0 : Int} (h0 : s0 < 64) (ht0 : t0 < 64) (sL : (s0 : Int) < L 0 0 * L 1 0) (E : LayB L V h (celN c0 s0 t0) n) (nL : (n : Int) < L 74 (c0 / 2)) (fe : fl = L 75 (8 * (c0 / 2) + n)) (r : RchL L (8 * (c0 / 2) + n) ((c0 % 2 : Nat) : Int) s0 t0 k0) (k53 : ∀ x q, bitJ (hJ h' (V 53) x) q = (bitJ (hJ h (V 53) x) q || (decide (x = c0 * 64 + t0) && decide (s0 = q)))) (k54 : ∀ x q, bitJ (hJ h' (V 54) x) q = (bitJ (hJ h (V 54) x) q || (decide (x = c0 * 64 + t0) && decide (s0 = q) && !fbt fl 0))) : LayB L V h' (celN c0 s0 t0) (n + 1) := fun c s t hc hs ht => by
  have inj : celN c s t = celN c0 s0 t0 → c = c0 ∧ s = s0 ∧ t = t0 := fun z => by unfold celN at z; omega
  obtain ⟨p, q⟩ := E c s t hc hs ht
  constructor
  · rw [k53, Bool.or_eq_true, p, Bool.and_eq_true, decide_eq_true_eq, decide_eq_true_eq]
    constructor
    · rintro (⟨a, i, k, b, d, g⟩ | ⟨a, b⟩)
      · exact ⟨a, i, k, by omega, d, g⟩
      · have e1 : c = c0 := by omega
        have e2 : t = t0 := by omega
        rw [e1, e2, ← b]
        exact ⟨sL, n, k0, Or.inr ⟨rfl, by omega⟩, nL, r⟩
    · rintro ⟨a, i, k, b, d, g⟩
      by_cases y : celN c s t = celN c0 s0 t0 ∧ i = n
      · obtain ⟨e1, e2, e3⟩ := inj y.1
        exact Or.inr ⟨by rw [e1, e3], e2.symm⟩
      · exact Or.inl ⟨a, i, k, by omega, d, g⟩
  · rw [k54, Bool.or_eq_true, q, Bool.and_eq_true, Bool.and_eq_true, decide_eq_true_eq, decide_eq_true_eq]
    constructor
    · rintro (⟨a, i, k, b, d, g⟩ | ⟨⟨a, b⟩, f⟩)
      · exact ⟨a, i, k, by omega, d, g⟩
      · have e1 : c = c0 := by omega
        have e2 : t = t0 := by omega
        rw [e1, e2, ← b]
        refine ⟨sL, n, k0, Or.inr ⟨rfl, by omega⟩, nL, ?_, r⟩
        rw [← fe]
        cases y : fbt fl 0 with
        | false => rfl
        | true => rw [y] at f; exact absurd f (by decide)
    · rintro ⟨a, i, k, b, d, f, g⟩
      by_cases y : celN c s t = celN c0 s0 t0 ∧ i = n
      · obtain ⟨e1, e2, e3⟩ := inj y.1
        refine Or.inr ⟨⟨by rw [e1, e3], e2.symm⟩, ?_⟩
        rw [e1, y.2, ← fe] at f
        rw [f]; rfl
      · exact Or.inl ⟨a, i, k, by omega, d, f, g⟩
end
end
