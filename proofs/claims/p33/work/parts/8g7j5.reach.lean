/-! the class: a STEP's vectors over the board -/
/-- the class's RULES are these numbers -/
def wrdI (L : Nat → Nat → Int) (j : Nat) : Int := L 75 j + 64 * (L 76 j + 8) + 1024 * (L 77 j + 8) + 16384 * L 78 j + 131072 * L 79 j
def CLq (V : Nat → Nat) (h : Hp) (L : Nat → Nat → Int) : Prop := (hI h (V 2) 0).toInt = L 0 0 ∧ (hI h (V 2) 1).toInt = L 1 0 ∧ (hI h (V 2) 2).toInt = L 0 0 * L 1 0 ∧ (hI h (V 2) 3).toInt = L 2 0 ∧ (∀ m : Nat, (m : Int) < L 2 0 → (hI h (V 29) m).toInt = L 74 m ∧ ∀ i : Nat, (i : Int) < L 74 m → (hI h (V 28) (8 * m + i)).toInt = wrdI L (8 * m + i)) ∧ ∀ s : Nat, (s : Int) < L 0 0 * L 1 0 → (hI h (V 32) s).toInt = s % L 0 0 ∧ (hI h (V 33) s).toInt = s / L 0 0
def WLf (V : Nat → Nat) (h : Hp) : Prop := hR h (V 11) 6 = some (V 56) ∧ hR h (V 11) 7 = some (V 2) ∧ hR h (V 2) 15 = some (V 28) ∧ hR h (V 2) 16 = some (V 29) ∧ hR h (V 2) 19 = some (V 32) ∧ hR h (V 2) 20 = some (V 33)
section
variable {F : Nat} {V : Nat → Nat} {h o' : Hp} {L : Nat → Nat → Int} {Ls : List (Nat × Nat)}
theorem clw_f (D : VD V) (P : CLq V h L) (A : FrV V (wl Ls) h o') (n : ∀ p, p ∈ Ls → p.1 ∈ vql ∧ ¬ p.1 = 2 ∧ ¬ p.1 = 28 ∧ ¬ p.1 = 29 ∧ ¬ p.1 = 32 ∧ ¬ p.1 = 33) : CLq V o' L := by
  have hL : ∀ p, p ∈ Ls → p.1 ∈ vql := fun p hp => (n p hp).1
  have k2 : ∀ i, hI o' (V 2) i = hI h (V 2) i := fun i => fvI D A 2 i (fun p hp => (n p hp).2.1) (by decide) hL
  have k28 : ∀ i, hI o' (V 28) i = hI h (V 28) i := fun i => fvI D A 28 i (fun p hp => (n p hp).2.2.1) (by decide) hL
  have k29 : ∀ i, hI o' (V 29) i = hI h (V 29) i := fun i => fvI D A 29 i (fun p hp => (n p hp).2.2.2.1) (by decide) hL
  have k32 : ∀ i, hI o' (V 32) i = hI h (V 32) i := fun i => fvI D A 32 i (fun p hp => (n p hp).2.2.2.2.1) (by decide) hL
  have k33 : ∀ i, hI o' (V 33) i = hI h (V 33) i := fun i => fvI D A 33 i (fun p hp => (n p hp).2.2.2.2.2) (by decide) hL
  obtain ⟨a, b, c, d, e, f⟩ := P
  exact ⟨by rw [k2]; exact a, by rw [k2]; exact b, by rw [k2]; exact c, by rw [k2]; exact d, fun m hm => ⟨by rw [k29]; exact (e m hm).1, fun i hi => by rw [k28]; exact (e m hm).2 i hi⟩, fun s hs => ⟨by rw [k32]; exact (f s hs).1, by rw [k33]; exact (f s hs).2⟩⟩
theorem wlf_f {W : Nat → Nat → Bool} (P : WLf V h) (A : FrV V W h o') : WLf V o' := by
  obtain ⟨a, b, c, d, e, f⟩ := P
  exact ⟨by rw [A.1]; exact a, by rw [A.1]; exact b, by rw [A.1]; exact c, by rw [A.1]; exact d, by rw [A.1]; exact e, by rw [A.1]; exact f⟩
/-- fields of a STEP's word -/
theorem wrd_e {w : Int32} {j : Nat} (J : StR L j) (e : w.toInt = wrdI L j) : (((w >>> ((6 : Int32) &&& 31)) &&& (15 : Int32)) - (8 : Int32)).toInt = L 76 j ∧ (((w >>> ((10 : Int32) &&& 31)) &&& (15 : Int32)) - (8 : Int32)).toInt = L 77 j ∧ ((w >>> ((14 : Int32) &&& 31)) &&& (7 : Int32)).toInt = L 78 j ∧ ((w >>> ((17 : Int32) &&& 31)) &&& (15 : Int32)).toInt = L 79 j ∧ (w &&& (63 : Int32)).toInt = L 75 j ∧ (w &&& (4 : Int32) = 0 ↔ fbt (L 75 j) 2 = false) := by
  have z8 : (8 : Int32).toInt = 8 := rfl
  obtain ⟨⟨f0, f1⟩, ⟨a0, a1⟩, ⟨b0, b1⟩, _, ⟨r0, r1⟩, ⟨s0, s1⟩⟩ := J
  unfold wrdI at e
  have s6 : (w >>> ((6 : Int32) &&& 31)).toInt = w.toInt / 64 := shr_i 6 (by decide)
  have s10 : (w >>> ((10 : Int32) &&& 31)).toInt = w.toInt / 1024 := shr_i 10 (by decide)
  have s14 : (w >>> ((14 : Int32) &&& 31)).toInt = w.toInt / 16384 := shr_i 14 (by decide)
  have s17 : (w >>> ((17 : Int32) &&& 31)).toInt = w.toInt / 131072 := shr_i 17 (by decide)
  have m6 : ((w >>> ((6 : Int32) &&& 31)) &&& (15 : Int32)).toInt = w.toInt / 64 % 16 := by rw [and_i (m := 4) (by rw [s6]; omega) (by decide) rfl, s6]; rfl
  have m10 : ((w >>> ((10 : Int32) &&& 31)) &&& (15 : Int32)).toInt = w.toInt / 1024 % 16 := by rw [and_i (m := 4) (by rw [s10]; omega) (by decide) rfl, s10]; rfl
  have m14 : ((w >>> ((14 : Int32) &&& 31)) &&& (7 : Int32)).toInt = w.toInt / 16384 % 8 := by rw [and_i (m := 3) (by rw [s14]; omega) (by decide) rfl, s14]; rfl
  have m17 : ((w >>> ((17 : Int32) &&& 31)) &&& (15 : Int32)).toInt = w.toInt / 131072 % 16 := by rw [and_i (m := 4) (by rw [s17]; omega) (by decide) rfl, s17]; rfl
  have m63 : (w &&& (63 : Int32)).toInt = w.toInt % 64 := by rw [and_i (m := 6) (by omega) (by decide) rfl]; rfl
  refine ⟨?_, ?_, by rw [m14]; omega, by rw [m17]; omega, by rw [m63]; omega, ?_⟩
  · rw [ts (by rw [m6, z8]; omega), m6, z8]; omega
  · rw [ts (by rw [m10, z8]; omega), m10, z8]; omega
  · have b := (fb_e (x := w &&& (63 : Int32)) ⟨by rw [m63]; omega, by rw [m63]; omega⟩).2.2.1
    rw [m63, show w.toInt % 64 = L 75 j by omega, Int32.and_assoc, show (63 : Int32) &&& (4 : Int32) = (4 : Int32) by decide] at b
    exact b
theorem ison_v {f r : Int32} {o : Int32 × Hp} (w7 : hR h (V 11) 7 = some (V 2)) (P : CLq V h L) (e : sX10_isOn h (V 11) f r = some o) : o.2 = h ∧ ((o.1 = 0 ∧ ¬ (0 ≤ f.toInt ∧ f.toInt < L 0 0 ∧ 0 ≤ r.toInt ∧ r.toInt < L 1 0)) ∨ (o.1 = 1 ∧ (0 ≤ f.toInt ∧ f.toInt < L 0 0 ∧ 0 ≤ r.toInt ∧ r.toInt < L 1 0))) := by
  have z0 : (0 : Int32).toInt = 0 := rfl
  unfold sX10_isOn sX10_isOn_34 sX10_isOn_35 at e
  rcases br_s e with ⟨c, e⟩ | ⟨c, e⟩
  · have c := lt_i c
    rw [z0] at c
    rw [so_e (gg_e e)]
    exact ⟨rfl, Or.inl ⟨rfl, by omega⟩⟩
  have c := nlt_i c
  rw [z0] at c
  replace e := ce_e w7 e
  rcases br_s e with ⟨d, e⟩ | ⟨d, e⟩
  · have d := le_i d
    rw [P.1] at d
    rw [so_e (gg_e e)]
    exact ⟨rfl, Or.inl ⟨rfl, by omega⟩⟩
  have d := nle_i d
  rw [P.1] at d
  rcases br_s e with ⟨g, e⟩ | ⟨g, e⟩
  · have g := lt_i g
    rw [z0] at g
    rw [so_e (gg_e e)]
    exact ⟨rfl, Or.inl ⟨rfl, by omega⟩⟩
  have g := nlt_i g
  rw [z0] at g
  replace e := ce_e w7 e
  rcases br_s e with ⟨i, e⟩ | ⟨i, e⟩
  · have i := le_i i
    rw [P.2.1] at i
    rw [so_e (gg_e e)]
    exact ⟨rfl, Or.inl ⟨rfl, by omega⟩⟩
  have i := nle_i i
  rw [P.2.1] at i
  rw [so_e (gg_e e)]
  exact ⟨rfl, Or.inr ⟨rfl, c, d, g, i⟩⟩
end
section
variable {F : Nat} {V : Nat → Nat} {L : Nat → Nat → Int} {o : Int64 × Hp}
/-- along one vector -/
theorem rd_158 (D : VD V) {i w X Y : Int32} {j s : Nat} (H : LOk L) (J : StR L j) (ew : w.toInt = wrdI L j) (sL : (s : Int) < L 0 0 * L 1 0) (ii : 0 ≤ i.toInt ∧ i.toInt < 8) (iX : -7 ≤ X.toInt ∧ X.toInt ≤ 7) (iY : -7 ≤ Y.toInt ∧ Y.toInt ≤ 7) (nz : ¬ (X.toInt = 0 ∧ Y.toInt = 0)) : ∀ (f : Nat) {h : Hp} {x11 : Int64} {x13 x14 x15 : Int32}, WLf V h → CLq V h L → 1 ≤ x15.toInt → x15.toInt ≤ 8 → x13.toInt = (s : Int) % L 0 0 + x15.toInt * X.toInt → x14.toInt = (s : Int) / L 0 0 + x15.toInt * Y.toInt → sX10_ride_158 F f h (V 11) i w X Y x11 x13 x14 x15 = some o → FrV V (wl [(56, 999)]) h o.2 ∧ (∀ k : Int, x15.toInt ≤ k → k ≤ L 78 j → onK (L 0 0) (L 1 0) s X.toInt Y.toInt k → (hI o.2 (V 56) (tgt (L 0 0) s X.toInt Y.toInt k * 8 + i.toInt).toNat).toInt = k) ∧ (∀ x : Nat, (∀ k : Int, x15.toInt ≤ k → k ≤ L 78 j → onK (L 0 0) (L 1 0) s X.toInt Y.toInt k → ¬ (x : Int) = tgt (L 0 0) s X.toInt Y.toInt k * 8 + i.toInt) → hI o.2 (V 56) x = hI h (V 56) x) ∧ ∀ t : Nat, t < 64 → (bitJ o.1 t = true ↔ bitJ x11 t = true ∨ ∃ k : Int, x15.toInt ≤ k ∧ k ≤ L 78 j ∧ onK (L 0 0) (L 1 0) s X.toInt Y.toInt k ∧ (t : Int) = tgt (L 0 0) s X.toInt Y.toInt k) := by
  have z1 : (1 : Int32).toInt = 1 := rfl
  have z8 : (8 : Int32).toInt = 8 := rfl
  have sq := sq_64 H
  have fi := H.1
  have ra := H.2.1
  have r7 := J.2.2.2.2.1
  have rd := (wrd_e J ew).2.2.1
  intro f
  induction f with
  | zero => intro h x11 x13 x14 x15 _ _ _ _ _ _ e; exact absurd e (by rw [sX10_ride_158]; exact fun z => nomatch z)
  | succ f ih =>
    intro h x11 x13 x14 x15 W P a15 b15 e13 e14 e
    rw [sX10_ride_158] at e
    unfold sX10_ride_239 at e
    have stop : (∀ k : Int, x15.toInt ≤ k → k ≤ L 78 j → ¬ onK (L 0 0) (L 1 0) s X.toInt Y.toInt k) → some (x11, h) = some o → FrV V (wl [(56, 999)]) h o.2 ∧ (∀ k : Int, x15.toInt ≤ k → k ≤ L 78 j → onK (L 0 0) (L 1 0) s X.toInt Y.toInt k → (hI o.2 (V 56) (tgt (L 0 0) s X.toInt Y.toInt k * 8 + i.toInt).toNat).toInt = k) ∧ (∀ x : Nat, (∀ k : Int, x15.toInt ≤ k → k ≤ L 78 j → onK (L 0 0) (L 1 0) s X.toInt Y.toInt k → ¬ (x : Int) = tgt (L 0 0) s X.toInt Y.toInt k * 8 + i.toInt) → hI o.2 (V 56) x = hI h (V 56) x) ∧ ∀ t : Nat, t < 64 → (bitJ o.1 t = true ↔ bitJ x11 t = true ∨ ∃ k : Int, x15.toInt ≤ k ∧ k ≤ L 78 j ∧ onK (L 0 0) (L 1 0) s X.toInt Y.toInt k ∧ (t : Int) = tgt (L 0 0) s X.toInt Y.toInt k) := fun no u => by
      rw [so_e u]
      refine ⟨fv_0, fun k a b c => absurd c (no k a b), fun _ _ => rfl, fun t _ => ⟨fun z => Or.inl z, ?_⟩⟩
      rintro (z | ⟨k, a, b, c, _⟩)
      · exact z
      · exact absurd c (no k a b)
    rcases br_s e with ⟨l, e⟩ | ⟨l, e⟩
    · have l := lt_i l
      rw [rd] at l
      exact stop (fun k a b => by omega) e
    have l := nlt_i l
    rw [rd] at l
    replace e := cl_s e; obtain ⟨o2, eo2, e⟩ := e
    obtain ⟨w2, on2⟩ := ison_v W.2.1 P eo2
    rw [w2] at e
    rcases br_s e with ⟨c, e⟩ | ⟨c, e⟩
    · refine stop (fun k a b ok => ?_) e
      have ok' := onk_mid (j := x15.toInt) (show 0 < L 0 0 by omega) (by omega) sL ok ⟨by omega, a⟩
      rcases on2 with ⟨_, n⟩ | ⟨y, _⟩
      · exact n (by rw [e13, e14]; exact ok')
      · rw [y] at c; exact absurd c (by decide)
    have ok : onK (L 0 0) (L 1 0) s X.toInt Y.toInt x15.toInt := by
      rcases on2 with ⟨y, _⟩ | ⟨_, y⟩
      · exact absurd y c
      · rw [e13, e14] at y; exact y
    obtain ⟨t0, t1, _, _⟩ := tgt_on (show 0 < L 0 0 by omega) ok
    have okb := ok
    obtain ⟨k0, k1, k2, k3⟩ := okb
    replace e := ce_e W.2.1 e
    replace e := nm_s e; obtain ⟨v5, u5, e⟩ := e
    have b1 := mb (n := 8) (m := 8) (k := x14.toInt) (d := (hI h (V 2) 0).toInt) ⟨by omega, by omega⟩ ⟨by rw [P.1]; omega, by rw [P.1]; omega⟩ (by decide)
    have m5 : (x14 * (hI h (V 2) 0)).toInt = x14.toInt * L 0 0 := by rw [tm (by omega), P.1]
    have t5 : v5.toInt = tgt (L 0 0) s X.toInt Y.toInt x15.toInt := by
      rw [u5, ta (by rw [m5]; rw [P.1] at b1; omega), m5, e13, e14]
      rfl
    have m8 : (v5 * (8 : Int32)).toInt = v5.toInt * 8 := by rw [tm (by rw [z8]; omega), z8]
    have ix : ((v5 * (8 : Int32)) + i).toNatClampNeg = (tgt (L 0 0) s X.toInt Y.toInt x15.toInt * 8 + i.toInt).toNat := by
      have a : ((v5 * (8 : Int32)) + i).toInt = v5.toInt * 8 + i.toInt := by rw [ta (by rw [m8]; omega), m8]
      have := nc_i (x := (v5 * (8 : Int32)) + i) (by omega)
      omega
    replace e := ce_e W.1 e
    replace e := gg_e e
    replace e := nm_s e; obtain ⟨h8, u8, e⟩ := e
    rw [ix] at u8
    replace e := nm_s e; obtain ⟨v9, u9, e⟩ := e
    replace e := nm_s e; obtain ⟨v10, u10, e⟩ := e
    replace e := nm_s e; obtain ⟨v11, u11, e⟩ := e
    replace e := nm_s e; obtain ⟨v12, u12, e⟩ := e
    have A : FrV V (wl [(56, 999)]) h h8 := by rw [u8]; exact fv_w (wl_9 (by decide))
    have t12 : v12.toInt = x15.toInt + 1 := by rw [u12, ta (by rw [z1]; omega), z1]
    have px := mb (n := 7) (m := 8) (k := x15.toInt) (d := X.toInt) ⟨by omega, by omega⟩ iX (by decide)
    have py := mb (n := 7) (m := 8) (k := x15.toInt) (d := Y.toInt) ⟨by omega, by omega⟩ iY (by decide)
    have t10 : v10.toInt = (s : Int) % L 0 0 + v12.toInt * X.toInt := by
      rw [u10, ta (by omega), e13, t12, Int.add_mul, Int.one_mul]; omega
    have t11 : v11.toInt = (s : Int) / L 0 0 + v12.toInt * Y.toInt := by
      rw [u11, ta (by omega), e14, t12, Int.add_mul, Int.one_mul]; omega
    obtain ⟨r1, r2, r3, r4⟩ := ih (wlf_f W A) (clw_f D P A (by decide)) (by omega) (by omega) t10 t11 e
    have uni : ∀ k : Int, onK (L 0 0) (L 1 0) s X.toInt Y.toInt k → tgt (L 0 0) s X.toInt Y.toInt k = tgt (L 0 0) s X.toInt Y.toInt x15.toInt → k = x15.toInt := fun k ok' te => by
      obtain ⟨a, b⟩ := tgt_u ok' ok te
      by_cases c : X.toInt = 0
      · exact Int.eq_of_mul_eq_mul_right (fun z => nz ⟨c, z⟩) b
      · exact Int.eq_of_mul_eq_mul_right c a
    refine ⟨fv_t A r1, fun k a b c => ?_, fun x hx => ?_, fun t ht => ?_⟩
    · by_cases q : k = x15.toInt
      · rw [q, r3 _ (fun k' a' b' c' z => ?_), u8, rI_s]
        have : tgt (L 0 0) s X.toInt Y.toInt k' = tgt (L 0 0) s X.toInt Y.toInt x15.toInt := by omega
        have := uni k' c' this
        omega
      · exact r2 k (by omega) b c
    · rw [r3 x (fun k a b c => hx k (by omega) b c), u8, rI_o (fun z => hx x15.toInt (Int.le_refl _) l ok (by omega))]
    · rw [r4 t ht, u9, bj_or, Bool.or_eq_true, bj_one (x := v5) ⟨by omega, by omega⟩, decide_eq_true_eq]
      have cv := nc_i (x := v5) (by omega)
      constructor
      · rintro ((z | z) | ⟨k, a, b, c, d⟩)
        · exact Or.inl z
        · exact Or.inr ⟨x15.toInt, Int.le_refl _, l, ok, by omega⟩
        · exact Or.inr ⟨k, by omega, b, c, d⟩
      · rintro (z | ⟨k, a, b, c, d⟩)
        · exact Or.inl (Or.inl z)
        · by_cases q : k = x15.toInt
          · rw [q] at d
            exact Or.inl (Or.inr (by omega))
          · exact Or.inr ⟨k, by omega, b, c, d⟩
/-- one vector of a STEP -/
theorem rd_val {i w v sd : Int32} {j : Nat} {x : Int32} {h : Hp} (J : StR L j) (ew : w.toInt = wrdI L j) (iv : Rg 0 7 v) (isd : Rg 0 1 sd) (fo : fbt (L 75 j) 2 = true → v = 0) (W : WLf V h) (e : sX10_ride F h (V 11) x i w v sd = some o) : ∃ X Y : Int32, X.toInt = vXi (L 76 j) (L 77 j) (fbt (L 75 j) 2) v.toNatClampNeg ∧ Y.toInt = vYi (L 76 j) (L 77 j) sd.toInt (fbt (L 75 j) 2) v.toNatClampNeg ∧ sX10_ride_158 F F h (V 11) i w X Y (0 : Int64) ((hI h (V 32) x.toNatClampNeg) + X) ((hI h (V 33) x.toNatClampNeg) + Y) (1 : Int32) = some o := by
  have z0 : (0 : Int32).toInt = 0 := rfl
  have z1 : (1 : Int32).toInt = 1 := rfl
  obtain ⟨ea, eb, _, _, _, e4⟩ := wrd_e J ew
  obtain ⟨b1, b2, b4⟩ := bt_d iv
  obtain ⟨_, ⟨a0, a1⟩, ⟨c0, c1⟩, _⟩ := J
  unfold sX10_ride at e
  replace e := nm_s e; obtain ⟨A, uA, e⟩ := e
  replace e := nm_s e; obtain ⟨B, uB, e⟩ := e
  rw [← uA] at ea
  rw [← uB] at eb
  rw [← ea] at a0 a1
  rw [← eb] at c0 c1
  rw [← ea, ← eb]
  have neg : ∀ {y : Int32}, -7 ≤ y.toInt → y.toInt ≤ 7 → (-y).toInt = -y.toInt := fun {y} p q => by
    have : -y = (0 : Int32) - y := by rw [Int32.zero_sub]
    rw [this, ts (by rw [z0]; omega), z0]; omega
  -- the end
  have fin : ∀ {X Y : Int32}, sX10_ride_124 F h (V 11) x i w X Y = some o → sX10_ride_158 F F h (V 11) i w X Y (0 : Int64) ((hI h (V 32) x.toNatClampNeg) + X) ((hI h (V 33) x.toNatClampNeg) + Y) (1 : Int32) = some o := fun {X Y} u => by
    unfold sX10_ride_124 at u
    replace u := ce_e W.2.1 u
    replace u := ce_e W.2.2.2.2.1 u
    replace u := gg_e u
    replace u := nx_e u
    replace u := ce_e W.2.1 u
    replace u := ce_e W.2.2.2.2.2 u
    replace u := gg_e u
    exact u
  rcases br_s e with ⟨c, e⟩ | ⟨c, e⟩
  · -- eight vectors
    rw [e4.mp c]
    unfold sX10_ride_35 at e
    replace e := bp_e rfl e
    have last : ∀ {P Q : Int32}, P.toInt = (if v.toNatClampNeg / 4 % 2 = 1 then B.toInt else A.toInt) → Q.toInt = (if v.toNatClampNeg / 4 % 2 = 1 then A.toInt else B.toInt) → sX10_ride_87 F h (V 11) x i w v sd (0 : Int32) P Q = some o → ∃ X Y : Int32, X.toInt = vXi A.toInt B.toInt false v.toNatClampNeg ∧ Y.toInt = vYi A.toInt B.toInt sd.toInt false v.toNatClampNeg ∧ sX10_ride_158 F F h (V 11) i w X Y (0 : Int64) ((hI h (V 32) x.toNatClampNeg) + X) ((hI h (V 33) x.toNatClampNeg) + Y) (1 : Int32) = some o := fun {P Q} hP hQ u => by
      unfold sX10_ride_87 at u
      have rP : -7 ≤ P.toInt ∧ P.toInt ≤ 7 := by rw [hP]; split <;> omega
      have rQ : -7 ≤ Q.toInt ∧ Q.toInt ≤ 7 := by rw [hQ]; split <;> omega
      have k101 : ∀ {X : Int32}, X.toInt = vXi A.toInt B.toInt false v.toNatClampNeg → sX10_ride_101 F h (V 11) x i w v sd (0 : Int32) X Q = some o → ∃ X Y : Int32, X.toInt = vXi A.toInt B.toInt false v.toNatClampNeg ∧ Y.toInt = vYi A.toInt B.toInt sd.toInt false v.toNatClampNeg ∧ sX10_ride_158 F F h (V 11) i w X Y (0 : Int64) ((hI h (V 32) x.toNatClampNeg) + X) ((hI h (V 33) x.toNatClampNeg) + Y) (1 : Int32) = some o := fun {X} hX y => by
        unfold sX10_ride_101 at y
        rcases br_s y with ⟨d, y⟩ | ⟨d, y⟩
        · replace y := bp_e rfl y
          refine ⟨X, Q, hX, ?_, fin y⟩
          unfold vYi
          rw [if_neg (by decide), if_neg (b2.mp d)]; exact hQ
        · unfold sX10_ride_119 at y
          refine ⟨X, -Q, hX, ?_, fin (nx_e y)⟩
          unfold vYi
          rw [if_neg (by decide), if_pos (by
            by_cases q : v.toNatClampNeg / 2 % 2 = 1
            · exact q
            · exact absurd (b2.mpr q) d), neg rQ.1 rQ.2, hQ]
      rcases br_s u with ⟨d, u⟩ | ⟨d, u⟩
      · refine k101 ?_ u
        unfold vXi
        rw [if_neg (by decide), if_neg (b1.mp d)]; exact hP
      · refine k101 (X := -P) ?_ (nx_e u)
        unfold vXi
        rw [if_neg (by decide), if_pos (by
          by_cases q : v.toNatClampNeg % 2 = 1
          · exact q
          · exact absurd (b1.mpr q) d), neg rP.1 rP.2, hP]
    unfold sX10_ride_61 at e
    rcases br_s e with ⟨d, e⟩ | ⟨d, e⟩
    · replace e := bp_e rfl e
      replace e := bp_e d e
      exact last (by rw [if_neg (b4.mp d)]) (by rw [if_neg (b4.mp d)]) e
    · replace e := bp_e rfl e
      replace e := bn_e d e
      have t : v.toNatClampNeg / 4 % 2 = 1 := by
        by_cases q : v.toNatClampNeg / 4 % 2 = 1
        · exact q
        · exact absurd (b4.mpr q) d
      exact last (by rw [if_pos t]) (by rw [if_pos t]) e
  · -- one
    have ft : fbt (L 75 j) 2 = true := by
      cases q : fbt (L 75 j) 2 with
      | true => rfl
      | false => exact absurd (e4.mpr q) c
    have v0 := fo ft
    rw [ft]
    unfold sX10_ride_35 sX10_ride_61 sX10_ride_87 sX10_ride_101 sX10_ride_119 at e
    rw [v0] at e ⊢
    replace e := bn_e (by decide) e
    replace e := bn_e (by decide) e
    replace e := bp_e (by decide) e
    replace e := bp_e (by decide) e
    replace e := bn_e (by decide) e
    rcases br_s e with ⟨d, e⟩ | ⟨d, e⟩
    · refine ⟨A, -B, rfl, ?_, fin (nx_e e)⟩
      unfold vYi
      rw [if_pos rfl, if_neg (by rw [d]; decide), neg c0 c1]
    · refine ⟨A, B, rfl, ?_, fin e⟩
      unfold vYi
      have : sd.toInt = 0 := by
        have s0 := isd.1
        have s1 := isd.2
        have : ¬ sd.toInt = 1 := fun z => d (Int32.toInt_inj.mp (by rw [z, z1]))
        omega
      rw [if_pos rfl, if_pos this]
end
