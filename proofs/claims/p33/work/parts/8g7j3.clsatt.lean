/-! the class: ways as they lie in its rows, and whether a square is attacked -/
def WyE (L : Nat → Nat → Int) (V : Nat → Nat) (h : Hp) (c s t i w : Nat) : Prop := ∃ k, RchL L (8 * (c / 2) + i) ((c % 2 : Nat) : Int) s t k ∧ (hI h (V 51) w).toInt = t + 64 * L 75 (8 * (c / 2) + i) + 4096 * k ∧ ∀ q, q < 64 → (bitJ (hJ h (V 52) w) q = true ↔ ∃ j : Nat, 1 ≤ j ∧ (j : Int) < k ∧ (q : Int) = s + j * (((t : Int) - s) / k))
def CellW (L : Nat → Nat → Int) (V : Nat → Nat) (h : Hp) (c s t a b : Nat) : Prop := a ≤ b ∧ ∃ I : Nat → Nat, (∀ w, a ≤ w → w < b → ((I w : Nat) : Int) < L 74 (c / 2) ∧ WyE L V h c s t (I w) w) ∧ (∀ w w', a ≤ w → w < w' → w' < b → I w < I w') ∧ ∀ (i : Nat) (k : Int), (i : Int) < L 74 (c / 2) → RchL L (8 * (c / 2) + i) ((c % 2 : Nat) : Int) s t k → ∃ w, a ≤ w ∧ w < b ∧ I w = i
def celN (c s t : Nat) : Nat := (c * 64 + s) * 64 + t
def WyT (L : Nat → Nat → Int) (V : Nat → Nat) (h : Hp) : Prop := ∀ c s t : Nat, (c : Int) < 2 * L 2 0 → (s : Int) < L 0 0 * L 1 0 → t < 64 → (0 ≤ (hI h (V 50) (celN c s t)).toInt ∧ 0 ≤ (hI h (V 50) (celN c s t + 1)).toInt) ∧ CellW L V h c s t (rowN h (V 50) (celN c s t)) (rowN h (V 50) (celN c s t + 1)) ∧ (bitJ (hJ h (V 53) (c * 64 + t)) s = true ↔ ∃ (i : Nat) (k : Int), (i : Int) < L 74 (c / 2) ∧ RchL L (8 * (c / 2) + i) ((c % 2 : Nat) : Int) s t k) ∧ (bitJ (hJ h (V 54) (c * 64 + t)) s = true ↔ ∃ (i : Nat) (k : Int), (i : Int) < L 74 (c / 2) ∧ fbt (L 75 (8 * (c / 2) + i)) 0 = false ∧ RchL L (8 * (c / 2) + i) ((c % 2 : Nat) : Int) s t k)
def WCf (V : Nat → Nat) (h : Hp) : Prop := hR h (V 11) 0 = some (V 50) ∧ hR h (V 11) 1 = some (V 51) ∧ hR h (V 11) 2 = some (V 52) ∧ hR h (V 11) 3 = some (V 53) ∧ hR h (V 11) 4 = some (V 54) ∧ hR h (V 11) 5 = some (V 55)
theorem j_zero {x : Int64} : x = 0 ↔ ∀ q, q < 64 → bitJ x q = false := by
  constructor
  · intro z q _
    rw [z, bj_zero]
  · intro z
    apply Int64.toBitVec_inj.mp
    apply BitVec.eq_of_getLsbD_eq
    intro i hi
    show bitJ x i = bitJ (0 : Int64) i
    rw [z i hi, bj_zero]
theorem low_rest {x : Int64} (hx : ¬ x = 0) : ∃ k, k < 64 ∧ bitJ x k = true ∧ (∀ j, j < k → bitJ x j = false) ∧ (x &&& (-x)) = Int64.ofBitVec (BitVec.twoPow 64 k) ∧ ∀ s, s < 64 → bitJ (x &&& (x - (1 : Int64))) s = (bitJ x s && !decide (k = s)) := by
  obtain ⟨k, hk, pk, hl, el⟩ := low_min hx
  have e2 : (x - (1 : Int64)).toBitVec = ~~~ ((-x).toBitVec) := by
    rw [Int64.toBitVec_sub, Int64.toBitVec_neg, BitVec.not_neg]
    rfl
  have nb : ∀ s, s < 64 → bitJ (x - (1 : Int64)) s = !bitJ (-x) s := fun s hs => by
    unfold bitJ
    rw [e2, BitVec.getLsbD_not]
    simp [hs]
  have ab : ∀ s, (bitJ x s && bitJ (-x) s) = decide (k = s) := fun s => by rw [← bj_and, el, bj_pow hk]
  refine ⟨k, hk, pk, hl, el, fun s hs => ?_⟩
  rw [bj_and, nb s hs, ← ab s]
  cases bitJ x s <;> cases bitJ (-x) s <;> rfl
/-- squares between are on the board, and are all different -/
theorem pth_on {L : Nat → Nat → Int} {j : Nat} {sd : Int} {s t : Nat} {k : Int} (H : LOk L) (sL : (s : Int) < L 0 0 * L 1 0) (r : RchL L j sd s t k) {i : Int} (i0 : 0 ≤ i) (i1 : i ≤ k) : 0 ≤ (s : Int) + i * (((t : Int) - s) / k) ∧ (s : Int) + i * (((t : Int) - s) / k) < L 0 0 * L 1 0 := by
  obtain ⟨d, hd, o1, e1, st, _⟩ := rch_st r.2
  have f0 : 0 < L 0 0 := by have := H.1; omega
  have o2 := onk_mid (j := i) f0 (by omega) sL o1 ⟨i0, i1⟩
  obtain ⟨a, b, _⟩ := tgt_on f0 o2
  rw [tgt_s] at a b
  rw [st]
  exact ⟨a, b⟩
theorem rch_ne {L : Nat → Nat → Int} {j : Nat} {sd : Int} {s t : Nat} {k : Int} (J : StR L j) (r : RchL L j sd s t k) : ¬ ((t : Int) - s) / k = 0 := by
  obtain ⟨d, hd, o1, e1, st, sub⟩ := rch_st r.2
  intro z
  rw [st] at z
  have k1 := r.2.1
  rw [z, Int.mul_zero] at sub
  have n := v_nz (sd := sd) (fo := fbt (L 75 j) 2) (d := d) J.2.2.2.1
  generalize vXi (L 76 j) (L 77 j) (fbt (L 75 j) 2) d = X at *
  generalize vYi (L 76 j) (L 77 j) sd (fbt (L 75 j) 2) d = Y at *
  have f0 : 0 < L 0 0 := by have := o1.1; have := o1.2.1; omega
  obtain ⟨_, _, a, b⟩ := tgt_on f0 o1
  rw [← e1] at a b
  rw [show (t : Int) = s by omega] at a b
  have ax : k * X = 0 := by omega
  have ay : k * Y = 0 := by omega
  rcases Int.mul_eq_zero.mp ax with y | y
  · omega
  rcases Int.mul_eq_zero.mp ay with y' | y'
  · omega
  exact n ⟨y, y'⟩
section
variable {L : Nat → Nat → Int} {M : Nat → Int}
/-- men between, as bits -/
theorem met_b {x occ : Int64} {s t : Nat} {k : Int} {j : Nat} {sd : Int} (H : LOk L) (J : StR L j) (sL : (s : Int) < L 0 0 * L 1 0) (r : RchL L j sd s t k) (bx : ∀ q, q < 64 → (bitJ x q = true ↔ ∃ j : Nat, 1 ≤ j ∧ (j : Int) < k ∧ (q : Int) = s + j * (((t : Int) - s) / k))) (bo : ∀ q, q < 64 → (bitJ occ q = true ↔ 0 < M q)) : (x &&& occ = 0 ↔ cnP M s (((t : Int) - s) / k) (k - 1).toNat = 0) ∧ (¬ x &&& occ = 0 → ((x &&& occ) &&& ((x &&& occ) - (1 : Int64)) = 0 ↔ cnP M s (((t : Int) - s) / k) (k - 1).toNat = 1)) := by
  have sq := sq_64 H
  have k1 := r.2.1
  have st := rch_ne J r
  have pq : ∀ i : Nat, 1 ≤ i → i ≤ (k - 1).toNat → ∃ q : Nat, q < 64 ∧ (q : Int) = s + i * (((t : Int) - s) / k) ∧ (s + i * (((t : Int) - s) / k)).toNat = q := fun i a b => by
    obtain ⟨u, v⟩ := pth_on H sL r (i := i) (by omega) (by omega)
    exact ⟨((s : Int) + i * (((t : Int) - s) / k)).toNat, by omega, by omega, rfl⟩
  have inj : ∀ i i' : Nat, (s : Int) + i * (((t : Int) - s) / k) = s + i' * (((t : Int) - s) / k) → i = i' := fun i i' e => by
    have : (i : Int) = i' := Int.eq_of_mul_eq_mul_right st (by omega)
    omega
  have bit : ∀ q, q < 64 → (bitJ (x &&& occ) q = true ↔ ∃ i : Nat, 1 ≤ i ∧ i ≤ (k - 1).toNat ∧ (q : Int) = s + i * (((t : Int) - s) / k) ∧ 0 < M (s + i * (((t : Int) - s) / k)).toNat) := fun q hq => by
    rw [bj_and, Bool.and_eq_true, bx q hq, bo q hq]
    constructor
    · rintro ⟨⟨i, a, b, c⟩, m⟩
      refine ⟨i, a, by omega, c, ?_⟩
      rw [← c]; exact m
    · rintro ⟨i, a, b, c, m⟩
      refine ⟨⟨i, a, by omega, c⟩, ?_⟩
      rw [← c] at m; exact m
  refine ⟨?_, fun nz => ?_⟩
  · rw [j_zero, cnp_0]
    constructor
    · intro z i a b m
      obtain ⟨q, hq, e, _⟩ := pq i a b
      have := (bit q hq).mpr ⟨i, a, b, e, m⟩
      rw [z q hq] at this
      exact absurd this (by decide)
    · intro z q hq
      cases y : bitJ (x &&& occ) q with
      | false => rfl
      | true =>
        obtain ⟨i, a, b, _, m⟩ := (bit q hq).mp y
        exact absurd m (z i a b)
  · obtain ⟨l, hl, pl, _, _, rest⟩ := low_rest nz
    rw [j_zero, cnp_1]
    obtain ⟨i, a, b, e, m⟩ := (bit l hl).mp pl
    constructor
    · intro z
      refine ⟨i, a, b, m, fun i' a' b' m' => ?_⟩
      obtain ⟨q, hq, e', _⟩ := pq i' a' b'
      have y := (bit q hq).mpr ⟨i', a', b', e', m'⟩
      have w := z q hq
      rw [rest q hq, y, Bool.true_and] at w
      have lq : l = q := by
        by_cases c : l = q
        · exact c
        · rw [decide_eq_false c] at w; exact absurd w (by decide)
      exact inj i' i (by rw [← e', ← e, lq])
    · rintro ⟨i0, _, _, _, u⟩ q hq
      rw [rest q hq]
      cases y : bitJ (x &&& occ) q with
      | false => rfl
      | true =>
        obtain ⟨i', a', b', e', m'⟩ := (bit q hq).mp y
        have : i' = i := (u i' a' b' m').trans (u i a b m).symm
        rw [this] at e'
        rw [decide_eq_true (show l = q by omega)]
        rfl
theorem wd_all : ∀ k : Fin 8, ∀ f : Fin 64, (((nI (f.val + 64 * k.val)) &&& (1 : Int32)) = 0 ↔ fbt (f.val : Int) 0 = false) ∧ (((nI (f.val + 64 * k.val)) &&& (8 : Int32)) = 0 ↔ fbt (f.val : Int) 3 = false) := by decide +kernel
/-- a way's word -/
theorem wd_e {w : Int32} {t : Nat} {fl k : Int} (ht : t < 64) (hf : 0 ≤ fl ∧ fl ≤ 63) (hk : 0 ≤ k ∧ k ≤ 7) (e : w.toInt = t + 64 * fl + 4096 * k) : ((w >>> ((6 : Int32) &&& 31)) &&& (1 : Int32) = 0 ↔ fbt fl 0 = false) ∧ ((w >>> ((6 : Int32) &&& 31)) &&& (8 : Int32) = 0 ↔ fbt fl 3 = false) := by
  have sh : (w >>> ((6 : Int32) &&& 31)).toInt = w.toInt / 64 := shr_i 6 (by decide)
  have v : (w >>> ((6 : Int32) &&& 31)).toInt = fl + 64 * k := by rw [sh, e]; omega
  have a := wd_all ⟨k.toNat, by omega⟩ ⟨fl.toNat, by omega⟩
  have ev : w >>> ((6 : Int32) &&& 31) = nI (fl.toNat + 64 * k.toNat) := Int32.toInt_inj.mp (by rw [v, z_toInt (by omega)]; omega)
  have ef : ((fl.toNat : Nat) : Int) = fl := by omega
  dsimp only at a
  rw [ef] at a
  rw [ev]
  exact a
end
section
variable {F : Nat} {V : Nat → Nat} {h : Hp} {L : Nat → Nat → Int} {M : Nat → Int} {o : Int32 × Hp}
/-- over the ways of one man to the square -/
theorem hitc_133 {K : Hp → Nat → Nat → Int32 → Int64 → Int64 → Int32 → Option (Int32 × Hp)} {q x8 x13 : Int32} {occ x6 : Int64} {c s t a b : Nat} {I : Nat → Nat} (H : LOk L) (w6 : hR h (V 6) 1 = some (V 11)) (wc : WCf V h) (cL : (c : Int) < 2 * L 2 0) (sL : (s : Int) < L 0 0 * L 1 0) (ht : t < 64) (e13 : rowN h (V 50) (x13 + (1 : Int32)).toNatClampNeg = b) (nn : 0 ≤ (hI h (V 50) (x13 + (1 : Int32)).toNatClampNeg).toInt) (bo : ∀ q, q < 64 → (bitJ occ q = true ↔ 0 < M q)) (II : ∀ w, a ≤ w → w < b → ((I w : Nat) : Int) < L 74 (c / 2) ∧ WyE L V h c s t (I w) w) : ∀ (f : Nat) {x14 : Int32}, 0 ≤ x14.toInt → a ≤ x14.toNatClampNeg → sX5_isHit_133 F K f h (V 6) (V 4) q occ x6 x8 x13 x14 = some o → ((∀ w, x14.toNatClampNeg ≤ w → w < b → fbt (L 75 (8 * (c / 2) + I w)) 0 = false → ¬ ∃ k, Led L M (8 * (c / 2) + I w) ((c % 2 : Nat) : Int) s t k) ∧ sX5_isHit_249 F K h (V 6) (V 4) q occ x6 x8 = some o) ∨ (o = ((1 : Int32), h) ∧ ∃ w, a ≤ w ∧ w < b ∧ fbt (L 75 (8 * (c / 2) + I w)) 0 = false ∧ ∃ k, Led L M (8 * (c / 2) + I w) ((c % 2 : Nat) : Int) s t k) := by
  have z1 : (1 : Int32).toInt = 1 := rfl
  have mL : ((c / 2 : Nat) : Int) < L 2 0 := by omega
  obtain ⟨H74, Hst⟩ := H.2.2.2 _ mL
  have cb := nc_i nn
  intro f
  induction f with
  | zero => intro x14 _ _ e; exact absurd e (by rw [sX5_isHit_133]; exact fun z => nomatch z)
  | succ f ih =>
    intro x14 a14 la e
    have c14 := nc_i a14
    rw [sX5_isHit_133] at e
    replace e := ce_e w6 e
    replace e := ce_e wc.1 e
    replace e := gg_e e
    rcases br_s e with ⟨l, e⟩ | ⟨l, e⟩
    · have l := le_i l
      refine Or.inl ⟨fun w x y => ?_, e⟩
      unfold rowN at e13
      omega
    have l := nle_i l
    have lb : x14.toNatClampNeg < b := by unfold rowN at e13; omega
    obtain ⟨iL, k, rk, wd, bt⟩ := II _ la lb
    have J : StR L (8 * (c / 2) + I x14.toNatClampNeg) := Hst _ iL
    have kr := rk.2.2.1
    have k1 := rk.2.1
    have r7 := J.2.2.2.2.1
    obtain ⟨wd1, wd8⟩ := wd_e ht J.1 ⟨by omega, by omega⟩ wd
    obtain ⟨m0, m1⟩ := met_b (M := M) H J sL rk bt bo
    replace e := ce_e w6 e
    replace e := ce_e wc.2.1 e
    replace e := gg_e e
    replace e := nm_s e; obtain ⟨v8, u8, e⟩ := e
    replace e := ce_e w6 e
    replace e := ce_e wc.2.2.1 e
    replace e := gg_e e
    replace e := nm_s e; obtain ⟨v12, u12, e⟩ := e
    rw [← u8] at wd1 wd8
    rw [← u12] at m0 m1
    have bd : ∀ x, (hI h (V 50) x).toInt ≤ 2147483647 := fun x => Int32.toInt_le _
    have t14 : (x14 + (1 : Int32)).toInt = x14.toInt + 1 := by
      have := bd (x13 + (1 : Int32)).toNatClampNeg
      rw [ta (by rw [z1]; omega), z1]
    have n14 : (x14 + (1 : Int32)).toNatClampNeg = x14.toNatClampNeg + 1 := by
      have := nc_i (x := x14 + (1 : Int32)) (by omega)
      omega
    have nxt : (fbt (L 75 (8 * (c / 2) + I x14.toNatClampNeg)) 0 = false → ¬ ∃ k, Led L M (8 * (c / 2) + I x14.toNatClampNeg) ((c % 2 : Nat) : Int) s t k) → sX5_isHit_243 F K (sX5_isHit_133 F K f) h (V 6) (V 4) q occ x6 x8 x13 x14 = some o → ((∀ w, x14.toNatClampNeg ≤ w → w < b → fbt (L 75 (8 * (c / 2) + I w)) 0 = false → ¬ ∃ k, Led L M (8 * (c / 2) + I w) ((c % 2 : Nat) : Int) s t k) ∧ sX5_isHit_249 F K h (V 6) (V 4) q occ x6 x8 = some o) ∨ (o = ((1 : Int32), h) ∧ ∃ w, a ≤ w ∧ w < b ∧ fbt (L 75 (8 * (c / 2) + I w)) 0 = false ∧ ∃ k, Led L M (8 * (c / 2) + I w) ((c % 2 : Nat) : Int) s t k) := fun no u => by
      unfold sX5_isHit_243 at u
      rcases ih (by omega) (by omega) (nx_e u) with ⟨x, y⟩ | r
      · refine Or.inl ⟨fun w p p' => ?_, y⟩
        by_cases z : w = x14.toNatClampNeg
        · rw [z]; exact no
        · exact x w (by omega) p'
      · exact Or.inr r
    have led : cnP M s (((t : Int) - s) / k) (k - 1).toNat = ovN L (8 * (c / 2) + I x14.toNatClampNeg) ↔ ∃ k, Led L M (8 * (c / 2) + I x14.toNatClampNeg) ((c % 2 : Nat) : Int) s t k := by
      constructor
      · exact fun z => ⟨k, rk, z⟩
      · rintro ⟨k', rk', z⟩
        have : k' = k := rch_u J.2.2.2.1 rk'.2 rk.2
        rw [this] at z
        exact z
    -- open, or not
    have yes : cnP M s (((t : Int) - s) / k) (k - 1).toNat = ovN L (8 * (c / 2) + I x14.toNatClampNeg) → sX5_isHit_227 F K (sX5_isHit_133 F K f) h (V 6) (V 4) q occ x6 x8 x13 x14 v8 (1 : Int32) = some o → ((∀ w, x14.toNatClampNeg ≤ w → w < b → fbt (L 75 (8 * (c / 2) + I w)) 0 = false → ¬ ∃ k, Led L M (8 * (c / 2) + I w) ((c % 2 : Nat) : Int) s t k) ∧ sX5_isHit_249 F K h (V 6) (V 4) q occ x6 x8 = some o) ∨ (o = ((1 : Int32), h) ∧ ∃ w, a ≤ w ∧ w < b ∧ fbt (L 75 (8 * (c / 2) + I w)) 0 = false ∧ ∃ k, Led L M (8 * (c / 2) + I w) ((c % 2 : Nat) : Int) s t k) := fun op u => by
      unfold sX5_isHit_227 at u
      replace u := bn_e (by decide) u
      rcases br_s u with ⟨z, u⟩ | ⟨z, u⟩
      · exact Or.inr ⟨so_e u, x14.toNatClampNeg, la, lb, wd1.mp z, led.mp op⟩
      · exact nxt (fun y => absurd (wd1.mpr y) z) u
    have no : ¬ cnP M s (((t : Int) - s) / k) (k - 1).toNat = ovN L (8 * (c / 2) + I x14.toNatClampNeg) → sX5_isHit_227 F K (sX5_isHit_133 F K f) h (V 6) (V 4) q occ x6 x8 x13 x14 v8 (0 : Int32) = some o → ((∀ w, x14.toNatClampNeg ≤ w → w < b → fbt (L 75 (8 * (c / 2) + I w)) 0 = false → ¬ ∃ k, Led L M (8 * (c / 2) + I w) ((c % 2 : Nat) : Int) s t k) ∧ sX5_isHit_249 F K h (V 6) (V 4) q occ x6 x8 = some o) ∨ (o = ((1 : Int32), h) ∧ ∃ w, a ≤ w ∧ w < b ∧ fbt (L 75 (8 * (c / 2) + I w)) 0 = false ∧ ∃ k, Led L M (8 * (c / 2) + I w) ((c % 2 : Nat) : Int) s t k) := fun op u => by
      unfold sX5_isHit_227 at u
      replace u := bp_e rfl u
      exact nxt (fun _ y => op (led.mpr y)) u
    unfold sX5_isHit_226 at e
    have cz : lg_cmp v12 (0 : Int64) = 0 ↔ v12 = 0 := ⟨cmp_eq, fun z => by rw [z]; decide⟩
    rcases br_s e with ⟨ov, e⟩ | ⟨ov, e⟩
    · have o0 : ovN L (8 * (c / 2) + I x14.toNatClampNeg) = 0 := by
        unfold ovN
        rw [if_neg (by rw [wd8.mp ov]; decide)]
      rcases br_s e with ⟨z, e⟩ | ⟨z, e⟩
      · exact yes (by rw [o0]; exact m0.mp (cz.mp z)) e
      · exact no (by rw [o0]; exact fun y => z (cz.mpr (m0.mpr y))) e
    · have o1 : ovN L (8 * (c / 2) + I x14.toNatClampNeg) = 1 := by
        unfold ovN
        rw [if_pos]
        cases y : fbt (L 75 (8 * (c / 2) + I x14.toNatClampNeg)) 3 with
        | true => rfl
        | false => exact absurd (wd8.mpr y) ov
      rcases br_s e with ⟨z, e⟩ | ⟨z, e⟩
      · exact no (by rw [o1, m0.mp (cz.mp z)]; decide) e
      have nz : ¬ v12 = 0 := fun y => z (cz.mpr y)
      have cz' : lg_cmp (v12 &&& (v12 - (1 : Int64))) (0 : Int64) = 0 ↔ v12 &&& (v12 - (1 : Int64)) = 0 := ⟨cmp_eq, fun z => by rw [z]; decide⟩
      rcases br_s e with ⟨y, e⟩ | ⟨y, e⟩
      · exact yes (by rw [o1]; exact (m1 nz).mp (cz'.mp y)) e
      · exact no (by rw [o1]; exact fun x => y (cz'.mpr ((m1 nz).mpr x))) e
/-- over all men of a side -/
theorem hitc_26 {q : Int32} {occ : Int64} {sd : Nat} {ro : Int} (H : LOk L) (HM : MOk L M) (w6 : hR h (V 6) 1 = some (V 11)) (wc : WCf V h) (T : WyT L V h) (e0 : hR h (V 4) 0 = some (V 34)) (P : PosC h (V 34) (V 35) (V 36) M ro) (q0 : 0 ≤ q.toInt) (q1 : q.toInt < 64) (bo : ∀ q, q < 64 → (bitJ occ q = true ↔ 0 < M q)) : ∀ (f : Nat) {x6 : Int64} {x8 : Int32}, (∀ s, s < 64 → bitJ x6 s = true → 0 < M s ∧ (M s - 1) % 2 = (sd : Int)) → 0 ≤ x8.toInt → (∀ s : Nat, s < 64 → (s : Int) < x8.toInt → bitJ x6 s = false) → sX5_isHit_26 F f h (V 6) (V 4) q occ x6 x8 = some o → o.2 = h ∧ ((o.1 = 0 ∧ ∀ s i : Nat, s < 64 → bitJ x6 s = true → ¬ AttI L M (M s) s q.toNatClampNeg i) ∨ (o.1 = 1 ∧ AttP L M sd q.toNatClampNeg)) := by
  have z1 : (1 : Int32).toInt = 1 := rfl
  have z64 : (64 : Int32).toInt = 64 := rfl
  have sq := sq_64 H
  have L2 := H.2.2.1
  have cq := nc_i q0
  intro f
  induction f with
  | zero => intro x6 x8 _ _ _ e; exact absurd e (by rw [sX5_isHit_26]; exact fun z => nomatch z)
  | succ f ih =>
    intro x6 x8 B6 a8 lo e
    rw [sX5_isHit_26] at e
    unfold sX5_isHit_255 at e
    have none : (∀ s, s < 64 → bitJ x6 s = false) → some ((0 : Int32), h) = some o → o.2 = h ∧ ((o.1 = 0 ∧ ∀ s i : Nat, s < 64 → bitJ x6 s = true → ¬ AttI L M (M s) s q.toNatClampNeg i) ∨ (o.1 = 1 ∧ AttP L M sd q.toNatClampNeg)) := fun z u => by
      rw [so_e u]
      exact ⟨rfl, Or.inl ⟨rfl, fun s i hs b => by rw [z s hs] at b; exact absurd b (by decide)⟩⟩
    rcases br_s e with ⟨l, e⟩ | ⟨l, e⟩
    · have l := le_i l
      rw [z64] at l
      exact none (fun s hs => lo s hs (by omega)) e
    have l := nle_i l
    rw [z64] at l
    rcases br_s e with ⟨z, e⟩ | ⟨z, e⟩
    · exact none (j_zero.mp (cmp_eq z)) e
    have nz := cmp0 z
    obtain ⟨k, hk, pk, kl, el⟩ := low_min nz
    replace e := nm_s e; obtain ⟨v3, u3, e⟩ := e
    rw [el] at u3
    replace e := nm_s e; obtain ⟨v4, u4, e⟩ := e
    have b4 : ∀ s, s < 64 → bitJ v4 s = (bitJ x6 s && !decide (k = s)) := fun s hs => by
      rw [u4, u3, bj_xor, bj_pow hk]
      by_cases c : k = s
      · rw [decide_eq_true c, ← c, pk]; rfl
      · rw [decide_eq_false c]; cases bitJ x6 s <;> rfl
    replace e := gg_e e
    replace e := nm_s e; obtain ⟨v6, u6, e⟩ := e
    rw [u3, sq_pow hk] at u6
    have c6 : v6.toNatClampNeg = k := by rw [u6, z_clamp (by omega)]
    have t6 : v6.toInt = (k : Int) := by rw [u6, z_toInt (by omega)]
    replace e := ce_e e0 e
    replace e := gg_e e
    replace e := nm_s e; obtain ⟨v9, u9, e⟩ := e
    rw [c6] at u9
    obtain ⟨mk, sk⟩ := B6 k hk pk
    have on9 : v9.toInt = M k - 1 := by rw [u9]; exact P.1 k hk
    obtain ⟨kL, m2⟩ := (HM k hk).2 mk
    have c9 := nc_i (x := v9) (by omega)
    have c9d : v9.toNatClampNeg / 2 = mnO (M k) := by unfold mnO; omega
    have c9m : ((v9.toNatClampNeg % 2 : Nat) : Int) = (M k - 1) % 2 := by omega
    have cL : (v9.toNatClampNeg : Int) < 2 * L 2 0 := by omega
    obtain ⟨⟨nn1, nn2⟩, cw, _, hf⟩ := T v9.toNatClampNeg k q.toNatClampNeg cL kL (by omega)
    have m64 : (v9 * (64 : Int32)).toInt = v9.toInt * 64 := by rw [tm (by rw [z64]; omega), z64]
    have a64 : ((v9 * (64 : Int32)) + q).toInt = v9.toInt * 64 + q.toInt := by rw [ta (by rw [m64]; omega), m64]
    have i54 : ((v9 * (64 : Int32)) + q).toNatClampNeg = v9.toNatClampNeg * 64 + q.toNatClampNeg := by
      have := nc_i (x := (v9 * (64 : Int32)) + q) (by omega)
      omega
    replace e := ce_e w6 e
    replace e := ce_e wc.2.2.2.2.1 e
    replace e := gg_e e
    rw [i54] at e
    have t8 : (x8 + (1 : Int32)).toInt = x8.toInt + 1 := by rw [ta (by rw [z1]; omega), z1]
    -- on to the next man
    have nxt : (∀ i, ¬ AttI L M (M k) k q.toNatClampNeg i) → sX5_isHit_249 F (sX5_isHit_26 F f) h (V 6) (V 4) q occ v4 x8 = some o → o.2 = h ∧ ((o.1 = 0 ∧ ∀ s i : Nat, s < 64 → bitJ x6 s = true → ¬ AttI L M (M s) s q.toNatClampNeg i) ∨ (o.1 = 1 ∧ AttP L M sd q.toNatClampNeg)) := fun no u => by
      unfold sX5_isHit_249 at u
      obtain ⟨r1, r2⟩ := ih (x6 := v4) (fun s hs b => B6 s hs (by
        rw [b4 s hs, Bool.and_eq_true] at b
        exact b.1)) (by omega) (fun s hs ls => by
        rw [b4 s hs]
        by_cases c : s < k
        · rw [kl s c]; rfl
        · by_cases d : k = s
          · rw [decide_eq_true d]; cases bitJ x6 s <;> rfl
          · have ks : k < s := by omega
            have : (k : Int) < x8.toInt := by omega
            rw [lo k hk this] at pk
            exact absurd pk (by decide)) (nx_e u)
      refine ⟨r1, ?_⟩
      rcases r2 with ⟨a, b⟩ | r2
      · refine Or.inl ⟨a, fun s i hs bs => ?_⟩
        by_cases c : k = s
        · rw [← c]; exact no i
        · exact b s i hs (by rw [b4 s hs, bs, decide_eq_false c]; rfl)
      · exact Or.inr r2
    have hb : lg_cmp ((hJ h (V 54) (v9.toNatClampNeg * 64 + q.toNatClampNeg)) &&& v3) (0 : Int64) = 0 ↔ ¬ bitJ (hJ h (V 54) (v9.toNatClampNeg * 64 + q.toNatClampNeg)) k = true := by
      have cz : ∀ y : Int64, lg_cmp y (0 : Int64) = 0 ↔ y = 0 := fun y => ⟨cmp_eq, fun z => by rw [z]; decide⟩
      rw [cz, j_zero]
      constructor
      · intro y b
        have := y k hk
        rw [bj_and, b, u3, bj_pow hk, decide_eq_true rfl] at this
        exact absurd this (by decide)
      · intro y s hs
        rw [bj_and, u3, bj_pow hk]
        by_cases c : k = s
        · rw [← c]
          cases d : bitJ (hJ h (V 54) (v9.toNatClampNeg * 64 + q.toNatClampNeg)) k with
          | false => rfl
          | true => exact absurd d y
        · rw [decide_eq_false c, Bool.and_false]
    rcases br_s e with ⟨c, e⟩ | ⟨c, e⟩
    · refine nxt (fun i z => hb.mp c (hf.mpr ?_)) e
      obtain ⟨z1, z2, k', z3⟩ := z
      rw [c9d, c9m]
      exact ⟨i, k', z1, z2, z3.1⟩
    replace e := nm_s e; obtain ⟨v14, u14, e⟩ := e
    have b64 : ((v9 * (64 : Int32)) + v6).toInt = v9.toInt * 64 + k := by rw [ta (by rw [m64, t6]; omega), m64, t6]
    have d64 : (((v9 * (64 : Int32)) + v6) * (64 : Int32)).toInt = (v9.toInt * 64 + k) * 64 := by rw [tm (by rw [b64, z64]; omega), b64, z64]
    have t14 : v14.toInt = (v9.toInt * 64 + k) * 64 + q.toInt := by rw [u14, ta (by rw [d64]; omega), d64]
    have n14 : v14.toNatClampNeg = celN v9.toNatClampNeg k q.toNatClampNeg := by
      unfold celN
      have := nc_i (x := v14) (by omega)
      omega
    have s14 : (v14 + (1 : Int32)).toInt = v14.toInt + 1 := by rw [ta (by rw [z1]; omega), z1]
    have n15 : (v14 + (1 : Int32)).toNatClampNeg = celN v9.toNatClampNeg k q.toNatClampNeg + 1 := by
      have := nc_i (x := v14) (by omega)
      have := nc_i (x := v14 + (1 : Int32)) (by omega)
      omega
    replace e := ce_e w6 e
    replace e := ce_e wc.1 e
    replace e := gg_e e
    replace e := nm_s e; obtain ⟨v18, u18, e⟩ := e
    rw [n14] at u18
    obtain ⟨ab, I, I1, I2, I3⟩ := cw
    have c18 : v18.toNatClampNeg = rowN h (V 50) (celN v9.toNatClampNeg k q.toNatClampNeg) := by rw [u18]; rfl
    rcases hitc_133 (M := M) H w6 wc cL kL (t := q.toNatClampNeg) (by omega) (by rw [n15]) (by rw [n15]; exact nn2) bo I1 F (by rw [u18]; exact nn1) (by rw [c18]; exact Nat.le_refl _) e with ⟨r1, r2⟩ | ⟨r1, w, w1, w2, w3, k', w4⟩
    · refine nxt (fun i z => ?_) r2
      obtain ⟨z1, z2, k', z3⟩ := z
      rw [← c9d] at z1 z2 z3
      rw [← c9m] at z3
      obtain ⟨w, w1, w2, w3⟩ := I3 i k' z1 z3.1
      refine r1 w (by rw [c18]; exact w1) w2 (by rw [w3]; exact z2) ⟨k', ?_⟩
      rw [w3]; exact z3
    · rw [r1]
      refine ⟨rfl, Or.inr ⟨rfl, k, I w, k', kL, mk, sk, ?_, ?_, ?_⟩⟩
      · rw [← c9d]; exact (I1 w w1 w2).1
      · rw [← c9d]; exact w3
      · rw [← c9d]
        rw [c9m, sk] at w4
        exact w4
/-- ATTACKED, as the class says it -/
theorem hit_c {q sd : Int32} {ro : Int} (H : LOk L) (HM : MOk L M) (w6 : hR h (V 6) 1 = some (V 11)) (wc : WCf V h) (T : WyT L V h) (Pc : VPc V h) (P : PosC h (V 34) (V 35) (V 36) M ro) (q0 : 0 ≤ q.toInt) (q1 : q.toInt < 64) (is : Rg 0 1 sd) (e : sX5_isHit F h (V 6) (V 4) q sd = some o) : o.2 = h ∧ ((o.1 = 0 ∧ ¬ AttP L M sd.toInt q.toNatClampNeg) ∨ (o.1 = 1 ∧ AttP L M sd.toInt q.toNatClampNeg)) := by
  have z0 : (0 : Int32).toInt = 0 := rfl
  have sq := sq_64 H
  have s0 := is.1
  have s1 := is.2
  have cs := nc_i s0
  unfold sX5_isHit at e
  replace e := ce_e Pc.2.1 e
  replace e := gg_e e
  replace e := ce_e Pc.2.1 e
  replace e := gg_e e
  replace e := nm_s e; obtain ⟨v5, u5, e⟩ := e
  replace e := ce_e Pc.2.1 e
  replace e := gg_e e
  replace e := nx_e e
  have bo : ∀ q, q < 64 → (bitJ v5 q = true ↔ 0 < M q) := fun q hq => by
    have c0 : (0 : Int32).toNatClampNeg = 0 := rfl
    have c1 : (1 : Int32).toNatClampNeg = 1 := rfl
    rw [u5, bj_or, Bool.or_eq_true, c0, c1, P.2.1 0 (by decide) q hq, P.2.1 1 (by decide) q hq]
    constructor
    · rintro (z | z)
      · exact z.1
      · exact z.1
    · intro z
      by_cases c : (M q - 1) % 2 = 0
      · exact Or.inl ⟨z, c⟩
      · exact Or.inr ⟨z, by omega⟩
  obtain ⟨r1, r2⟩ := hitc_26 (sd := sd.toNatClampNeg) H HM w6 wc T Pc.1 P q0 q1 bo F (fun s hs b => (P.2.1 _ (by omega) s hs).mp b) (by decide) (fun s _ ls => by rw [z0] at ls; omega) e
  rw [cs] at r2
  refine ⟨r1, ?_⟩
  rcases r2 with ⟨a, b⟩ | r2
  · refine Or.inl ⟨a, ?_⟩
    rintro ⟨s, i, k, sL, m1, m2, i1, i2, lk⟩
    exact b s i (by omega) ((P.2.1 _ (by omega) s (by omega)).mpr ⟨m1, by rw [m2, cs]⟩) ⟨i1, i2, k, by rw [m2]; exact lk⟩
  · exact Or.inr r2
end
