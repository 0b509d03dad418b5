section
/-! the class: what watches the ROYAL man -/
abbrev wsv : List (Nat × Nat) := [(6, 8), (6, 9)]
def SvM (V : Nat → Nat) (h g : Hp) : Prop := (∀ q, q < 64 → bitJ (hJ h (V 6) 8) q = true → bitJ (hJ g (V 6) 8) q = true) ∧ (hI g (V 6) 9 = 1 → hI h (V 6) 9 = 1) ∧ (hI g (V 6) 9 = 0 ∨ hI g (V 6) 9 = 1)
theorem svm_t {V : Nat → Nat} {h g k : Hp} (a : SvM V h g) (b : SvM V g k) : SvM V h k := ⟨fun q hq z => b.1 q hq (a.1 q hq z), fun z => a.2.1 (b.2.1 z), b.2.2⟩
section
variable {F : Nat} {V : Nat → Nat} {L : Nat → Nat → Int} {M : Nat → Int} {h0 o : Hp}
theorem sv_135 (D : VD V) {K : Hp → Nat → Int32 → Int64 → Int64 → Int32 → Option Hp} {x1 x6 x11 : Int32} {occ x4 : Int64} {c s t a b : Nat} {I : Nat → Nat} (H : LOk L) (w6 : hR h0 (V 6) 1 = some (V 11)) (wc : WCf V h0) (cL : (c : Int) < 2 * L 2 0) (sL : (s : Int) < L 0 0 * L 1 0) (ht : t < 64) (e11 : rowN h0 (V 50) (x11 + (1 : Int32)).toNatClampNeg = b) (nn : 0 ≤ (hI h0 (V 50) (x11 + (1 : Int32)).toNatClampNeg).toInt) (bo : ∀ q, q < 64 → (bitJ occ q = true ↔ 0 < M q)) (II : ∀ w, a ≤ w → w < b → ((I w : Nat) : Int) < L 74 (c / 2) ∧ WyE L V h0 c s t (I w) w) : ∀ (f : Nat) {h : Hp} {x12 : Int32}, FrV V (wl wsv) h0 h → (hI h (V 6) 9 = 0 ∨ hI h (V 6) 9 = 1) → 0 ≤ x12.toInt → a ≤ x12.toNatClampNeg → sX5_survey_135 F K f h (V 6) x1 occ x4 x6 x11 x12 = some o → ∃ g, FrV V (wl wsv) h0 g ∧ SvM V h g ∧ (∀ w, x12.toNatClampNeg ≤ w → w < b → fbt (L 75 (8 * (c / 2) + I w)) 0 = false → (∀ q, q < 64 → bitJ (hJ h0 (V 52) w) q = true → bitJ (hJ g (V 6) 8) q = true) ∧ (hI g (V 6) 9 = 1 → ¬ ∃ k, Led L M (8 * (c / 2) + I w) ((c % 2 : Nat) : Int) s t k)) ∧ sX5_survey_224 F K g (V 6) x1 occ x4 x6 = some o := by
  have z1 : (1 : Int32).toInt = 1 := rfl
  have mL : ((c / 2 : Nat) : Int) < L 2 0 := by omega
  obtain ⟨H74, Hst⟩ := H.2.2.2 _ mL
  have cb := nc_i nn
  intro f
  induction f with
  | zero => intro h x12 _ _ _ _ e; exact absurd e (by rw [sX5_survey_135]; exact fun z => nomatch z)
  | succ f ih =>
    intro h x12 A c9 a12 la e
    have c12 := nc_i a12
    rw [sX5_survey_135] at e
    replace e := ce_e (by rw [A.1]; exact w6) e
    replace e := ce_e (by rw [A.1]; exact wc.1) e
    replace e := gg_e e
    rcases br_s e with ⟨l, e⟩ | ⟨l, e⟩ <;> rw [fvI D A 50 (x11 + (1 : Int32)).toNatClampNeg] at l
    · have l := le_i l
      refine ⟨h, A, ⟨fun _ _ z => z, fun z => z, c9⟩, fun w x y => ?_, e⟩
      unfold rowN at e11
      omega
    have l := nle_i l
    have lb : x12.toNatClampNeg < b := by unfold rowN at e11; omega
    obtain ⟨iL, k, rk, wd, bt⟩ := II _ la lb
    have J : StR L (8 * (c / 2) + I x12.toNatClampNeg) := Hst _ iL
    have kr := rk.2.2.1
    have k1 := rk.2.1
    have r7 := J.2.2.2.2.1
    obtain ⟨wd1, _⟩ := wd_e ht J.1 ⟨by omega, by omega⟩ wd
    have bd : ∀ x, (hI h0 (V 50) x).toInt ≤ 2147483647 := fun x => Int32.toInt_le _
    have t12 : (x12 + (1 : Int32)).toInt = x12.toInt + 1 := by
      have := bd (x11 + (1 : Int32)).toNatClampNeg
      rw [ta (by rw [z1]; omega), z1]
    have n12 : (x12 + (1 : Int32)).toNatClampNeg = x12.toNatClampNeg + 1 := by
      have := nc_i (x := x12 + (1 : Int32)) (by omega)
      omega
    have r51 : hI h (V 51) x12.toNatClampNeg = hI h0 (V 51) x12.toNatClampNeg := fvI D A 51 _
    -- on to the next way
    have nxt : ∀ {g : Hp}, FrV V (wl wsv) h0 g → SvM V h g → (fbt (L 75 (8 * (c / 2) + I x12.toNatClampNeg)) 0 = false → (∀ q, q < 64 → bitJ (hJ h0 (V 52) x12.toNatClampNeg) q = true → bitJ (hJ g (V 6) 8) q = true) ∧ (hI g (V 6) 9 = 1 → ¬ ∃ k, Led L M (8 * (c / 2) + I x12.toNatClampNeg) ((c % 2 : Nat) : Int) s t k)) → sX5_survey_135 F K f g (V 6) x1 occ x4 x6 x11 (x12 + (1 : Int32)) = some o → ∃ g, FrV V (wl wsv) h0 g ∧ SvM V h g ∧ (∀ w, x12.toNatClampNeg ≤ w → w < b → fbt (L 75 (8 * (c / 2) + I w)) 0 = false → (∀ q, q < 64 → bitJ (hJ h0 (V 52) w) q = true → bitJ (hJ g (V 6) 8) q = true) ∧ (hI g (V 6) 9 = 1 → ¬ ∃ k, Led L M (8 * (c / 2) + I w) ((c % 2 : Nat) : Int) s t k)) ∧ sX5_survey_224 F K g (V 6) x1 occ x4 x6 = some o := fun {g} G S here u => by
      obtain ⟨g', G', S', r', u'⟩ := ih G S.2.2 (by omega) (by omega) u
      refine ⟨g', G', svm_t S S', fun w p p' nt => ?_, u'⟩
      by_cases z : w = x12.toNatClampNeg
      · rw [z] at nt ⊢
        obtain ⟨h1, h2⟩ := here nt
        exact ⟨fun q hq b => S'.1 q hq (h1 q hq b), fun y => h2 (S'.2.1 y)⟩
      · exact r' w (by omega) p' nt
    replace e := ce_e (by rw [A.1]; exact w6) e
    replace e := ce_e (by rw [A.1]; exact wc.2.1) e
    replace e := gg_e e
    unfold sX5_survey_214 sX5_survey_215 sX5_survey_218 at e
    rcases br_s e with ⟨z, e⟩ | ⟨z, e⟩ <;> rw [r51, wd1] at z
    rotate_left
    · exact nxt A ⟨fun _ _ z => z, fun z => z, c9⟩ (fun y => absurd y z) (nx_e e)
    replace e := ce_e (by rw [A.1]; exact w6) e
    replace e := ce_e (by rw [A.1]; exact wc.2.2.1) e
    replace e := gg_e e
    replace e := nm_s e; obtain ⟨g1, u1, e⟩ := e
    have A1 : FrV V (wl [(6, 8)]) h g1 := by rw [u1]; exact fv_j rfl
    have B1 : FrV V (wl wsv) h0 g1 := fv_t A (fv_s A1 (by decide))
    have b8 : ∀ q, bitJ (hJ g1 (V 6) 8) q = (bitJ (hJ h (V 6) 8) q || bitJ (hJ h0 (V 52) x12.toNatClampNeg) q) := fun q => by
      rw [u1, r_J, if_pos ⟨rfl, rfl⟩, bj_or, fvJ D A 52 x12.toNatClampNeg]
    have i9 : hI g1 (V 6) 9 = hI h (V 6) 9 := fvi D A1 6 9
    -- the flag behind it
    have fin : ∀ {v : Int32}, (v = 0 ∨ v = 1) → (v = 1 → hI h (V 6) 9 = 1 ∧ ¬ ∃ k, Led L M (8 * (c / 2) + I x12.toNatClampNeg) ((c % 2 : Nat) : Int) s t k) → sX5_survey_135 F K f (wI g1 (V 6) 9 v) (V 6) x1 occ x4 x6 x11 (x12 + (1 : Int32)) = some o → ∃ g, FrV V (wl wsv) h0 g ∧ SvM V h g ∧ (∀ w, x12.toNatClampNeg ≤ w → w < b → fbt (L 75 (8 * (c / 2) + I w)) 0 = false → (∀ q, q < 64 → bitJ (hJ h0 (V 52) w) q = true → bitJ (hJ g (V 6) 8) q = true) ∧ (hI g (V 6) 9 = 1 → ¬ ∃ k, Led L M (8 * (c / 2) + I w) ((c % 2 : Nat) : Int) s t k)) ∧ sX5_survey_224 F K g (V 6) x1 occ x4 x6 = some o := fun {v} hv h1 u => by
      have v9 : hI (wI g1 (V 6) 9 v) (V 6) 9 = v := by rw [r_I, if_pos ⟨rfl, rfl⟩]
      have v8 : hJ (wI g1 (V 6) 9 v) (V 6) 8 = hJ g1 (V 6) 8 := rfl
      refine nxt (fv_t B1 (fv_w rfl)) ⟨fun q _ z => by rw [v8, b8 q, z]; rfl, fun z => by rw [v9] at z; exact (h1 z).1, by rw [v9]; exact hv⟩ (fun _ => ⟨fun q _ z => by rw [v8, b8 q, z, Bool.or_true], fun z => by rw [v9] at z; exact (h1 z).2⟩) u
    rcases br_s e with ⟨y, e⟩ | ⟨y, e⟩
    · replace e := gg_e e
      exact fin (Or.inl rfl) (fun z => absurd z (by decide)) (nx_e (nx_e e))
    have h9 : hI h (V 6) 9 = 1 := by
      rw [i9] at y
      rcases c9 with w | w
      · exact absurd w y
      · exact w
    replace e := ce_e (by rw [B1.1]; exact w6) e
    replace e := cl_s e; obtain ⟨o15, eo15, e⟩ := e
    obtain ⟨w15, q15⟩ := op_v (h := g1) (M := M) H J (wcf_f wc B1) sL ht rk (by rw [fvI D B1 51 x12.toNatClampNeg]; exact wd) (by rw [fvJ D B1 52 x12.toNatClampNeg]; exact bt) bo eo15
    rw [w15] at e
    have led : cnP M s (((t : Int) - s) / k) (k - 1).toNat = ovN L (8 * (c / 2) + I x12.toNatClampNeg) ↔ ∃ k, Led L M (8 * (c / 2) + I x12.toNatClampNeg) ((c % 2 : Nat) : Int) s t k := by
      constructor
      · exact fun z => ⟨k, rk, z⟩
      · rintro ⟨k', rk', z⟩
        have : k' = k := rch_u J.2.2.2.1 rk'.2 rk.2
        rw [this] at z
        exact z
    rcases q15 with ⟨q1, q2⟩ | ⟨q1, q2⟩
    · replace e := bp_e q1 e
      replace e := gg_e e
      exact fin (Or.inr rfl) (fun _ => ⟨h9, fun z => q2 (led.mpr z)⟩) (nx_e (nx_e e))
    · replace e := bn_e (by rw [q1]; decide) e
      replace e := gg_e e
      exact fin (Or.inl rfl) (fun z => absurd z (by decide)) (nx_e (nx_e e))
/-- what a man watches on his ways to a square -/
def WtB (L : Nat → Nat → Int) (M : Nat → Int) (t : Nat) (x : Int64) (s : Nat) : Prop := ∀ (i : Nat) (k : Int) (j q : Nat), (i : Int) < L 74 (mnO (M s)) → fbt (L 75 (8 * mnO (M s) + i)) 0 = false → RchL L (8 * mnO (M s) + i) ((M s - 1) % 2) s t k → 1 ≤ j → (j : Int) < k → q < 64 → (q : Int) = s + j * (((t : Int) - s) / k) → bitJ x q = true
theorem sv_30 (D : VD V) {x1 : Int32} {occ : Int64} {sd t : Nat} {ro : Int} (H : LOk L) (HM : MOk L M) (w6 : hR h0 (V 6) 1 = some (V 11)) (w4 : hR h0 (V 6) 4 = some (V 4)) (wc : WCf V h0) (T : WyT L V h0) (e0 : hR h0 (V 4) 0 = some (V 34)) (P : PosC h0 (V 34) (V 35) (V 36) M ro) (et : x1.toInt = (t : Int)) (t64 : t < 64) (bo : ∀ q, q < 64 → (bitJ occ q = true ↔ 0 < M q)) : ∀ (f : Nat) {h : Hp} {x4 : Int64} {x6 : Int32}, FrV V (wl wsv) h0 h → (hI h (V 6) 9 = 0 ∨ hI h (V 6) 9 = 1) → (∀ s, s < 64 → bitJ x4 s = true → 0 < M s ∧ (M s - 1) % 2 = (sd : Int)) → 0 ≤ x6.toInt → (∀ s : Nat, s < 64 → (s : Int) < x6.toInt → bitJ x4 s = false) → sX5_survey_30 F f h (V 6) x1 occ x4 x6 = some o → FrV V (wl wsv) h0 o ∧ SvM V h o ∧ ∀ s, s < 64 → bitJ x4 s = true → WtB L M t (hJ o (V 6) 8) s ∧ (hI o (V 6) 9 = 1 → ∀ i, ¬ AttI L M (M s) s t i) := by
  have z1 : (1 : Int32).toInt = 1 := rfl
  have z64 : (64 : Int32).toInt = 64 := rfl
  have sq := sq_64 H
  have L2 := H.2.2.1
  intro f
  induction f with
  | zero => intro h x4 x6 _ _ _ _ _ e; exact absurd e (by rw [sX5_survey_30]; exact fun z => nomatch z)
  | succ f ih =>
    intro h x4 x6 A c9 B6 a8 lo e
    rw [sX5_survey_30] at e
    unfold sX5_survey_230 at e
    have none : (∀ s, s < 64 → bitJ x4 s = false) → some h = some o → FrV V (wl wsv) h0 o ∧ SvM V h o ∧ ∀ s, s < 64 → bitJ x4 s = true → WtB L M t (hJ o (V 6) 8) s ∧ (hI o (V 6) 9 = 1 → ∀ i, ¬ AttI L M (M s) s t i) := fun z u => by
      rw [so_e u]
      exact ⟨A, ⟨fun _ _ z => z, fun z => z, c9⟩, fun s hs b => by rw [z s hs] at b; exact absurd b (by decide)⟩
    rcases br_s e with ⟨l, e⟩ | ⟨l, e⟩
    · have l := le_i l
      rw [z64] at l
      exact none (fun s hs => lo s hs (by omega)) e
    have l := nle_i l
    rw [z64] at l
    rcases br_s e with ⟨z, e⟩ | ⟨z, e⟩
    · exact none (j_zero.mp (cmp_eq z)) e
    have nz := cmp0 z
    obtain ⟨k, hk, pk, kl, el⟩ := low_min nz
    replace e := nm_s e; obtain ⟨v3, u3, e⟩ := e
    rw [el] at u3
    replace e := nm_s e; obtain ⟨v4, u4, e⟩ := e
    have b4 : ∀ s, s < 64 → bitJ v4 s = (bitJ x4 s && !decide (k = s)) := fun s hs => by
      rw [u4, u3, bj_xor, bj_pow hk]
      by_cases c : k = s
      · rw [decide_eq_true c, ← c, pk]; rfl
      · rw [decide_eq_false c]; cases bitJ x4 s <;> rfl
    replace e := gg_e e
    replace e := nm_s e; obtain ⟨v6, u6, e⟩ := e
    rw [u3, sq_pow hk] at u6
    have c6 : v6.toNatClampNeg = k := by rw [u6, z_clamp (by omega)]
    have t6 : v6.toInt = (k : Int) := by rw [u6, z_toInt (by omega)]
    replace e := ce_e (by rw [A.1]; exact w4) e
    replace e := ce_e (by rw [A.1]; exact e0) e
    replace e := gg_e e
    replace e := nm_s e; obtain ⟨v9, u9, e⟩ := e
    rw [c6, fvI D A 34 k] at u9
    obtain ⟨mk, sk⟩ := B6 k hk pk
    have on9 : v9.toInt = M k - 1 := by rw [u9]; exact P.1 k hk
    obtain ⟨kL, m2⟩ := (HM k hk).2 mk
    have c9' := nc_i (x := v9) (by omega)
    have c9d : v9.toNatClampNeg / 2 = mnO (M k) := by unfold mnO; omega
    have c9m : ((v9.toNatClampNeg % 2 : Nat) : Int) = (M k - 1) % 2 := by omega
    have cL : (v9.toNatClampNeg : Int) < 2 * L 2 0 := by omega
    obtain ⟨⟨nn1, nn2⟩, cw, _, hf⟩ := T v9.toNatClampNeg k t cL kL t64
    have m64 : (v9 * (64 : Int32)).toInt = v9.toInt * 64 := by rw [tm (by rw [z64]; omega), z64]
    have a64 : ((v9 * (64 : Int32)) + x1).toInt = v9.toInt * 64 + t := by rw [ta (by rw [m64, et]; omega), m64, et]
    have i54 : ((v9 * (64 : Int32)) + x1).toNatClampNeg = v9.toNatClampNeg * 64 + t := by
      have := nc_i (x := (v9 * (64 : Int32)) + x1) (by omega)
      omega
    replace e := ce_e (by rw [A.1]; exact w6) e
    replace e := ce_e (by rw [A.1]; exact wc.2.2.2.2.1) e
    replace e := gg_e e
    rw [i54, fvJ D A 54 (v9.toNatClampNeg * 64 + t)] at e
    have t8 : (x6 + (1 : Int32)).toInt = x6.toInt + 1 := by rw [ta (by rw [z1]; omega), z1]
    -- on to the next man
    have nxt : ∀ {g : Hp}, FrV V (wl wsv) h0 g → SvM V h g → (WtB L M t (hJ g (V 6) 8) k ∧ (hI g (V 6) 9 = 1 → ∀ i, ¬ AttI L M (M k) k t i)) → sX5_survey_224 F (sX5_survey_30 F f) g (V 6) x1 occ v4 x6 = some o → FrV V (wl wsv) h0 o ∧ SvM V h o ∧ ∀ s, s < 64 → bitJ x4 s = true → WtB L M t (hJ o (V 6) 8) s ∧ (hI o (V 6) 9 = 1 → ∀ i, ¬ AttI L M (M s) s t i) := fun {g} G S no u => by
      unfold sX5_survey_224 at u
      obtain ⟨r1, r2, r3⟩ := ih (x4 := v4) G S.2.2 (fun s hs b => B6 s hs (by
        rw [b4 s hs, Bool.and_eq_true] at b
        exact b.1)) (by omega) (fun s hs ls => by
        rw [b4 s hs]
        by_cases c : s < k
        · rw [kl s c]; rfl
        · by_cases d : k = s
          · rw [decide_eq_true d]; cases bitJ x4 s <;> rfl
          · have ks : k < s := by omega
            have : (k : Int) < x6.toInt := by omega
            rw [lo k hk this] at pk
            exact absurd pk (by decide)) (nx_e u)
      refine ⟨r1, svm_t S r2, fun s hs bs => ?_⟩
      by_cases c : k = s
      · rw [← c]
        exact ⟨fun i k' j q a b d e f g' h' => r2.1 q g' (no.1 i k' j q a b d e f g' h'), fun z => no.2 (r2.2.1 z)⟩
      · exact r3 s hs (by rw [b4 s hs, bs, decide_eq_false c]; rfl)
    have hb : lg_cmp ((hJ h0 (V 54) (v9.toNatClampNeg * 64 + t)) &&& v3) (0 : Int64) = 0 ↔ ¬ bitJ (hJ h0 (V 54) (v9.toNatClampNeg * 64 + t)) k = true := by
      have cz : ∀ y : Int64, lg_cmp y (0 : Int64) = 0 ↔ y = 0 := fun y => ⟨cmp_eq, fun z => by rw [z]; decide⟩
      rw [cz, j_zero]
      constructor
      · intro y b
        have := y k hk
        rw [bj_and, b, u3, bj_pow hk, decide_eq_true rfl] at this
        exact absurd this (by decide)
      · intro y s hs
        rw [bj_and, u3, bj_pow hk]
        by_cases c : k = s
        · rw [← c]
          cases d : bitJ (hJ h0 (V 54) (v9.toNatClampNeg * 64 + t)) k with
          | false => rfl
          | true => exact absurd d y
        · rw [decide_eq_false c, Bool.and_false]
    rcases br_s e with ⟨c, e⟩ | ⟨c, e⟩
    · have nh := hb.mp c
      rw [hf, c9d, c9m] at nh
      refine nxt A ⟨fun _ _ z => z, fun z => z, c9⟩ ⟨fun i k' j q a b d e f g' h' => absurd ⟨i, k', a, b, d⟩ nh, fun _ i z => nh ?_⟩ e
      obtain ⟨z1, z2, k', z3⟩ := z
      exact ⟨i, k', z1, z2, z3.1⟩
    unfold sX10_cell at e
    replace e := cl_s e; obtain ⟨o15, eo15, e⟩ := e
    rw [so_e eo15] at e
    have b64 : ((v9 * (64 : Int32)) + v6).toInt = v9.toInt * 64 + k := by rw [ta (by rw [m64, t6]; omega), m64, t6]
    have d64 : (((v9 * (64 : Int32)) + v6) * (64 : Int32)).toInt = (v9.toInt * 64 + k) * 64 := by rw [tm (by rw [b64, z64]; omega), b64, z64]
    obtain ⟨v14, u14⟩ : ∃ v14, v14 = (((v9 * (64 : Int32)) + v6) * (64 : Int32)) + x1 := ⟨_, rfl⟩
    have t14 : v14.toInt = (v9.toInt * 64 + k) * 64 + t := by rw [u14, ta (by rw [d64, et]; omega), d64, et]
    rw [← u14] at e
    have n14 : v14.toNatClampNeg = celN v9.toNatClampNeg k t := by
      unfold celN
      have := nc_i (x := v14) (by omega)
      omega
    have s14 : (v14 + (1 : Int32)).toInt = v14.toInt + 1 := by rw [ta (by rw [z1]; omega), z1]
    have n15 : (v14 + (1 : Int32)).toNatClampNeg = celN v9.toNatClampNeg k t + 1 := by
      have := nc_i (x := v14) (by omega)
      have := nc_i (x := v14 + (1 : Int32)) (by omega)
      omega
    replace e := ce_e (by rw [A.1]; exact w6) e
    replace e := ce_e (by rw [A.1]; exact wc.1) e
    replace e := gg_e e
    replace e := nm_s e; obtain ⟨v18, u18, e⟩ := e
    dsimp only at u18 e
    rw [n14, fvI D A 50 (celN v9.toNatClampNeg k t)] at u18
    obtain ⟨ab, I, I1, I2, I3⟩ := cw
    have c18 : v18.toNatClampNeg = rowN h0 (V 50) (celN v9.toNatClampNeg k t) := by rw [u18]; rfl
    obtain ⟨g, G, S, r, e⟩ := sv_135 (M := M) D H w6 wc cL kL t64 (by rw [n15]) (by rw [n15]; exact nn2) bo I1 F A c9 (by rw [u18]; exact nn1) (by rw [c18]; exact Nat.le_refl _) e
    refine nxt G S ⟨fun i k' j q a b d j1 jk hq eq => ?_, fun y i z => ?_⟩ e
    · rw [← c9d] at a b d
      rw [← c9m] at d
      obtain ⟨w, w1, w2, w3⟩ := I3 i k' a d
      obtain ⟨_, k2, rk2, _, bt2⟩ := I1 w w1 w2
      rw [w3] at rk2
      have J : StR L (8 * (v9.toNatClampNeg / 2) + i) := (H.2.2.2 _ (by omega)).2 i a
      have ek : k2 = k' := rch_u J.2.2.2.1 rk2.2 d.2
      rw [ek] at bt2
      exact (r w (by rw [c18]; exact w1) w2 (by rw [w3]; exact b)).1 q hq ((bt2 q hq).mpr ⟨j, j1, jk, eq⟩)
    · obtain ⟨z1, z2, k', z3⟩ := z
      rw [← c9d] at z1 z2 z3
      rw [← c9m] at z3
      obtain ⟨w, w1, w2, w3⟩ := I3 i k' z1 z3.1
      refine (r w (by rw [c18]; exact w1) w2 (by rw [w3]; exact z2)).2 y ⟨k', ?_⟩
      rw [w3]; exact z3
/-- all men of the other side -/
theorem sv_c (D : VD V) {x1 : Int32} {sd t : Nat} {ro : Int} (H : LOk L) (HM : MOk L M) (w6 : hR h0 (V 6) 1 = some (V 11)) (w4 : hR h0 (V 6) 4 = some (V 4)) (wc : WCf V h0) (T : WyT L V h0) (Pc : VPc V h0) (P : PosC h0 (V 34) (V 35) (V 36) M ro) (et : x1.toInt = (t : Int)) (t64 : t < 64) (isd : sd < 2) (es : (hI h0 (V 4) 5).toInt = (sd : Int)) (c9 : hI h0 (V 6) 9 = 0 ∨ hI h0 (V 6) 9 = 1) (e : sX5_survey F h0 (V 6) x1 = some o) : FrV V (wl wsv) h0 o ∧ SvM V h0 o ∧ (∀ s, s < 64 → 0 < M s → (M s - 1) % 2 = 1 - (sd : Int) → WtB L M t (hJ o (V 6) 8) s) ∧ (hI o (V 6) 9 = 1 → ¬ AttP L M (1 - (sd : Int)) t) := by
  have z0 : (0 : Int32).toInt = 0 := rfl
  have z1 : (1 : Int32).toInt = 1 := rfl
  have sq := sq_64 H
  unfold sX5_survey sX3_occupied at e
  replace e := ce_e w4 e
  replace e := cl_s e; obtain ⟨o2, eo2, e⟩ := e
  replace eo2 := ce_e Pc.2.1 eo2
  replace eo2 := gg_e eo2
  replace eo2 := ce_e Pc.2.1 eo2
  replace eo2 := gg_e eo2
  rw [so_e eo2] at e
  have bo := occ_b (v := (hJ h0 (V 35) 0) ||| (hJ h0 (V 35) 1)) P.2.1 rfl
  replace e := ce_e w4 e
  replace e := ce_e Pc.2.1 e
  replace e := ce_e w4 e
  replace e := gg_e e
  have s1 : ((1 : Int32) - (hI h0 (V 4) 5)).toInt = ((1 - sd : Nat) : Int) := by rw [ts (by rw [z1, es]; omega), z1, es]; omega
  have cs : ((1 : Int32) - (hI h0 (V 4) 5)).toNatClampNeg = 1 - sd := by have := nc_i (x := (1 : Int32) - (hI h0 (V 4) 5)) (by omega); omega
  replace e := nm_s e; obtain ⟨v7, u7, e⟩ := e
  dsimp only at u7 e
  rw [cs] at u7
  have b7 : ∀ s, s < 64 → (bitJ v7 s = true ↔ (0 < M s ∧ (M s - 1) % 2 = ((1 - sd : Nat) : Int))) := fun s hs => by rw [u7]; exact P.2.1 (1 - sd) (by omega) s hs
  obtain ⟨r1, r2, r3⟩ := sv_30 (sd := 1 - sd) D H HM w6 w4 wc T Pc.1 P et t64 bo F fv_0 c9 (fun s hs b => (b7 s hs).mp b) (by decide) (fun s _ ls => by rw [z0] at ls; omega) e
  refine ⟨r1, r2, fun s hs m0 m1 => (r3 s hs ((b7 s hs).mpr ⟨m0, by omega⟩)).1, fun y => ?_⟩
  rintro ⟨s, i, k, sL, m1, m2, i1, i2, lk⟩
  exact (r3 s (by omega) ((b7 s (by omega)).mpr ⟨m1, by omega⟩)).2 y i ⟨i1, i2, k, by rw [m2]; exact lk⟩
end
end
section
/-! a man who neither is ROYAL nor stands on a watched square may go -/
section
variable {L : Nat → Nat → Int} {P : Pz} {v : MvT}
theorem sh_t3 {M : Nat → Int} {p0 : Nat} {cas sd : Int} (k3 : v.2.2.2.2.2.1 = 3) : shM M p0 cas sd v v.2.1.toNat = cdV v.2.2.1 sd := by
  unfold shM
  rw [if_pos k3, upm_s]
theorem sh_s0 {M : Nat → Int} {p0 : Nat} {cas sd : Int} (n3 : ¬ v.2.2.2.2.2.1 = 3) (ne : ¬ v.1.toNat = v.2.1.toNat) : shM M p0 cas sd v v.1.toNat = 0 := by
  unfold shM
  rw [if_neg n3, upm_o ne, upm_s]
theorem sh_p0 {M : Nat → Int} {p0 : Nat} {cas sd : Int} (k1 : v.2.2.2.2.2.1 = 1) (n1 : ¬ p0 = v.1.toNat) (n2 : ¬ p0 = v.2.1.toNat) : shM M p0 cas sd v p0 = 0 := by
  unfold shM mdM
  rw [if_neg (by omega), upm_o n2, upm_o n1, if_neg (by omega), if_pos k1, upm_s]
theorem led_cg {M M' : Nat → Int} {j : Nat} {sd : Int} {s t : Nat} {k : Int} (H : LOk L) (sL : (s : Int) < L 0 0 * L 1 0) (e : ∀ i : Nat, 1 ≤ i → (i : Int) < k → M' ((s : Int) + i * (((t : Int) - s) / k)).toNat = M ((s : Int) + i * (((t : Int) - s) / k)).toNat) (l : Led L M' j sd s t k) : Led L M j sd s t k := by
  refine ⟨l.1, ?_⟩
  rw [← l.2]
  have k1 := l.1.2.1
  exact cnp_c _ (fun i i1 i2 => by rw [e i i1 (by omega)])
theorem sf_calm {x : Int64} (H : LOk L) (K : LawK L) (O : PzOk L P) (G : MvGd L P v) (cal : L 10 0 = -1 ∨ (L 18 0 = 0 ∧ L 17 0 = 0)) (k2 : ¬ v.2.2.2.2.2.1 = 2) (nr : ¬ v.2.2.1 = L 10 0) (na : ∀ r, r < 64 → 0 ≤ L 10 0 → P.1 r = 1 + 2 * L 10 0 + pzS P → ¬ AttP L P.1 (1 - (pzS P : Int)) r ∧ ∀ s, s < 64 → 0 < P.1 s → (P.1 s - 1) % 2 = 1 - (pzS P : Int) → WtB L P.1 r x s) (dis : ∀ q, q < 64 → shT (pzQ P 0) v q → bitJ x q = false) : sfP L P v := by
  have sq := sq_64 H
  have isd := isd_i O
  have kk := mvgd_k G
  have t0 := G.1.1
  rcases cal with r1 | ⟨b0, s0⟩
  · exact ⟨fun ⟨_, _, r, _⟩ => by omega, Or.inr (fun ⟨_, _, r, _⟩ => by omega)⟩
  have em : mkM L P v = zMen P v := if_pos (Or.inl b0)
  obtain ⟨mo, un⟩ := zmen_ok H K O G
  have ze := zmen_e H G
  refine ⟨fun ⟨r, r64, r0, mr⟩ => ?_, Or.inl s0⟩
  -- no own man stands on a touched square but himself
  have own : ∀ q, q < 64 → 0 < P.1 q → (P.1 q - 1) % 2 = (pzS P : Int) → ¬ P.1 q = cdV v.2.2.1 (pzS P) → ¬ shT (pzQ P 0) v q := fun q q64 m0 m1 m2 z => by
    rcases z with z | ⟨n3, z⟩ | ⟨k1, z⟩ | ⟨kk2, _⟩
    · rw [z] at m0 m1
      rcases kk with k | k | k | k
      · exact (G.2.2.2.1 k).2 m0 m1
      · have := (G.2.2.2.2.1 k).2.1; omega
      · exact k2 k
      · have := (G.2.2.2.2.2.2.1 k).2.2.2.1; omega
    · rw [z] at m2
      exact m2 (mvgd_s G n3).2
    · have p := (p0_ne O G k1)
      rcases O.2.2.2.2.1 with y | y
      · have := (G.2.2.2.2.1 k1).1; omega
      · rw [z] at m1
        exact y.2.2.2.2.1 m1
    · exact k2 kk2
  have nr' : ¬ shT (pzQ P 0) v r := own r r64 (by omega) (by omega) (by unfold cdV; omega)
  have er : mkM L P v r = P.1 r := by
    rw [em, ze r r64]
    exact shm_o nr'
  refine ⟨⟨r, r64, r0, by rw [er]; exact mr⟩, Or.inr ?_⟩
  rintro ⟨r', r64', _, mr', at'⟩
  have : r' = r := by
    rw [em] at mr' er
    exact un r0 (pzS P) r' r O.2.2.1 r64' r64 mr' (by rw [er]; exact mr)
  rw [this, em] at at'
  obtain ⟨nat, wt⟩ := na r r64 r0 mr
  obtain ⟨s, i, k, sL, m0, m1, i1, i2, ld⟩ := at'
  have s64 : s < 64 := by omega
  -- who attacks stood there before
  have ns : ¬ shT (pzQ P 0) v s := fun z => by
    rw [ze s s64] at m0 m1
    rcases z with z | ⟨n3, z⟩ | ⟨k1, z⟩ | ⟨kk2, _⟩
    · rw [z] at m1
      by_cases k3 : v.2.2.2.2.2.1 = 3
      · rw [sh_t3 k3] at m1
        unfold cdV at m1
        omega
      · rw [sh_t k3] at m1
        unfold nwV cdV at m1
        omega
    · have ne := G.2.2.2.2.2.2.2.2 n3
      have s1 := (mvgd_s G n3).1
      rw [z, sh_s0 n3 (by omega)] at m0
      omega
    · have p := p0_ne O G k1
      rw [z, sh_p0 k1 p.1 p.2.1] at m0
      omega
    · exact k2 kk2
  have es : zMen P v s = P.1 s := by
    rw [ze s s64]
    exact shm_o ns
  rw [es] at m0 m1 i1 i2 ld
  refine nat ⟨s, i, k, sL, m0, m1, i1, i2, led_cg H sL (fun j j1 jk => ?_) ld⟩
  have on' := pth_on H sL ld.1 (i := (j : Int)) (by omega) (by omega)
  obtain ⟨q, eq⟩ : ∃ q : Nat, (q : Int) = (s : Int) + j * (((r : Int) - s) / k) := ⟨((s : Int) + j * (((r : Int) - s) / k)).toNat, by omega⟩
  rw [← eq, show ((q : Int)).toNat = q by omega]
  have q64 : q < 64 := by omega
  have rc := ld.1
  rw [← m1] at rc
  have bq := wt s s64 m0 m1 i k j q i1 i2 rc j1 jk q64 eq
  rw [ze q q64]
  refine shm_o (fun z => ?_)
  rw [dis q q64 z] at bq
  exact absurd bq (by decide)
/-- men behind a move, by the way of the class -/
theorem blm_cg {M M' : Nat → Int} {t q : Nat} (e : M' q = M q) : blM L M' t q = blM L M t q := by
  have b : BlS L M' t q ↔ BlS L M t q := by
    unfold BlS
    rw [e]
  by_cases c : BlS L M t q
  · rw [blm_y c, blm_y (b.mpr c)]
  · rw [blm_n c, blm_n (fun z => c (b.mp z)), e]
theorem mkm_sh (H : LOk L) (G : MvGd L P v) {s : Nat} (hs : s < 64) : mkM L P v s = (if L 18 0 = 0 ∨ v.2.2.2.2.1 = -1 then shM P.1 (pzQ P 0) (L 12 0) (pzS P) v else blM L (shM P.1 (pzQ P 0) (L 12 0) (pzS P) v) v.2.1.toNat) s := by
  unfold mkM
  split
  · exact zmen_e H G s hs
  · exact blm_cg (zmen_e H G s hs)
end
end
section
/-! the class: what it needs while it collects moves -/
/-- its RULES are these numbers -/
def CLwC (V : Nat → Nat) (h : Hp) (L : Nat → Nat → Int) : Prop := CLq V h L ∧ CLx V h L ∧ ((hI h (V 2) 4).toInt = L 10 0 ∧ (hI h (V 2) 5).toInt = L 11 0 ∧ (hI h (V 2) 6).toInt = L 12 0 ∧ (hI h (V 2) 7).toInt = L 20 0 ∧ (hI h (V 2) 8).toInt = L 22 0 ∧ (hI h (V 2) 9).toInt = L 23 0 ∧ (hI h (V 2) 11).toInt = L 19 0) ∧ (hR h (V 2) 19 = some (V 32) ∧ hR h (V 2) 20 = some (V 33)) ∧ (∀ q, q < 64 → (bitJ (hJ h (V 2) 13) q = true ↔ L 100 q = 1)) ∧ (hR h (V 2) 14 = some (V 27) ∧ ∀ m : Nat, (m : Int) < L 2 0 → (hI h (V 27) m).toInt = L 73 m)
/-- its ways -/
def CWy (V : Nat → Nat) (h : Hp) (L : Nat → Nat → Int) : Prop := (hR h (V 6) 0 = some (V 2) ∧ hR h (V 6) 1 = some (V 11)) ∧ WCf V h ∧ WyT L V h ∧ AroT L V h
def CcW (V : Nat → Nat) (h : Hp) (L : Nat → Nat → Int) (P : Pz) : Prop := CWy V h L ∧ CLwC V h L ∧ CpP V h (L 10 0) P ∧ (hR h (V 6) 4 = some (V 4) ∧ hR h (V 6) 5 = some (V 47) ∧ hN h (V 47) = 4096) ∧ hR h (V 6) 3 = some (V 204) ∧ VPc (vC V) h
/-- keys of the RULES and of the ways -/
abbrev kLw : List Nat := [2, 27, 28, 29, 30, 31, 32, 33, 50, 51, 52, 53, 54, 55]
abbrev wcq : List (Nat × Nat) := [(7, 2), (6, 6), (6, 7), (6, 8), (6, 9), (47, 999), (204, 5), (204, 6), (204, 7), (204, 8), (204, 9), (204, 10), (234, 999), (235, 999), (236, 999), (237, 999), (238, 999)]
section
variable {V : Nat → Nat} {L : Nat → Nat → Int} {h o : Hp} {P : Pz} {Ls : List (Nat × Nat)}
theorem clx_k (C : CLx V h L) (a : ∀ i, hI o (V 31) i = hI h (V 31) i) (b : ∀ i, hI o (V 30) i = hI h (V 30) i) (c : hI o (V 2) 10 = hI h (V 2) 10) (d : ∀ x i, hR o x i = hR h x i) : CLx V o L := by
  refine ⟨fun m hm => ?_, by rw [c]; exact C.2.1, by rw [d]; exact C.2.2.1, by rw [d]; exact C.2.2.2⟩
  rw [a]
  refine ⟨(C.1 m hm).1, (C.1 m hm).2.1, fun q hq => ?_⟩
  rw [b]
  exact (C.1 m hm).2.2 q hq
theorem clw_fr (D : VD V) (C : CLwC V h L) (A : FrV V (wl Ls) h o) (n : ∀ p, p ∈ Ls → p.1 ∈ vql ∧ ¬ p.1 ∈ kLw) : CLwC V o L := by
  have hL : ∀ p, p ∈ Ls → p.1 ∈ vql := fun p hp => (n p hp).1
  have nk : ∀ k, k ∈ kLw → ∀ p, p ∈ Ls → ¬ p.1 = k := fun k hk p hp z => (n p hp).2 (by rw [z]; exact hk)
  obtain ⟨c1, c2, ⟨d4, d5, d6, d7, d8, d9, d11⟩, ⟨r19, r20⟩, hl, r14, lt⟩ := C
  have r2 : ∀ i, hI o (V 2) i = hI h (V 2) i := fun i => fvI D A 2 i (nk 2 (by decide)) (by decide) hL
  refine ⟨clw_f D c1 A (fun p hp => ⟨hL p hp, nk 2 (by decide) p hp, nk 28 (by decide) p hp, nk 29 (by decide) p hp, nk 32 (by decide) p hp, nk 33 (by decide) p hp⟩), clx_k c2 (fun i => fvI D A 31 i (nk 31 (by decide)) (by decide) hL) (fun i => fvI D A 30 i (nk 30 (by decide)) (by decide) hL) (r2 10) A.1, ⟨by rw [r2]; exact d4, by rw [r2]; exact d5, by rw [r2]; exact d6, by rw [r2]; exact d7, by rw [r2]; exact d8, by rw [r2]; exact d9, by rw [r2]; exact d11⟩, ⟨by rw [A.1]; exact r19, by rw [A.1]; exact r20⟩, fun q hq => by rw [fvJ D A 2 13 (nk 2 (by decide)) (by decide) hL]; exact hl q hq, by rw [A.1]; exact r14, fun m hm => by rw [fvI D A 27 m (nk 27 (by decide)) (by decide) hL]; exact lt m hm⟩
theorem cwy_fr (D : VD V) (C : CWy V h L) (A : FrV V (wl Ls) h o) (n : ∀ p, p ∈ Ls → p.1 ∈ vql ∧ ¬ p.1 ∈ kLw) : CWy V o L := by
  have hL : ∀ p, p ∈ Ls → p.1 ∈ vql := fun p hp => (n p hp).1
  have nk : ∀ k, k ∈ kLw → ∀ p, p ∈ Ls → ¬ p.1 = k := fun k hk p hp z => (n p hp).2 (by rw [z]; exact hk)
  obtain ⟨⟨a, b⟩, c, d, e⟩ := C
  refine ⟨⟨by rw [A.1]; exact a, by rw [A.1]; exact b⟩, wcf_f c A, wyt_k d (fun x => fvI D A 50 x (nk 50 (by decide)) (by decide) hL) (fun x => fvI D A 51 x (nk 51 (by decide)) (by decide) hL) (fun x => fvJ D A 52 x (nk 52 (by decide)) (by decide) hL) (fun x => fvJ D A 53 x (nk 53 (by decide)) (by decide) hL) (fun x => fvJ D A 54 x (nk 54 (by decide)) (by decide) hL), fun s q hs hq => ?_⟩
  rw [fvJ D A 55 s (nk 55 (by decide)) (by decide) hL]
  exact e s q hs hq
theorem ccw_f (D : VD V) (C : CcW V h L P) (A : FrV V (wl Ls) h o) (n : ∀ p, p ∈ Ls → p.1 ∈ vql ∧ ¬ p.1 ∈ kLw) (n' : ∀ p, p ∈ Ls → p.1 ∈ vql ∧ ¬ (p.1 = 4 ∧ ¬ p.2 = 7) ∧ ¬ p.1 = 34 ∧ ¬ p.1 = 35 ∧ ¬ p.1 = 36 ∧ ¬ p.1 = 37 ∧ ¬ p.1 = 38) (ln : hN o (V 47) = hN h (V 47)) : CcW V o L P := by
  obtain ⟨a, b, c, ⟨d4, d5, dn⟩, e, f⟩ := C
  exact ⟨cwy_fr D a A n, clw_fr D b A n, cpp_f D c A n', ⟨by rw [A.1]; exact d4, by rw [A.1]; exact d5, by rw [ln]; exact dn⟩, by rw [A.1]; exact e, ⟨by rw [A.1]; exact f.1, by rw [A.1]; exact f.2.1, by rw [A.1]; exact f.2.2.1, by rw [A.1]; exact f.2.2.2.1, by rw [A.1]; exact f.2.2.2.2⟩⟩
theorem ccw_q (D : VD V) (C : CcW V h L P) (A : FrV V (wl wcq) h o) (ln : hN o (V 47) = hN h (V 47)) : CcW V o L P := ccw_f D C A (by decide) (by decide) ln
/-- what addSteps and its like need -/
theorem cwd_cc (C : CcW V h L P) : CWd V h L P.1 (ovP P) := by
  obtain ⟨⟨⟨a0, a1⟩, a2, a3, a4⟩, ⟨b1, b2, _, ⟨_, b20⟩, _⟩, c, ⟨d4, d5, dn⟩, _, _⟩ := C
  refine ⟨⟨a0, a1, d4, d5, dn⟩, a2, a3, c.1, c.2.1, ⟨b1, b20⟩, b2, fun q hq => ?_⟩
  exact c.2.2.2.2.1.2 q
theorem rpc_cc (H : LOk L) (O : PzOk L P) (C : CpP V h (L 10 0) P) : RpC V h P.1 (ovP P) (pzQ P 0) := fun z => by
  have p := ov_p O z
  have sq := sq_64 H
  exact ⟨by omega, p.2.2.1, pzN P, pzQ P, C.2.2.2.2.1.1, by omega, rfl⟩
theorem wyt_v {V' : Nat → Nat} (a : V' 50 = V 50) (b : V' 51 = V 51) (c : V' 52 = V 52) (d : V' 53 = V 53) (e : V' 54 = V 54) (T : WyT L V h) : WyT L V' h := by
  unfold WyT CellW WyE at T ⊢
  rw [a, b, c, d, e]
  exact T
theorem wyt_vc (T : WyT L V h) : WyT L (vC V) h := wyt_v rfl rfl rfl rfl rfl T
theorem aro_vc (T : AroT L V h) : AroT L (vC V) h := T
theorem wcf_vc (T : WCf V h) : WCf (vC V) h := T
end
end
