section
/-! the class: blast -/
/-- a man whom blast leaves -/
def FrmL (L : Nat → Nat → Int) (m : Int) : Prop := ¬ (((Int32.ofInt (L 19 0)) >>> ((Int32.ofInt m) &&& 31)) &&& (1 : Int32)) = 0
/-- squares around a square -/
def ArP (L : Nat → Nat → Int) (t q : Nat) : Prop := ¬ q = t ∧ (q : Int) < L 0 0 * L 1 0 ∧ (-1 ≤ (q : Int) % L 0 0 - (t : Int) % L 0 0 ∧ (q : Int) % L 0 0 - (t : Int) % L 0 0 ≤ 1) ∧ (-1 ≤ (q : Int) / L 0 0 - (t : Int) / L 0 0 ∧ (q : Int) / L 0 0 - (t : Int) / L 0 0 ≤ 1)
def BlS (L : Nat → Nat → Int) (M : Nat → Int) (t q : Nat) : Prop := q = t ∨ (ArP L t q ∧ 0 < M q ∧ ¬ FrmL L ((M q - 1) / 2))
/-- men behind blast -/
noncomputable def blM (L : Nat → Nat → Int) (M : Nat → Int) (t : Nat) : Nat → Int := fun q => @ite _ (BlS L M t q) (Classical.propDecidable _) 0 (M q)
theorem blm_y {L : Nat → Nat → Int} {M : Nat → Int} {t q : Nat} (b : BlS L M t q) : blM L M t q = 0 := @if_pos _ (Classical.propDecidable _) b _ _ _
theorem blm_n {L : Nat → Nat → Int} {M : Nat → Int} {t q : Nat} (b : ¬ BlS L M t q) : blM L M t q = M q := @if_neg _ (Classical.propDecidable _) b _ _ _
def BkS (L : Nat → Nat → Int) (M : Nat → Int) (x : Int64) (q : Nat) : Prop := q < 64 ∧ bitJ x q = true ∧ ¬ FrmL L ((M q - 1) / 2)
section
variable {F : Nat} {V : Nat → Nat} {h o : Hp} {L : Nat → Nat → Int} {M : Nat → Int}
theorem low_v {x : Int64} {o : Int32 × Hp} (e : sX11_lowest h x = some o) (nz : ¬ lg_cmp x (0 : Int64) = 0) : o.2 = h ∧ ∃ k : Nat, k < 64 ∧ o.1.toInt = (k : Int) ∧ bitJ x k = true ∧ (∀ j, j < k → bitJ x j = false) ∧ ∀ s, s < 64 → bitJ (x &&& (x - (1 : Int64))) s = (bitJ x s && !decide (k = s)) := by
  obtain ⟨k, hk, pk, kl, el, r⟩ := low_rest (cmp0 nz)
  unfold sX11_lowest at e
  rw [el, sq_pow hk] at e
  rw [so_e (gg_e e)]
  exact ⟨rfl, k, hk, z_toInt (by omega), pk, kl, r⟩
theorem blk_58 (D : VD V) {sd : Int} : ∀ (f : Nat) {h : Hp} {M : Nat → Int} {x4 : Int64} {x6 : Int32}, ShW V h L M sd → (hI h (V 2) 11).toInt = L 19 0 → 0 ≤ x6.toInt → x6.toInt ≤ 64 → (∀ q : Nat, q < 64 → (q : Int) < x6.toInt → bitJ x4 q = false) → (∀ q, q < 64 → bitJ x4 q = true → 0 < M q) → sX5_blast_58 F f h (V 6) (V 4) x4 x6 = some o → FrV V (wl wcM) h o ∧ (∃ M', ShW V o L M' sd ∧ ∀ q, (BkS L M x4 q → M' q = 0) ∧ (¬ BkS L M x4 q → M' q = M q)) ∧ ∀ q, q < 64 → (bitJ (hJ o (V 4) 7) q = true ↔ bitJ (hJ h (V 4) 7) q = true ∨ BkS L M x4 q) := by
  have z1 : (1 : Int32).toInt = 1 := rfl
  have z64 : (64 : Int32).toInt = 64 := rfl
  have zm : (-1 : Int32).toInt = -1 := by decide
  intro f
  induction f with
  | zero => intro h M x4 x6 _ _ _ _ _ _ e; exact absurd e (by rw [sX5_blast_58]; exact fun z => nomatch z)
  | succ f ih =>
    intro h M x4 x6 W f11 l0 l1 lo oc e
    rw [sX5_blast_58] at e
    unfold sX5_blast_130 at e
    have stop : (∀ q, q < 64 → bitJ x4 q = false) → some h = some o → FrV V (wl wcM) h o ∧ (∃ M', ShW V o L M' sd ∧ ∀ q, (BkS L M x4 q → M' q = 0) ∧ (¬ BkS L M x4 q → M' q = M q)) ∧ ∀ q, q < 64 → (bitJ (hJ o (V 4) 7) q = true ↔ bitJ (hJ h (V 4) 7) q = true ∨ BkS L M x4 q) := fun z u => by
      rw [so_e u]
      have no : ∀ q, ¬ BkS L M x4 q := fun q b => by
        have b2 := b.2.1
        rw [z q b.1] at b2
        exact absurd b2 (by decide)
      exact ⟨fv_0, ⟨M, W, fun q => ⟨fun b => absurd b (no q), fun _ => rfl⟩⟩, fun q _ => ⟨Or.inl, fun y => y.elim id (fun b => absurd b (no q))⟩⟩
    rcases br_s e with ⟨c, e⟩ | ⟨c, e⟩
    · have c := le_i c
      rw [z64] at c
      exact stop (fun q hq => lo q hq (by omega)) e
    have c := nle_i c
    rw [z64] at c
    rcases br_s e with ⟨z, e⟩ | ⟨z, e⟩
    · exact stop (j_zero.mp (cmp_eq z)) e
    replace e := cl_s e; obtain ⟨o3, eo3, e⟩ := e
    obtain ⟨w3, k, hk, tk, pk, kl, rs⟩ := low_v eo3 z
    replace e := nm_s e; obtain ⟨v4, u4, e⟩ := e
    rw [← u4] at rs
    rw [w3] at e
    have ck : o3.1.toNatClampNeg = k := by have := nc_i (x := o3.1) (by omega); omega
    replace e := ce_e W.1 e
    replace e := ce_e W.2.1.1 e
    replace e := gg_e e
    have mk := W.2.2.1.1 k hk
    have fw : hI h (V 2) 11 = Int32.ofInt (L 19 0) := by rw [← f11, Int32.ofInt_toInt]
    have cw' : (hI h (V 34) k) >>> ((1 : Int32) &&& 31) = Int32.ofInt ((M k - 1) / 2) := by
      have : ((hI h (V 34) k) >>> ((1 : Int32) &&& 31)).toInt = (hI h (V 34) k).toInt / 2 := shr_i 1 (by decide)
      rw [← mk, ← this, Int32.ofInt_toInt]
    have t6 : (x6 + (1 : Int32)).toInt = x6.toInt + 1 := by rw [ta (by rw [z1]; omega), z1]
    have lo4 : ∀ q : Nat, q < 64 → (q : Int) < (x6 + (1 : Int32)).toInt → bitJ v4 q = false := fun q hq lq => by
      rw [rs q hq]
      by_cases y : q < k
      · rw [kl q y]; rfl
      · by_cases d : k = q
        · rw [decide_eq_true d]; cases bitJ x4 q <;> rfl
        · have : (k : Int) < x6.toInt := by omega
          rw [lo k hk this] at pk
          exact absurd pk (by decide)
    have nk : ¬ bitJ v4 k = true := fun y => by
      rw [rs k hk, pk, decide_eq_true rfl] at y
      exact absurd y (by decide)
    have bq : ∀ q, q < 64 → ¬ q = k → (bitJ v4 q = true ↔ bitJ x4 q = true) := fun q hq n => by
      rw [rs q hq, decide_eq_false (fun y => n y.symm)]
      cases bitJ x4 q <;> exact Iff.rfl
    unfold sX5_blast_124 at e
    rcases br_s e with ⟨y, e⟩ | ⟨y, e⟩ <;> rw [ck, fw, cw'] at y
    · -- he goes
      replace e := ce_e W.1 e
      replace e := cl_s e; obtain ⟨g, eg, e⟩ := e
      have n0 : (-1 : Int32).toInt + 1 = 0 := by rw [zm]; rfl
      obtain ⟨A, Wg, tg⟩ := put_s D W (x1 := o3.1) ⟨by omega, by omega⟩ ⟨by decide, by decide⟩ (by rw [n0]; exact un_0 W.2.2.2.1) eg
      rw [n0, ck] at Wg
      rw [ck] at tg
      have up : ∀ q, ¬ q = k → (BkS L (updM M k 0) v4 q ↔ BkS L M x4 q) := fun q n => by
        unfold BkS
        rw [upm_o n]
        exact ⟨fun b => ⟨b.1, (bq q b.1 n).mp b.2.1, b.2.2⟩, fun b => ⟨b.1, (bq q b.1 n).mpr b.2.1, b.2.2⟩⟩
      have yk : BkS L M x4 k := ⟨hk, pk, fun w => w y⟩
      have nk' : ¬ BkS L (updM M k 0) v4 k := fun b => nk b.2.1
      obtain ⟨A', ⟨M', W', m'⟩, t'⟩ := ih Wg (by rw [fvi D A 2 11]; exact f11) (by omega) (by omega) lo4 (fun q hq b => by
        by_cases d : q = k
        · rw [d] at b; exact absurd b nk
        · rw [upm_o d]; exact oc q hq ((bq q hq d).mp b)) (nx_e e)
      refine ⟨fv_t A A', ⟨M', W', fun q => ?_⟩, fun q hq => ?_⟩
      · by_cases d : q = k
        · rw [d]
          refine ⟨fun _ => ?_, fun b => absurd yk b⟩
          rw [(m' k).2 nk', upm_s]
        · refine ⟨fun b => (m' q).1 ((up q d).mpr b), fun b => ?_⟩
          rw [(m' q).2 (fun w => b ((up q d).mp w)), upm_o d]
      · rw [t' q hq, tg, Bool.or_eq_true, decide_eq_true_eq]
        by_cases d : q = k
        · rw [d]
          exact ⟨fun _ => Or.inr yk, fun _ => Or.inl (Or.inr rfl)⟩
        · rw [up q d]
          exact ⟨fun w => w.elim (fun w => w.elim Or.inl (fun w => absurd w.symm d)) Or.inr, fun w => w.elim (fun w => Or.inl (Or.inl w)) Or.inr⟩
    · -- he is FIRM
      have up : ∀ q, BkS L M v4 q ↔ BkS L M x4 q := fun q => by
        by_cases d : q = k
        · rw [d]
          exact ⟨fun b => absurd b.2.1 nk, fun b => absurd y b.2.2⟩
        · exact ⟨fun b => ⟨b.1, (bq q b.1 d).mp b.2.1, b.2.2⟩, fun b => ⟨b.1, (bq q b.1 d).mpr b.2.1, b.2.2⟩⟩
      obtain ⟨A', ⟨M', W', m'⟩, t'⟩ := ih W f11 (by omega) (by omega) lo4 (fun q hq b => by
        by_cases d : q = k
        · rw [d] at b; exact absurd b nk
        · exact oc q hq ((bq q hq d).mp b)) (nx_e e)
      exact ⟨A', ⟨M', W', fun q => by rw [← up q]; exact m' q⟩, fun q hq => by rw [t' q hq, up q]⟩
/-- blast, whole -/
theorem bl_c (D : VD V) {x : Int32} {v : MvT} {sd : Int} (H : LOk L) (W : ShW V h L M sd) (ar : AroT L V h) (w1 : hR h (V 6) 1 = some (V 11)) (w5 : hR h (V 11) 5 = some (V 55)) (f11 : (hI h (V 2) 11).toInt = L 19 0) (b8 : (hI h (V 2) 10) &&& (8 : Int32) = 0 ↔ L 18 0 = 0) (P : MvC x v) (it : 0 ≤ v.2.1 ∧ v.2.1 < L 0 0 * L 1 0) (ia : v.2.2.2.2.1 = -1 ∨ (0 ≤ v.2.2.2.2.1 ∧ v.2.2.2.2.1 ≤ 11)) (e : sX5_blast F h (V 6) (V 4) x = some o) : FrV V (wl wcM) h o ∧ ShW V o L (if L 18 0 = 0 ∨ v.2.2.2.2.1 = -1 then M else blM L M v.2.1.toNat) sd ∧ ∀ q, q < 64 → (bitJ (hJ o (V 4) 7) q = true ↔ bitJ (hJ h (V 4) 7) q = true ∨ (¬ (L 18 0 = 0 ∨ v.2.2.2.2.1 = -1) ∧ BlS L M v.2.1.toNat q)) := by
  have zm : (-1 : Int32).toInt = -1 := by decide
  have sq := sq_64 H
  obtain ⟨s, t, m, b, a, k, p⟩ := v
  unfold MvC at P
  dsimp only at P it ia ⊢
  obtain ⟨t0, t1⟩ := it
  have ft := (pk_fd P).1
  have non : (L 18 0 = 0 ∨ a = -1) → some h = some o → FrV V (wl wcM) h o ∧ ShW V o L (if L 18 0 = 0 ∨ a = -1 then M else blM L M t.toNat) sd ∧ ∀ q, q < 64 → (bitJ (hJ o (V 4) 7) q = true ↔ bitJ (hJ h (V 4) 7) q = true ∨ (¬ (L 18 0 = 0 ∨ a = -1) ∧ BlS L M t.toNat q)) := fun c u => by
    rw [so_e u, if_pos c]
    exact ⟨fv_0, W, fun q _ => ⟨Or.inl, fun y => y.elim id (fun y => absurd c y.1)⟩⟩
  unfold sX5_blast sX5_blast_20 sX5_comeTo sX1_has sX1_has_14 at e
  replace e := ce_e W.1 e
  replace e := cl_s e; obtain ⟨o2, eo2, e⟩ := e
  rcases br_s eo2 with ⟨c, eo2⟩ | ⟨c, eo2⟩
  · rw [so_e (gg_e eo2)] at e
    exact non (Or.inl (b8.mp c)) (bp_e rfl e)
  rw [so_e (gg_e eo2)] at e
  replace e := bn_e (show ¬ (1 : Int32) = 0 by decide) e
  replace e := cl_s e; obtain ⟨o4, eo4, e⟩ := e
  obtain ⟨q1, q2⟩ := tak_v P eo4
  rw [q1] at e
  have q3 : o4.1.toInt = a := by
    rw [q2]
    rcases ia with y | ⟨y, y'⟩
    · rw [if_pos (by rw [if_pos y]), y]
    · rw [if_neg (show ¬ a = -1 by omega), if_neg (show ¬ a = 15 by omega)]
  rcases br_s e with ⟨d, e⟩ | ⟨d, e⟩
  · exact non (Or.inr (by rw [← q3, d, zm])) e
  have go : ¬ (L 18 0 = 0 ∨ a = -1) := fun y => y.elim (fun y => c (b8.mpr y)) (fun y => d (Int32.toInt_inj.mp (by rw [q3, y, zm])))
  rw [if_neg go]
  replace e := cl_s e; obtain ⟨o6, eo6, e⟩ := e
  rw [so_e eo6] at e
  dsimp only at e
  generalize x &&& (63 : Int32) = XT at *
  have cT : XT.toNatClampNeg = t.toNat := by have := nc_i (x := XT) (by omega); omega
  replace e := ce_e W.1 e
  replace e := cl_s e; obtain ⟨g, eg, e⟩ := e
  have n0 : (-1 : Int32).toInt + 1 = 0 := by rw [zm]; rfl
  obtain ⟨A, Wg, tg⟩ := put_s D W (x1 := XT) ⟨by omega, by omega⟩ ⟨by decide, by decide⟩ (by rw [n0]; exact un_0 W.2.2.2.1) eg
  rw [n0, cT] at Wg
  rw [cT] at tg
  replace e := ce_e (show hR g (V 6) 1 = some (V 11) by rw [A.1]; exact w1) e
  replace e := ce_e (show hR g (V 11) 5 = some (V 55) by rw [A.1]; exact w5) e
  replace e := gg_e e
  unfold sX3_occupied at e
  replace e := cl_s e; obtain ⟨o12, eo12, e⟩ := e
  replace eo12 := ce_e Wg.2.1.2.1 eo12
  replace eo12 := gg_e eo12
  replace eo12 := ce_e Wg.2.1.2.1 eo12
  replace eo12 := gg_e eo12
  rw [so_e eo12] at e
  dsimp only at e
  have bo := occ_b (h := g) (V := V) (M := updM M t.toNat 0) Wg.2.2.1.2.1 (v := (hJ g (V 35) (0 : Int32).toNatClampNeg) ||| (hJ g (V 35) (1 : Int32).toNatClampNeg)) rfl
  replace e := nm_s e; obtain ⟨v13, u13, e⟩ := e
  rw [cT, fvJ D A 55 t.toNat] at u13
  have tN : ((t.toNat : Nat) : Int) = t := by omega
  have bl : ∀ q, q < 64 → (bitJ v13 q = true ↔ ArP L t.toNat q ∧ 0 < M q) := fun q hq => by
    rw [u13, bj_and, Bool.and_eq_true, ar t.toNat q (by omega) hq, bo q hq]
    constructor
    · rintro ⟨y, y'⟩
      rw [upm_o y.1] at y'
      exact ⟨y, y'⟩
    · rintro ⟨y, y'⟩
      exact ⟨y, by rw [upm_o y.1]; exact y'⟩
  have bk : ∀ q, ¬ q = t.toNat → (BkS L (updM M t.toNat 0) v13 q ↔ BlS L M t.toNat q) := fun q n => by
    unfold BkS BlS
    rw [upm_o n]
    constructor
    · intro y
      obtain ⟨y1, y2⟩ := (bl q y.1).mp y.2.1
      exact Or.inr ⟨y1, y2, y.2.2⟩
    · rintro (y | ⟨y1, y2, y3⟩)
      · exact absurd y n
      · have hq : q < 64 := by have := y1.2.1; omega
        exact ⟨hq, (bl q hq).mpr ⟨y1, y2⟩, y3⟩
  have nt : ¬ BkS L (updM M t.toNat 0) v13 t.toNat := fun y => ((bl t.toNat y.1).mp y.2.1).1.1 rfl
  obtain ⟨A', ⟨M', W', m'⟩, t'⟩ := blk_58 D F Wg (by rw [fvi D A 2 11]; exact f11) (by decide) (by decide) (fun q _ lq => absurd lq (by
    have : (0 : Int32).toInt = 0 := rfl
    omega)) (fun q hq y => by
    obtain ⟨y1, y2⟩ := (bl q hq).mp y
    rw [upm_o y1.1]; exact y2) e
  have eM : M' = blM L M t.toNat := funext fun q => by
    by_cases n : q = t.toNat
    · rw [n, blm_y (Or.inl rfl), (m' t.toNat).2 nt, upm_s]
    · by_cases y : BlS L M t.toNat q
      · rw [blm_y y, (m' q).1 ((bk q n).mpr y)]
      · rw [blm_n y, (m' q).2 (fun w => y ((bk q n).mp w)), upm_o n]
  rw [eM] at W'
  refine ⟨fv_t A A', W', fun q hq => ?_⟩
  rw [t' q hq, tg, Bool.or_eq_true, decide_eq_true_eq]
  by_cases n : q = t.toNat
  · exact ⟨fun _ => Or.inr ⟨go, Or.inl n⟩, fun _ => Or.inl (Or.inr n.symm)⟩
  · rw [bk q n]
    exact ⟨fun w => w.elim (fun w => w.elim Or.inl (fun w => absurd w.symm n)) (fun w => Or.inr ⟨go, w⟩), fun w => w.elim (fun w => Or.inl (Or.inl w)) (fun w => Or.inr w.2)⟩
end
end
section
/-! the reference: men come and leave, blast -/
abbrev wrB : List (Nat × Nat) := [(262, 999), (213, 2)]
def RSh (V : Nat → Nat) (h : Hp) (L : Nat → Nat → Int) (M : Nat → Int) : Prop := WRf V h ∧ GRf V h L ∧ hR h (V 213) 0 = some (V 262) ∧ ∀ s, s < 64 → (hI h (V 262) s).toInt = M s
def RkS (L : Nat → Nat → Int) (M : Nat → Int) (t n q : Nat) : Prop := n ≤ q ∧ (q : Int) < L 0 0 * L 1 0 ∧ ((-1 ≤ (q : Int) % L 0 0 - (t : Int) % L 0 0 ∧ (q : Int) % L 0 0 - (t : Int) % L 0 0 ≤ 1) ∧ (-1 ≤ (q : Int) / L 0 0 - (t : Int) / L 0 0 ∧ (q : Int) / L 0 0 - (t : Int) / L 0 0 ≤ 1)) ∧ 0 < M q ∧ ¬ FrmL L ((M q - 1) / 2)
theorem ab2 {a b : Int32} (ra : Rg 0 63 a) (rb : Rg 0 63 b) : ((2 : Int32) ≤ (if 0 ≤ (a - b) then (a - b) else 0 - (a - b))) ↔ ¬ (-1 ≤ a.toInt - b.toInt ∧ a.toInt - b.toInt ≤ 1) := by
  obtain ⟨a0, a1⟩ := ra
  obtain ⟨b0, b1⟩ := rb
  have z0 : (0 : Int32).toInt = 0 := rfl
  have z2 : (2 : Int32).toInt = 2 := rfl
  have s1 : (a - b).toInt = a.toInt - b.toInt := ts (by omega)
  have s2 : ((0 : Int32) - (a - b)).toInt = 0 - (a - b).toInt := by rw [ts (by rw [z0, s1]; omega), z0]
  by_cases c : 0 ≤ (a - b)
  · rw [if_pos c]
    have c' := le_i c
    rw [z0, s1] at c'
    constructor
    · intro y
      have := le_i y
      omega
    · intro y
      by_cases d : (2 : Int32) ≤ (a - b)
      · exact d
      · have := nle_i d
        omega
  · rw [if_neg c]
    have c' := nle_i c
    rw [z0, s1] at c'
    constructor
    · intro y
      have := le_i y
      omega
    · intro y
      by_cases d : (2 : Int32) ≤ (0 - (a - b))
      · exact d
      · have := nle_i d
        omega
section
variable {F : Nat} {V : Nat → Nat} {h o : Hp} {L : Nat → Nat → Int} {M : Nat → Int}
theorem cm_r (D : VD V) {y : Nat} {x v : Int32} (W : RSh V h L M) (ix : Rg 0 63 x) (e : sX15_come h y (V 213) x v = some o) : FrV V (wl wrB) h o ∧ RSh V o L (updM M x.toNatClampNeg v.toInt) ∧ ∀ q, q < 64 → (bitJ (hJ o (V 213) 2) q = true ↔ bitJ (hJ h (V 213) 2) q = true ∧ ¬ q = x.toNatClampNeg) := by
  obtain ⟨w, ⟨g1, g2, g3, g4⟩, b, m⟩ := W
  unfold sX15_come at e
  replace e := ce_e b e
  replace e := gg_e e
  replace e := nm_s e; obtain ⟨h3, u3, e⟩ := e
  replace e := nm_s e; obtain ⟨h4, u4, e⟩ := e
  rw [so_e e]
  have A : FrV V (wl wrB) h h4 := fv_t (g2 := h3) (by rw [u3]; exact fv_w (wl_9 (by decide))) (by rw [u4]; exact fv_j (wl_i (j := 2) (by decide) (Or.inl rfl)))
  refine ⟨A, ⟨wrf_f w A, ⟨by rw [lwr_g D A (by decide)]; exact g1, by rw [fvi D A 16 11]; exact g2, by rw [fvi D A 16 12]; exact g3, by rw [fvi D A 16 13]; exact g4⟩, by rw [A.1]; exact b, ?_⟩, fun q hq => ?_⟩
  · intro q hq
    have : hI h4 (V 262) q = hI h3 (V 262) q := by rw [u4]; rfl
    unfold updM
    rw [this, u3, r_I]
    by_cases c : q = x.toNatClampNeg
    · rw [if_pos ⟨rfl, c⟩, if_pos c]
    · rw [if_neg (fun z => c z.2), if_neg c]; exact m q hq
  · have : hJ h3 (V 213) 2 = hJ h (V 213) 2 := by rw [u3]; rfl
    rw [u4, r_J, if_pos ⟨rfl, rfl⟩, bj_and, bj_not _ hq, bj_one ix, this, Bool.and_eq_true]
    by_cases c : q = x.toNatClampNeg
    · rw [decide_eq_true c.symm]
      exact ⟨fun z => absurd z.2 (by decide), fun z => absurd c z.2⟩
    · rw [decide_eq_false (fun z => c z.symm)]
      exact ⟨fun z => ⟨z.1, c⟩, fun z => ⟨z.1, rfl⟩⟩
theorem lv_r (D : VD V) {y : Nat} {x : Int32} (W : RSh V h L M) (ix : Rg 0 63 x) (e : sX15_leave h y (V 213) x = some o) : FrV V (wl wrB) h o ∧ RSh V o L (updM M x.toNatClampNeg 0) ∧ ∀ q, q < 64 → (bitJ (hJ o (V 213) 2) q = true ↔ bitJ (hJ h (V 213) 2) q = true ∧ ¬ q = x.toNatClampNeg) := cm_r (y := y) (v := 0) D W ix e
theorem blr_8 (D : VD V) (H : LOk L) {x2 : Int32} {t : Nat} (e2 : x2.toInt = (t : Int)) (tL : (t : Int) < L 0 0 * L 1 0) : ∀ (f : Nat) {h : Hp} {M : Nat → Int} {x3 : Int32} {n : Nat}, RSh V h L M → (∀ q, q < 64 → 0 ≤ M q ∧ M q ≤ 24) → x3.toInt = (n : Int) → (n : Int) ≤ L 0 0 * L 1 0 → sX15_blast_8 F f h (V 16) (V 213) x2 x3 = some o → FrV V (wl wrB) h o ∧ (∃ M', RSh V o L M' ∧ ∀ q, (RkS L M t n q → M' q = 0) ∧ (¬ RkS L M t n q → M' q = M q)) ∧ ∀ q, q < 64 → (bitJ (hJ o (V 213) 2) q = true ↔ bitJ (hJ h (V 213) 2) q = true ∧ ¬ RkS L M t n q) := by
  have z0 : (0 : Int32).toInt = 0 := rfl
  have z1 : (1 : Int32).toInt = 1 := rfl
  have sq := sq_64 H
  have fi := H.1
  intro f
  induction f with
  | zero => intro h M x3 n _ _ _ _ e; exact absurd e (by rw [sX15_blast_8]; exact fun z => nomatch z)
  | succ f ih =>
    intro h M x3 n W rm e3 nL e
    have f11 := W.2.1.2.1
    have f13 := W.2.1.2.2.2
    rw [sX15_blast_8] at e
    rcases br_s e with ⟨c, e⟩ | ⟨c, e⟩
    · have c := le_i c
      rw [f13, e3] at c
      rw [so_e e]
      have no : ∀ q, ¬ RkS L M t n q := fun q b => by
        have b1 := b.1
        have b2 := b.2.1
        omega
      exact ⟨fv_0, ⟨M, W, fun q => ⟨fun b => absurd b (no q), fun _ => rfl⟩⟩, fun q _ => ⟨fun y => ⟨y, no q⟩, fun y => y.1⟩⟩
    have c := nle_i c
    rw [f13, e3] at c
    have n64 : n < 64 := by omega
    have t3 : (x3 + (1 : Int32)).toInt = ((n + 1 : Nat) : Int) := by rw [ta (by rw [z1]; omega), z1, e3]; omega
    have c3 : x3.toNatClampNeg = n := by have := nc_i (x := x3) (by omega); omega
    have r11 : Rg 3 8 (hI h (V 16) 11) := ⟨by omega, by omega⟩
    have i3 : Rg 0 63 x3 := ⟨by omega, by omega⟩
    have i2 : Rg 0 63 x2 := ⟨by omega, by omega⟩
    have m3 := tr i3 r11 ⟨by decide, by decide⟩
    have m2 := tr i2 r11 ⟨by decide, by decide⟩
    have d3 := td i3 r11 ⟨by decide, by decide⟩
    have d2 := td i2 r11 ⟨by decide, by decide⟩
    rw [f11, e3] at m3 d3
    rw [f11, e2] at m2 d2
    have md : ∀ j : Nat, 0 ≤ (j : Int) % L 0 0 ∧ (j : Int) % L 0 0 < L 0 0 := fun j => ⟨Int.emod_nonneg _ (by omega), Int.emod_lt_of_pos _ (by omega)⟩
    have dd : ∀ j : Nat, j < 64 → 0 ≤ (j : Int) / L 0 0 ∧ (j : Int) / L 0 0 ≤ 63 := fun j hj => by
      have h0 : 0 ≤ (j : Int) / L 0 0 := Int.ediv_nonneg (by omega) (by omega)
      have h1 : (j : Int) / L 0 0 ≤ (j : Int) := Int.ediv_le_self _ (by omega)
      omega
    have mn := md n
    have mt := md t
    have dn := dd n n64
    have dt := dd t (by omega)
    have b1 := ab2 (a := x3 - x3 / (hI h (V 16) 11) * (hI h (V 16) 11)) (b := x2 - x2 / (hI h (V 16) 11) * (hI h (V 16) 11)) ⟨by omega, by omega⟩ ⟨by omega, by omega⟩
    have b2 := ab2 (a := x3 / (hI h (V 16) 11)) (b := x2 / (hI h (V 16) 11)) ⟨by omega, by omega⟩ ⟨by omega, by omega⟩
    rw [m3, m2] at b1
    rw [d3, d2] at b2
    -- he stays
    have nxt : ¬ RkS L M t n n → sX15_blast_105 F (sX15_blast_8 F f) h (V 16) (V 213) x2 x3 = some o → FrV V (wl wrB) h o ∧ (∃ M', RSh V o L M' ∧ ∀ q, (RkS L M t n q → M' q = 0) ∧ (¬ RkS L M t n q → M' q = M q)) ∧ ∀ q, q < 64 → (bitJ (hJ o (V 213) 2) q = true ↔ bitJ (hJ h (V 213) 2) q = true ∧ ¬ RkS L M t n q) := fun no u => by
      unfold sX15_blast_105 at u
      have up : ∀ q, RkS L M t (n + 1) q ↔ RkS L M t n q := fun q => by
        by_cases d : q = n
        · rw [d]
          exact ⟨fun b => absurd b.1 (by omega), fun b => absurd b no⟩
        · exact ⟨fun b => ⟨Nat.le_of_succ_le b.1, b.2⟩, fun b => ⟨by have := b.1; omega, b.2⟩⟩
      obtain ⟨A, ⟨M', W', m'⟩, t'⟩ := ih (n := n + 1) W rm t3 (by omega) (nx_e u)
      exact ⟨A, ⟨M', W', fun q => by rw [← up q]; exact m' q⟩, fun q hq => by rw [t' q hq, up q]⟩
    replace e := gg_e e
    replace e := gg_e e
    unfold sX15_blast_60 sX15_blast_61 at e
    rcases br_s e with ⟨y, e⟩ | ⟨y, e⟩ <;> rw [b1] at y
    · exact nxt (fun b => y b.2.2.1.1) (bp_e rfl e)
    replace e := gg_e e
    replace e := gg_e e
    rcases br_s e with ⟨y', e⟩ | ⟨y', e⟩ <;> rw [b2] at y'
    · exact nxt (fun b => y' b.2.2.1.2) (bp_e rfl e)
    have y := Classical.not_not.mp y
    have y' := Classical.not_not.mp y'
    replace e := bn_e (show ¬ (1 : Int32) = 0 by decide) e
    have r0 := W.2.2.1
    have mM : (hI h (V 262) n).toInt = M n := W.2.2.2 _ (by omega)
    replace e := ce_e r0 e
    replace e := gg_e e
    rcases br_s e with ⟨w, e⟩ | ⟨w, e⟩ <;> rw [c3] at w
    · have w := le_i w
      rw [mM, z0] at w
      exact nxt (fun b => by have := b.2.2.2.1; omega) e
    have w := nle_i w
    rw [mM, z0] at w
    have m24 := rm n n64
    replace e := ce_e W.1.1 e
    replace e := ce_e r0 e
    replace e := gg_e e
    unfold sX15_manOf at e
    replace e := cl_s e; obtain ⟨o8, eo8, e⟩ := e
    rw [so_e eo8] at e
    dsimp only at e
    have fw : hI h (V 15) 19 = Int32.ofInt (L 19 0) := by
      have : (hI h (V 15) 19).toInt = L 19 0 := by
        rw [← W.2.1.1]
        exact (if_pos (by decide)).symm
      rw [← this, Int32.ofInt_toInt]
    have cw' : ((hI h (V 262) n) - (1 : Int32)) >>> ((1 : Int32) &&& 31) = Int32.ofInt ((M n - 1) / 2) := by
      have s1 : ((hI h (V 262) n) - (1 : Int32)).toInt = M n - 1 := by rw [ts (by rw [mM, z1]; omega), mM, z1]
      have : (((hI h (V 262) n) - (1 : Int32)) >>> ((1 : Int32) &&& 31)).toInt = ((hI h (V 262) n) - (1 : Int32)).toInt / 2 := shr_i 1 (by decide)
      rw [← s1, ← this, Int32.ofInt_toInt]
    rcases br_s e with ⟨fr, e⟩ | ⟨fr, e⟩ <;> rw [c3, fw, cw'] at fr
    rotate_left
    · exact nxt (fun b => b.2.2.2.2 fr) e
    -- he goes
    replace e := cl_s e; obtain ⟨g, eg, e⟩ := e
    obtain ⟨A, Wg, tg⟩ := lv_r D W i3 eg
    rw [c3] at Wg tg
    unfold sX15_blast_105 at e
    have yk : RkS L M t n n := ⟨Nat.le_refl _, c, ⟨y, y'⟩, w, fun z => z fr⟩
    have nk : ¬ RkS L (updM M n 0) t (n + 1) n := fun b => by have := b.1; omega
    have up : ∀ q, ¬ q = n → (RkS L (updM M n 0) t (n + 1) q ↔ RkS L M t n q) := fun q d => by
      unfold RkS
      rw [upm_o d]
      exact ⟨fun b => ⟨Nat.le_of_succ_le b.1, b.2⟩, fun b => ⟨by have := b.1; omega, b.2⟩⟩
    obtain ⟨A', ⟨M', W', m'⟩, t'⟩ := ih (n := n + 1) Wg (fun q hq => by
      by_cases d : q = n
      · rw [d, upm_s]; exact ⟨by decide, by decide⟩
      · rw [upm_o d]; exact rm q hq) t3 (by omega) (nx_e e)
    refine ⟨fv_t A A', ⟨M', W', fun q => ?_⟩, fun q hq => ?_⟩
    · by_cases d : q = n
      · rw [d]
        refine ⟨fun _ => ?_, fun b => absurd yk b⟩
        rw [(m' n).2 nk, upm_s]
      · refine ⟨fun b => (m' q).1 ((up q d).mpr b), fun b => ?_⟩
        rw [(m' q).2 (fun z => b ((up q d).mp z)), upm_o d]
    · rw [t' q hq, tg q hq]
      by_cases d : q = n
      · rw [d]
        exact ⟨fun z => absurd rfl z.1.2, fun z => absurd yk z.2⟩
      · rw [up q d]
        exact ⟨fun z => ⟨z.1.1, z.2⟩, fun z => ⟨⟨z.1, d⟩, z.2⟩⟩
/-- blast, whole -/
theorem bl_r (D : VD V) (H : LOk L) {x2 : Int32} {t : Nat} (e2 : x2.toInt = (t : Int)) (tL : (t : Int) < L 0 0 * L 1 0) (W : RSh V h L M) (rm : ∀ q, q < 64 → 0 ≤ M q ∧ M q ≤ 24) (e : sX15_blast F h (V 16) (V 213) x2 = some o) : FrV V (wl wrB) h o ∧ RSh V o L (blM L M t) ∧ ∀ q, q < 64 → (bitJ (hJ o (V 213) 2) q = true ↔ bitJ (hJ h (V 213) 2) q = true ∧ ¬ BlS L M t q) := by
  have sq := sq_64 H
  unfold sX15_blast at e
  have c2 : x2.toNatClampNeg = t := by have := nc_i (x := x2) (by omega); omega
  replace e := cl_s e; obtain ⟨g, eg, e⟩ := e
  obtain ⟨A, Wg, tg⟩ := lv_r D W ⟨by omega, by omega⟩ eg
  rw [c2] at Wg tg
  obtain ⟨A', ⟨M', W', m'⟩, t'⟩ := blr_8 D H e2 tL F (n := 0) Wg (fun q hq => by
      by_cases d : q = t
      · rw [d, upm_s]; exact ⟨by decide, by decide⟩
      · rw [upm_o d]; exact rm q hq) rfl (by omega) e
  have nt : ¬ RkS L (updM M t 0) t 0 t := fun b => by
    have := b.2.2.2.1
    rw [upm_s] at this
    omega
  have bk : ∀ q, ¬ q = t → (RkS L (updM M t 0) t 0 q ↔ BlS L M t q) := fun q n => by
    unfold RkS BlS ArP
    rw [upm_o n]
    constructor
    · rintro ⟨_, b1, ⟨b2, b3⟩, b4⟩
      exact Or.inr ⟨⟨n, b1, b2, b3⟩, b4⟩
    · rintro (b | ⟨⟨_, b1, b2, b3⟩, b4⟩)
      · exact absurd b n
      · exact ⟨Nat.zero_le _, b1, ⟨b2, b3⟩, b4⟩
  have eM : M' = blM L M t := funext fun q => by
    by_cases n : q = t
    · rw [n, blm_y (Or.inl rfl), (m' t).2 nt, upm_s]
    · by_cases y : BlS L M t q
      · rw [blm_y y, (m' q).1 ((bk q n).mpr y)]
      · rw [blm_n y, (m' q).2 (fun w => y ((bk q n).mp w)), upm_o n]
  rw [eM] at W'
  refine ⟨fv_t A A', W', fun q hq => ?_⟩
  rw [t' q hq, tg q hq]
  by_cases n : q = t
  · exact ⟨fun z => absurd n z.1.2, fun z => absurd (Or.inl n) z.2⟩
  · rw [bk q n]
    exact ⟨fun z => ⟨z.1.1, z.2⟩, fun z => ⟨⟨z.1, n⟩, z.2⟩⟩
end
end
section
/-! men out of the hand: both -/
def drM (L : Nat → Nat → Int) (hd : Nat → Int) (t m : Nat) : List MvT := if 0 < hd m ∧ ¬ (((t : Int) / L 0 0 = 0 ∨ (t : Int) / L 0 0 = L 1 0 - 1) ∧ 0 < L 81 m) then [((-1 : Int), (t : Int), (m : Int), (-1 : Int), (-1 : Int), (3 : Int), (0 : Int))] else []
/-- moves out of the hand to one square -/
def drL (L : Nat → Nat → Int) (M hd : Nat → Int) (t : Nat) : List MvT := if M t = 0 then (List.range (L 2 0).toNat).flatMap (drM L hd t) else []
theorem dr_1 {L : Nat → Nat → Int} {hd : Nat → Int} {t m : Nat} : (drM L hd t m).length ≤ 1 := by
  unfold drM
  by_cases c : 0 < hd m ∧ ¬ (((t : Int) / L 0 0 = 0 ∨ (t : Int) / L 0 0 = L 1 0 - 1) ∧ 0 < L 81 m)
  · rw [if_pos c]; exact Nat.le_refl _
  · rw [if_neg c]; exact Nat.zero_le _
theorem dr_s {L : Nat → Nat → Int} {hd : Nat → Int} {t : Nat} (n : Nat) : (List.range (n + 1)).flatMap (drM L hd t) = (List.range n).flatMap (drM L hd t) ++ drM L hd t n := by
  rw [List.range_succ, List.flatMap_append, List.flatMap_singleton]
theorem dr_len {L : Nat → Nat → Int} {hd : Nat → Int} {t : Nat} : ∀ n : Nat, ((List.range n).flatMap (drM L hd t)).length ≤ n := fun n => by
  induction n with
  | zero => exact Nat.le_refl _
  | succ n ih =>
    rw [dr_s, List.length_append]
    have := dr_1 (L := L) (hd := hd) (t := t) (m := n)
    omega
section
variable {F : Nat} {V : Nat → Nat} {L : Nat → Nat → Int} {M : Nat → Int} {h o : Hp}
theorem beo_c {x : Int32} {o : Int32 × Hp} {m : Nat} (cx : CLx V h L) (e1 : x.toInt = (m : Int)) (m12 : m < 12) (e : sX1_becomesOthers h (V 2) x = some o) : o.2 = h ∧ ((o.1 = 0 ∧ ¬ 0 < L 81 m) ∨ (o.1 = 1 ∧ 0 < L 81 m)) := by
  have z0 : (0 : Int32).toInt = 0 := rfl
  have z12 : (12 : Int32).toInt = 12 := rfl
  have cm : x.toNatClampNeg = m := by have := nc_i (x := x) (by omega); omega
  have l81 := (cx.1 m m12).1
  unfold sX1_becomesOthers sX1_becomesOthers_23 sX1_becomesOthers_24 at e
  replace e := bn_e (fun z => by have := lt_i z; omega) e
  replace e := bn_e (fun z => by have := le_i z; omega) e
  replace e := ce_e cx.2.2.2 e
  replace e := gg_e e
  rcases br_s e with ⟨c, e⟩ | ⟨c, e⟩ <;> rw [cm] at c
  · have c := le_i c
    rw [z0, l81] at c
    rw [so_e (gg_e e)]
    exact ⟨rfl, Or.inl ⟨rfl, by omega⟩⟩
  · have c := nle_i c
    rw [z0, l81] at c
    rw [so_e (gg_e e)]
    exact ⟨rfl, Or.inr ⟨rfl, c⟩⟩
theorem ad_46 (D : VD V) {ov : Nat → Prop} {x1 x2 : Int32} {t sd : Nat} {hd : Nat → Int} {ms : List MvT} (H : LOk L) (e1 : x1.toInt = (t : Int)) (tL : (t : Int) < L 0 0 * L 1 0) (ed : (x2 = 0 ∧ ¬ ((t : Int) / L 0 0 = 0 ∨ (t : Int) / L 0 0 = L 1 0 - 1)) ∨ (x2 = 1 ∧ ((t : Int) / L 0 0 = 0 ∨ (t : Int) / L 0 0 = L 1 0 - 1))) (lm : ms.length + 12 < 4096) : ∀ (f : Nat) {h : Hp} {x3 : Int32} {m : Nat}, x3.toInt = (m : Int) → (m : Int) ≤ L 2 0 → CWd V h L M ov → (hI h (V 4) 5).toInt = (sd : Int) → (∀ m, m < 12 → hd m = ((hv (hJ h (V 37) sd) m : Nat) : Int)) → CLs V h (ms ++ (List.range m).flatMap (drM L hd t)) → sX5_addDrops_46 F f h (V 6) x1 x2 x3 = some o → FrV V (wl wcl) h o ∧ hN o (V 47) = hN h (V 47) ∧ CLs V o (ms ++ (List.range (L 2 0).toNat).flatMap (drM L hd t)) := by
  have z0 : (0 : Int32).toInt = 0 := rfl
  have z1 : (1 : Int32).toInt = 1 := rfl
  have z3 : (3 : Int32).toInt = 3 := rfl
  have sq := sq_64 H
  have L2 := H.2.2.1
  intro f
  induction f with
  | zero => intro h x3 m _ _ _ _ _ _ e; exact absurd e (by rw [sX5_addDrops_46]; exact fun z => nomatch z)
  | succ f ih =>
    intro h x3 m e3 mL W esd hh R e
    obtain ⟨⟨w0, w1, w4, w5, w47⟩, wc, wt, pc, ps, ⟨cl', r20⟩, cx, bov⟩ := W
    have W : CWd V h L M ov := ⟨⟨w0, w1, w4, w5, w47⟩, wc, wt, pc, ps, ⟨cl', r20⟩, cx, bov⟩
    have f3 := cl'.2.2.2.1
    rw [sX5_addDrops_46] at e
    replace e := ce_e w0 e
    rcases br_s e with ⟨c, e⟩ | ⟨c, e⟩
    · have c := le_i c
      rw [f3, e3] at c
      have : (L 2 0).toNat = m := by omega
      rw [so_e e, this]
      exact ⟨fv_0, rfl, R⟩
    have c := nle_i c
    rw [f3, e3] at c
    have m12 : m < 12 := by omega
    have c3 : x3.toNatClampNeg = m := by have := nc_i (x := x3) (by omega); omega
    have t3 : (x3 + (1 : Int32)).toInt = ((m + 1 : Nat) : Int) := by rw [ta (by rw [z1]; omega), z1, e3]; omega
    have csd : (hI h (V 4) 5).toNatClampNeg = sd := by have := nc_i (x := hI h (V 4) 5) (by omega); omega
    replace e := ce_e w4 e
    replace e := ce_e w4 e
    replace e := cl_s e; obtain ⟨o5, eo5, e⟩ := e
    obtain ⟨w5', v5⟩ := inh_v pc.2.2.2.1 ⟨by omega, by omega⟩ eo5
    rw [csd, c3, ← hh m m12] at v5
    rw [w5'] at e
    -- none of him
    have non : ¬ (0 < hd m ∧ ¬ (((t : Int) / L 0 0 = 0 ∨ (t : Int) / L 0 0 = L 1 0 - 1) ∧ 0 < L 81 m)) → sX5_addDrops_101 F (sX5_addDrops_46 F f) h (V 6) x1 x2 x3 = some o → FrV V (wl wcl) h o ∧ hN o (V 47) = hN h (V 47) ∧ CLs V o (ms ++ (List.range (L 2 0).toNat).flatMap (drM L hd t)) := fun no u => by
      unfold sX5_addDrops_101 at u
      refine ih (m := m + 1) t3 (by omega) W esd hh ?_ (nx_e u)
      have : drM L hd t m = [] := if_neg no
      rw [dr_s, this, List.append_nil]
      exact R
    -- one of him
    have one : (0 < hd m ∧ ¬ (((t : Int) / L 0 0 = 0 ∨ (t : Int) / L 0 0 = L 1 0 - 1) ∧ 0 < L 81 m)) → sX5_addDrops_90 F (sX5_addDrops_46 F f) h (V 6) x1 x2 x3 = some o → FrV V (wl wcl) h o ∧ hN o (V 47) = hN h (V 47) ∧ CLs V o (ms ++ (List.range (L 2 0).toNat).flatMap (drM L hd t)) := fun yes u => by
      unfold sX5_addDrops_90 sX5_addDrops_101 at u
      replace u := cl_s u; obtain ⟨o1, eo1, u⟩ := u
      obtain ⟨p1, p2⟩ := pk_plain ⟨by decide, by decide⟩ ⟨by omega, by omega⟩ ⟨by omega, by omega⟩ ⟨by decide, by decide⟩ eo1
      rw [e1, e3, z0, z3] at p2
      have P : MvC o1.1 ((-1 : Int), (t : Int), (m : Int), (-1 : Int), (-1 : Int), (3 : Int), (0 : Int)) := p2
      rw [p1] at u
      replace u := cl_s u; obtain ⟨g, eg, u⟩ := u
      have ln := dr_len (L := L) (hd := hd) (t := t) m
      obtain ⟨A, Rg'⟩ := add_c D w5 w47 R (by rw [List.length_append]; omega) P eg
      have n47 := add_n (V 47) eg
      have : drM L hd t m = [((-1 : Int), (t : Int), (m : Int), (-1 : Int), (-1 : Int), (3 : Int), (0 : Int))] := if_pos yes
      obtain ⟨A', n', R'⟩ := ih (m := m + 1) t3 (by omega) (cwd_f D W A n47) (by rw [fvi D A 4 5]; exact esd) (fun q hq => by rw [fvJ D A 37 sd]; exact hh q hq) (by
        rw [dr_s, this, ← List.append_assoc]
        exact Rg') (nx_e u)
      exact ⟨fv_t A A', by rw [n', n47], R'⟩
    rcases br_s e with ⟨y, e⟩ | ⟨y, e⟩
    · have y := le_i y
      rw [v5, z0] at y
      exact non (fun z => by have := z.1; omega) e
    have y := nle_i y
    rw [v5, z0] at y
    rcases ed with ⟨q1, q2⟩ | ⟨q1, q2⟩
    · exact one ⟨y, fun z => q2 z.1⟩ (bp_e q1 e)
    · replace e := bn_e (by rw [q1]; decide) e
      replace e := ce_e w0 e
      replace e := cl_s e; obtain ⟨o9, eo9, e⟩ := e
      obtain ⟨w9, v9⟩ := beo_c cx e3 m12 eo9
      rw [w9] at e
      rcases v9 with ⟨b1, b2⟩ | ⟨b1, b2⟩
      · exact one ⟨y, fun z => b2 z.2⟩ (bp_e b1 e)
      · exact non (fun z => z.2 ⟨q2, b2⟩) (bn_e (by rw [b1]; decide) e)
/-- the class's men out of the hand to one square -/
theorem ad_c (D : VD V) {ov : Nat → Prop} {x1 : Int32} {t sd : Nat} {hd : Nat → Int} {ms : List MvT} (H : LOk L) (e1 : x1.toInt = (t : Int)) (tL : (t : Int) < L 0 0 * L 1 0) (lm : ms.length + 12 < 4096) (W : CWd V h L M ov) (esd : (hI h (V 4) 5).toInt = (sd : Int)) (hh : ∀ m, m < 12 → hd m = ((hv (hJ h (V 37) sd) m : Nat) : Int)) (R : CLs V h ms) (e : sX5_addDrops F h (V 6) x1 = some o) : FrV V (wl wcl) h o ∧ hN o (V 47) = hN h (V 47) ∧ CLs V o (ms ++ drL L M hd t) := by
  have zm : (-1 : Int32).toInt = -1 := by decide
  have z0 : (0 : Int32).toInt = 0 := rfl
  have z1 : (1 : Int32).toInt = 1 := rfl
  have sq := sq_64 H
  have L2 := H.2.2.1
  obtain ⟨⟨w0, w1, w4, w5, w47⟩, wc, wt, pc, ps, ⟨cl', r20⟩, cx, bov⟩ := W
  have W : CWd V h L M ov := ⟨⟨w0, w1, w4, w5, w47⟩, wc, wt, pc, ps, ⟨cl', r20⟩, cx, bov⟩
  have c1 : x1.toNatClampNeg = t := by have := nc_i (x := x1) (by omega); omega
  have on := ps.1 t (by omega)
  unfold sX5_addDrops sX5_addDrops_38 sX5_addDrops_43 at e
  replace e := ce_e w4 e
  replace e := ce_e pc.1 e
  replace e := gg_e e
  unfold drL
  rcases br_s e with ⟨c, e⟩ | ⟨c, e⟩ <;> rw [c1] at c
  rotate_left
  · rw [if_neg (fun z => c (Int32.toInt_inj.mp (by rw [on, z, zm]; rfl))), List.append_nil, so_e e]
    exact ⟨fv_0, rfl, R⟩
  rw [c, zm] at on
  rw [if_pos (by omega)]
  have go : ∀ {x2 : Int32}, ((x2 = 0 ∧ ¬ ((t : Int) / L 0 0 = 0 ∨ (t : Int) / L 0 0 = L 1 0 - 1)) ∨ (x2 = 1 ∧ ((t : Int) / L 0 0 = 0 ∨ (t : Int) / L 0 0 = L 1 0 - 1))) → sX5_addDrops_46 F F h (V 6) x1 x2 (0 : Int32) = some o → FrV V (wl wcl) h o ∧ hN o (V 47) = hN h (V 47) ∧ CLs V o (ms ++ (List.range (L 2 0).toNat).flatMap (drM L hd t)) := fun {x2} ed u =>
    ad_46 D H e1 tL ed lm F (m := 0) rfl (by omega) W esd hh (by
      show CLs V h (ms ++ [])
      rw [List.append_nil]; exact R) u
  replace e := ce_e w0 e
  replace e := cl_s e; obtain ⟨o6, eo6, e⟩ := e
  obtain ⟨w6, v6⟩ := last_v H cl' r20 e1 tL ⟨by decide, by decide⟩ eo6
  rw [w6] at e
  have k0 : rkF L t (0 : Int32).toInt = (t : Int) / L 0 0 + 1 := if_pos rfl
  have k1 : rkF L t (1 : Int32).toInt = L 1 0 - (t : Int) / L 0 0 := if_neg (by decide)
  rw [k0] at v6
  rcases v6 with ⟨b1, b2⟩ | ⟨b1, b2⟩
  · replace e := bp_e b1 e
    replace e := ce_e w0 e
    replace e := cl_s e; obtain ⟨o9, eo9, e⟩ := e
    obtain ⟨w9, v9⟩ := last_v H cl' r20 e1 tL ⟨by decide, by decide⟩ eo9
    rw [w9] at e
    rw [k1] at v9
    rcases v9 with ⟨b3, b4⟩ | ⟨b3, b4⟩
    · exact go (Or.inl ⟨rfl, fun z => by omega⟩) (bp_e b3 e)
    · exact go (Or.inr ⟨rfl, by omega⟩) (bn_e (by rw [b3]; decide) e)
  · exact go (Or.inr ⟨rfl, by omega⟩) (bn_e (by rw [b1]; decide) e)
end
end
section
/-! the reference: men out of the hand -/
theorem drl_len {L : Nat → Nat → Int} {M hd : Nat → Int} {t : Nat} (H : LOk L) : (drL L M hd t).length ≤ 12 := by
  have L2 := H.2.2.1
  unfold drL
  by_cases c : M t = 0
  · rw [if_pos c]
    have := dr_len (L := L) (hd := hd) (t := t) (L 2 0).toNat
    omega
  · rw [if_neg c]; exact Nat.zero_le _
theorem drl_s {L : Nat → Nat → Int} {M hd : Nat → Int} (n : Nat) : (List.range (n + 1)).flatMap (drL L M hd) = (List.range n).flatMap (drL L M hd) ++ drL L M hd n := by
  rw [List.range_succ, List.flatMap_append, List.flatMap_singleton]
theorem drl_all {L : Nat → Nat → Int} {M hd : Nat → Int} (H : LOk L) : ∀ n : Nat, ((List.range n).flatMap (drL L M hd)).length ≤ 12 * n := fun n => by
  induction n with
  | zero => exact Nat.le_refl _
  | succ n ih =>
    rw [drl_s, List.length_append]
    have := drl_len (M := M) (hd := hd) (t := n) H
    omega
section
variable {F : Nat} {V : Nat → Nat} {L : Nat → Nat → Int} {M : Nat → Int} {h o : Hp}
theorem td_143 (D : VD V) {k : Hp → Nat → Nat → Nat → Int32 → Option Hp} {x3 : Int32} {t sd : Nat} {hd : Nat → Int} {ms : List MvT} (H : LOk L) (e3 : x3.toInt = (t : Int)) (tL : (t : Int) < L 0 0 * L 1 0) (lm : ms.length < 100000) (isd : sd < 2) (m0 : M t = 0) : ∀ (f : Nat) {h : Hp} {x4 : Int32} {m : Nat}, x4.toInt = (m : Int) → (m : Int) ≤ L 2 0 → RWd V h L M → WMf V h → hR h (V 13) 5 = some (V 64) → (hI h (V 13) 1).toInt = (sd : Int) → (∀ m, m < 12 → hd m = (hI h (V 64) (2 * m + sd)).toInt) → RLs V h (ms ++ (List.range m).flatMap (drM L hd t)) → sX15_tryAll_143 F k f h (V 16) (V 13) (V 14) x3 x4 = some o → ∃ g, FrV V (wl wml) h g ∧ RLs V g (ms ++ (List.range (L 2 0).toNat).flatMap (drM L hd t)) ∧ k g (V 16) (V 13) (V 14) (x3 + (1 : Int32)) = some o := by
  have z0 : (0 : Int32).toInt = 0 := rfl
  have z1 : (1 : Int32).toInt = 1 := rfl
  have z2 : (2 : Int32).toInt = 2 := rfl
  have z3 : (3 : Int32).toInt = 3 := rfl
  have zm : (-1 : Int32).toInt = -1 := by decide
  have sq := sq_64 H
  have fi := H.1
  have ra := H.2.1
  have L2 := H.2.2.1
  intro f
  induction f with
  | zero => intro h x4 m _ _ _ _ _ _ _ _ e; exact absurd e (by rw [sX15_tryAll_143]; exact fun z => nomatch z)
  | succ f ih =>
    intro h x4 m e4 mL W WM w64 esd hh R e
    have l2 : (hI h (V 15) 2).toInt = L 2 0 := lw_0 W (by decide) 0
    have f11 := W.2.1.2.1
    have f12 := W.2.1.2.2.1
    have c3 : x3.toNatClampNeg = t := by have := nc_i (x := x3) (by omega); omega
    rw [sX15_tryAll_143] at e
    unfold sX15_tryAll_244 sX15_tryAll_197 sX15_tryAll_201 at e
    replace e := ce_e W.1.1 e
    rcases br_s e with ⟨c, e⟩ | ⟨c, e⟩
    · have c := le_i c
      rw [l2, e4] at c
      have : (L 2 0).toNat = m := by omega
      rw [this]
      exact ⟨h, fv_0, R, nx_e e⟩
    have c := nle_i c
    rw [l2, e4] at c
    have m12 : m < 12 := by omega
    have c4 : x4.toNatClampNeg = m := by have := nc_i (x := x4) (by omega); omega
    have t4 : (x4 + (1 : Int32)).toInt = ((m + 1 : Nat) : Int) := by rw [ta (by rw [z1]; omega), z1, e4]; omega
    have mM : (hI h (V 62) t).toInt = M t := W.2.2.2 _ (by omega)
    replace e := ce_e W.2.2.1 e
    replace e := gg_e e
    replace e := bp_e (by rw [c3]; exact Int32.toInt_inj.mp (by rw [mM, m0, z0])) e
    replace e := cl_s e; obtain ⟨o6, eo6, e⟩ := e
    obtain ⟨w6, v6⟩ := beo_v W eo6
    rw [c4] at v6
    rw [w6] at e
    have k202 : ∀ {b : Int32}, ((b = 0 ∧ ¬ (((t : Int) / L 0 0 = 0 ∨ (t : Int) / L 0 0 = L 1 0 - 1) ∧ 0 < L 81 m)) ∨ (b = 1 ∧ ((t : Int) / L 0 0 = 0 ∨ (t : Int) / L 0 0 = L 1 0 - 1) ∧ 0 < L 81 m)) → sX15_tryAll_202 F k (sX15_tryAll_143 F k f) h (V 16) (V 13) (V 14) x3 x4 b = some o → ∃ g, FrV V (wl wml) h g ∧ RLs V g (ms ++ (List.range (L 2 0).toNat).flatMap (drM L hd t)) ∧ k g (V 16) (V 13) (V 14) (x3 + (1 : Int32)) = some o := fun {b} hb u => by
      unfold sX15_tryAll_202 sX15_tryAll_238 at u
      have q2 : ((2 : Int32) * x4).toInt = 2 * (m : Int) := by rw [tm (by rw [z2, e4]; omega), z2, e4]
      have q3 : (((2 : Int32) * x4) + (hI h (V 13) 1)).toInt = 2 * (m : Int) + sd := by rw [ta (by rw [q2, esd]; omega), q2, esd]
      have q4 : (((2 : Int32) * x4) + (hI h (V 13) 1)).toNatClampNeg = 2 * m + sd := by have := nc_i (x := ((2 : Int32) * x4) + (hI h (V 13) 1)) (by omega); omega
      have hm := hh m m12
      have non : ¬ (0 < hd m ∧ ¬ (((t : Int) / L 0 0 = 0 ∨ (t : Int) / L 0 0 = L 1 0 - 1) ∧ 0 < L 81 m)) → sX15_tryAll_143 F k f h (V 16) (V 13) (V 14) x3 (x4 + (1 : Int32)) = some o → ∃ g, FrV V (wl wml) h g ∧ RLs V g (ms ++ (List.range (L 2 0).toNat).flatMap (drM L hd t)) ∧ k g (V 16) (V 13) (V 14) (x3 + (1 : Int32)) = some o := fun no v => by
        refine ih (m := m + 1) t4 (by omega) W WM w64 esd hh ?_ v
        have : drM L hd t m = [] := if_neg no
        rw [dr_s, this, List.append_nil]
        exact R
      replace u := ce_e w64 u
      replace u := gg_e u
      rcases br_s u with ⟨y, u⟩ | ⟨y, u⟩ <;> rw [q4] at y
      · have y := le_i y
        rw [← hm, z0] at y
        exact non (fun z => by have := z.1; omega) (nx_e u)
      have y := nle_i y
      rw [← hm, z0] at y
      rcases hb with ⟨b1, b2⟩ | ⟨b1, b2⟩
      · replace u := bp_e b1 u
        replace u := cl_s u; obtain ⟨g, eg, u⟩ := u
        have ln := dr_len (L := L) (hd := hd) (t := t) m
        obtain ⟨A, Rg'⟩ := add_r D WM R (by rw [List.length_append]; omega) eg
        rw [zm, e3, e4, z3, z0] at Rg'
        have : drM L hd t m = [((-1 : Int), (t : Int), (m : Int), (-1 : Int), (-1 : Int), (3 : Int), (0 : Int))] := if_pos ⟨y, b2⟩
        obtain ⟨g', A', R', u'⟩ := ih (m := m + 1) t4 (by omega) (rwd_m D W A) (wmf_f WM A) (by rw [A.1]; exact w64) (by rw [fvi D A 13 1]; exact esd) (fun q hq => by rw [fvI D A 64 (2 * q + sd)]; exact hh q hq) (by
          rw [dr_s, this, ← List.append_assoc]
          exact Rg') (nx_e u)
        exact ⟨g', fv_t A A', R', u'⟩
      · exact non (fun z => z.2 b2) (nx_e (bn_e (by rw [b1]; decide) u))
    rcases v6 with ⟨b1, b2⟩ | ⟨b1, b2⟩
    · exact k202 (Or.inl ⟨rfl, fun z => b2 z.2⟩) (bp_e b1 e)
    replace e := bn_e (by rw [b1]; decide) e
    replace e := gg_e e
    have d3 := td (x := x3) (y := hI h (V 16) 11) (a := 0) (b := 63) (c := 3) (d := 8) ⟨by omega, by omega⟩ ⟨by omega, by omega⟩ ⟨by decide, by decide⟩
    rw [f11, e3] at d3
    have r12 : ((hI h (V 16) 12) - (1 : Int32)).toInt = L 1 0 - 1 := by rw [ts (by rw [f12, z1]; omega), f12, z1]
    rcases br_s e with ⟨y, e⟩ | ⟨y, e⟩
    · exact k202 (Or.inr ⟨rfl, Or.inl (by rw [← d3, y, z0]), b2⟩) e
    replace e := gg_e e
    rcases br_s e with ⟨y', e⟩ | ⟨y', e⟩
    · exact k202 (Or.inr ⟨rfl, Or.inr (by rw [← d3, y', r12]), b2⟩) e
    · refine k202 (Or.inl ⟨rfl, fun z => ?_⟩) e
      rcases z.1 with w | w
      · exact y (Int32.toInt_inj.mp (by rw [d3, w, z0]))
      · exact y' (Int32.toInt_inj.mp (by rw [d3, w, r12]))
/-- one square -/
theorem td_1 (D : VD V) {k : Hp → Nat → Nat → Nat → Int32 → Option Hp} {x3 : Int32} {t sd : Nat} {hd : Nat → Int} {ms : List MvT} (H : LOk L) (e3 : x3.toInt = (t : Int)) (tL : (t : Int) < L 0 0 * L 1 0) (lm : ms.length < 100000) (isd : sd < 2) (W : RWd V h L M) (WM : WMf V h) (w64 : hR h (V 13) 5 = some (V 64)) (esd : (hI h (V 13) 1).toInt = (sd : Int)) (hh : ∀ m, m < 12 → hd m = (hI h (V 64) (2 * m + sd)).toInt) (R : RLs V h ms) (f : Nat) (e : sX15_tryAll_143 F k f h (V 16) (V 13) (V 14) x3 (0 : Int32) = some o) : ∃ g, FrV V (wl wml) h g ∧ RLs V g (ms ++ drL L M hd t) ∧ k g (V 16) (V 13) (V 14) (x3 + (1 : Int32)) = some o := by
  have z0 : (0 : Int32).toInt = 0 := rfl
  have sq := sq_64 H
  have L2 := H.2.2.1
  unfold drL
  by_cases m0 : M t = 0
  · rw [if_pos m0]
    exact td_143 D H e3 tL lm isd m0 f (m := 0) rfl (by omega) W WM w64 esd hh (by
      show RLs V h (ms ++ [])
      rw [List.append_nil]; exact R) e
  · rw [if_neg m0, List.append_nil]
    have c3 : x3.toNatClampNeg = t := by have := nc_i (x := x3) (by omega); omega
    have mM : (hI h (V 62) t).toInt = M t := W.2.2.2 _ (by omega)
    cases f with
    | zero => exact absurd e (by rw [sX15_tryAll_143]; exact fun z => nomatch z)
    | succ f =>
      rw [sX15_tryAll_143] at e
      unfold sX15_tryAll_244 at e
      replace e := ce_e W.1.1 e
      rcases br_s e with ⟨_, e⟩ | ⟨_, e⟩
      · exact ⟨h, fv_0, R, nx_e e⟩
      · replace e := ce_e W.2.2.1 e
        replace e := gg_e e
        replace e := bn_e (by
          rw [c3]
          intro z
          rw [z, z0] at mM
          exact m0 mM.symm) e
        exact ⟨h, fv_0, R, nx_e e⟩
/-- all squares -/
theorem td_122 (D : VD V) {sd : Nat} {hd : Nat → Int} {ms : List MvT} (H : LOk L) (lm : ms.length < 90000) (isd : sd < 2) : ∀ (f : Nat) {h : Hp} {x3 : Int32} {t : Nat}, x3.toInt = (t : Int) → (t : Int) ≤ L 0 0 * L 1 0 → RWd V h L M → WMf V h → hR h (V 13) 5 = some (V 64) → (hI h (V 13) 1).toInt = (sd : Int) → (∀ m, m < 12 → hd m = (hI h (V 64) (2 * m + sd)).toInt) → RLs V h (ms ++ (if L 15 0 = 0 then [] else (List.range t).flatMap (drL L M hd))) → sX15_tryAll_122 F f h (V 16) (V 13) (V 14) x3 = some o → FrV V (wl wml) h o ∧ RLs V o (ms ++ (if L 15 0 = 0 then [] else (List.range (L 0 0 * L 1 0).toNat).flatMap (drL L M hd))) := by
  have z0 : (0 : Int32).toInt = 0 := rfl
  have z1 : (1 : Int32).toInt = 1 := rfl
  have sq := sq_64 H
  intro f
  induction f with
  | zero => intro h x3 t _ _ _ _ _ _ _ _ e; exact absurd e (by rw [sX15_tryAll_122]; exact fun z => nomatch z)
  | succ f ih =>
    intro h x3 t e3 tL W WM w64 esd hh R e
    have f13 := W.2.1.2.2.2
    have l15 : (hI h (V 15) 15).toInt = L 15 0 := lw_0 W (by decide) 0
    rw [sX15_tryAll_122] at e
    unfold sX15_tryAll_250 at e
    rcases br_s e with ⟨c, e⟩ | ⟨c, e⟩
    · have c := le_i c
      rw [f13, e3] at c
      have : (L 0 0 * L 1 0).toNat = t := by omega
      rw [so_e e, this]
      exact ⟨fv_0, R⟩
    have c := nle_i c
    rw [f13, e3] at c
    replace e := ce_e W.1.1 e
    rcases br_s e with ⟨y, e⟩ | ⟨y, e⟩
    · rw [y, z0] at l15
      rw [if_pos l15.symm] at R ⊢
      rw [so_e e]
      exact ⟨fv_0, R⟩
    have n15 : ¬ L 15 0 = 0 := fun z => y (Int32.toInt_inj.mp (by rw [l15, z, z0]))
    rw [if_neg n15] at R
    have ln := drl_all (M := M) (hd := hd) H t
    obtain ⟨g, A, Rg', u⟩ := td_1 D H e3 c (by rw [List.length_append]; omega) isd W WM w64 esd hh R F e
    have t3 : (x3 + (1 : Int32)).toInt = ((t + 1 : Nat) : Int) := by rw [ta (by rw [z1]; omega), z1, e3]; omega
    obtain ⟨A', R'⟩ := ih (t := t + 1) t3 (by omega) (rwd_m D W A) (wmf_f WM A) (by rw [A.1]; exact w64) (by rw [fvi D A 13 1]; exact esd) (fun q hq => by rw [fvI D A 64 (2 * q + sd)]; exact hh q hq) (by
      rw [if_neg n15, drl_s, ← List.append_assoc]
      exact Rg') u
    exact ⟨fv_t A A', R'⟩
end
end
section
/-! the class: castling is put among the other moves of the ROYAL man -/
theorem ge_m {α : Type} (l : List α) (v : α) (b : List α) : (l ++ v :: b)[l.length]? = some v := by
  rw [List.getElem?_append_right (Nat.le_refl _), Nat.sub_self]; rfl
theorem ge_m1 {α : Type} (l : List α) (v w : α) (b : List α) : (l ++ v :: w :: b)[l.length + 1]? = some w := by
  rw [List.getElem?_append_right (by omega), show l.length + 1 - l.length = 1 by omega]; rfl
theorem ge_sw {α : Type} (l : List α) (v w : α) (b : List α) {i : Nat} (n : ¬ i = l.length) (n1 : ¬ i = l.length + 1) : (l ++ v :: w :: b)[i]? = (l ++ w :: v :: b)[i]? := by
  by_cases c : i < l.length
  · rw [List.getElem?_append_left c, List.getElem?_append_left c]
  · obtain ⟨j, hj⟩ : ∃ j, i = l.length + (j + 2) := ⟨i - l.length - 2, by omega⟩
    rw [hj, List.getElem?_append_right (by omega), List.getElem?_append_right (by omega), show l.length + (j + 2) - l.length = j + 2 by omega]
    rfl
theorem le_sw {α : Type} (l : List α) (v w : α) (b : List α) : (l ++ v :: w :: b).length = (l ++ w :: v :: b).length := by
  rw [List.length_append, List.length_append]; rfl
section
variable {F : Nat} {V : Nat → Nat} {h o : Hp}
theorem sw_c {g : Hp} {l b : List MvT} {v w : MvT} (R : CLs V h (l ++ w :: v :: b)) (n0 : hI g (V 6) 6 = hI h (V 6) 6) (r : ∀ i, hI g (V 47) i = if i = l.length + 1 then hI h (V 47) l.length else if i = l.length then hI h (V 47) (l.length + 1) else hI h (V 47) i) : CLs V g (l ++ v :: w :: b) := by
  have ll : l.length + 1 < (l ++ w :: v :: b).length := by
    rw [List.length_append, List.length_cons, List.length_cons]; omega
  refine ⟨by rw [n0, R.1, le_sw], fun i hi => ?_⟩
  rw [le_sw] at hi
  rw [r i]
  by_cases c : i = l.length + 1
  · obtain ⟨v', a, P⟩ := R.2 l.length (by omega)
    rw [ge_m] at a
    rw [if_pos c, c, ge_m1]
    exact ⟨w, rfl, by rw [Option.some.inj a]; exact P⟩
  · rw [if_neg c]
    by_cases d : i = l.length
    · obtain ⟨v', a, P⟩ := R.2 (l.length + 1) ll
      rw [ge_m1] at a
      rw [if_pos d, d, ge_m]
      exact ⟨v, rfl, by rw [Option.some.inj a]; exact P⟩
    · rw [if_neg d, ge_sw l v w b d c]
      exact R.2 i hi
theorem ins_152 (D : VD V) {x3 : Int32} {pre a1 : List MvT} {v : MvT} (e3 : x3.toInt = (pre.length : Int)) (q1 : ∀ w, w ∈ a1 → w.2.1 ≤ v.2.1) : ∀ (f : Nat) {h : Hp} {x6 : Int32} {a2 b : List MvT}, hR h (V 6) 5 = some (V 47) → (∀ w, w ∈ a2 → v.2.1 < w.2.1) → x6.toInt = ((pre ++ (a1 ++ a2)).length : Int) → CLs V h (pre ++ (a1 ++ a2) ++ v :: b) → sX5_addCastling_152 F f h (V 6) x3 x6 = some o → FrV V (wl wcl) h o ∧ hN o (V 47) = hN h (V 47) ∧ CLs V o (pre ++ a1 ++ v :: (a2 ++ b)) := by
  have z1 : (1 : Int32).toInt = 1 := rfl
  have zm : (-1 : Int32).toInt = -1 := by decide
  intro f
  induction f with
  | zero => intro h x6 a2 b _ _ _ _ e; exact absurd e (by rw [sX5_addCastling_152]; exact fun z => nomatch z)
  | succ f ih =>
    intro h x6 a2 b w5 q2 e6 R e
    have up : x6.toInt ≤ 2147483647 := Int32.toInt_le x6
    rw [sX5_addCastling_152] at e
    unfold sX5_addCastling_225 sX5_comeTo at e
    have c6 : x6.toNatClampNeg = (pre ++ (a1 ++ a2)).length := by have := nc_i (x := x6) (by omega); omega
    rcases List.eq_nil_or_concat a2 with n2 | ⟨a', w, n2⟩
    · -- he stands where he belongs
      have fin : some h = some o → FrV V (wl wcl) h o ∧ hN o (V 47) = hN h (V 47) ∧ CLs V o (pre ++ a1 ++ v :: (a2 ++ b)) := fun u => by
        rw [so_e u, n2]
        rw [n2, List.append_nil] at R
        exact ⟨fv_0, rfl, R⟩
      rcases br_s e with ⟨c, e⟩ | ⟨c, e⟩
      · exact fin e
      have c := nle_i c
      rw [e3, e6, n2, List.append_nil, List.length_append] at c
      rcases List.eq_nil_or_concat a1 with n1 | ⟨a', w, n1⟩
      · rw [n1] at c
        simp at c
      have l6 : (pre ++ (a1 ++ a2)).length = (pre ++ a').length + 1 := by
        rw [n2, n1]
        simp only [List.length_append, List.length_concat, List.concat_eq_append, List.append_nil, List.length_cons, List.length_nil]
        omega
      have R' : CLs V h (pre ++ a' ++ w :: v :: b) := by
        have : pre ++ (a1 ++ a2) ++ v :: b = pre ++ a' ++ w :: v :: b := by
          rw [n2, n1]
          simp
        rw [← this]; exact R
      have ll : (pre ++ a').length + 1 < (pre ++ a' ++ w :: v :: b).length := by
        rw [List.length_append (as := pre ++ a'), List.length_cons, List.length_cons]; omega
      obtain ⟨w', aw, Pw'⟩ := R'.2 (pre ++ a').length (by omega)
      rw [ge_m] at aw
      obtain ⟨v', av, Pv'⟩ := R'.2 ((pre ++ a').length + 1) ll
      rw [ge_m1] at av
      have tw := (pk_fd Pw').1
      have tv := (pk_fd Pv').1
      rw [← Option.some.inj aw] at tw
      rw [← Option.some.inj av] at tv
      have t1 : (x6 - (1 : Int32)).toInt = x6.toInt - 1 := by rw [ts (by rw [z1]; omega), z1]
      have c1 : (x6 - (1 : Int32)).toNatClampNeg = (pre ++ a').length := by have := nc_i (x := x6 - (1 : Int32)) (by omega); omega
      replace e := ce_e w5 e
      replace e := gg_e e
      replace e := cl_s e; obtain ⟨o4, eo4, e⟩ := e
      rw [so_e eo4] at e
      replace e := ce_e w5 e
      replace e := gg_e e
      replace e := cl_s e; obtain ⟨o7, eo7, e⟩ := e
      rw [so_e eo7] at e
      rcases br_s e with ⟨y, e⟩ | ⟨y, e⟩
      · exact fin e
      · exfalso
        dsimp only at y
        rw [c1, c6, l6] at y
        have y := nle_i y
        rw [tw, tv] at y
        have := q1 w (by rw [n1]; simp)
        omega
    · -- one comes behind him
      have l6 : (pre ++ (a1 ++ a2)).length = (pre ++ (a1 ++ a')).length + 1 := by
        rw [n2]
        simp only [List.length_append, List.length_concat, List.concat_eq_append, List.length_cons, List.length_nil]
        omega
      have lp : pre.length ≤ (pre ++ (a1 ++ a')).length := by rw [List.length_append]; omega
      have R' : CLs V h (pre ++ (a1 ++ a') ++ w :: v :: b) := by
        have : pre ++ (a1 ++ a2) ++ v :: b = pre ++ (a1 ++ a') ++ w :: v :: b := by
          rw [n2]
          simp
        rw [← this]; exact R
      have ll : (pre ++ (a1 ++ a')).length + 1 < (pre ++ (a1 ++ a') ++ w :: v :: b).length := by
        rw [List.length_append (as := pre ++ (a1 ++ a')), List.length_cons, List.length_cons]; omega
      obtain ⟨w', aw, Pw'⟩ := R'.2 (pre ++ (a1 ++ a')).length (by omega)
      rw [ge_m] at aw
      obtain ⟨v', av, Pv'⟩ := R'.2 ((pre ++ (a1 ++ a')).length + 1) ll
      rw [ge_m1] at av
      have tw := (pk_fd Pw').1
      have tv := (pk_fd Pv').1
      rw [← Option.some.inj aw] at tw
      rw [← Option.some.inj av] at tv
      have t1 : (x6 - (1 : Int32)).toInt = x6.toInt - 1 := by rw [ts (by rw [z1]; omega), z1]
      have c1 : (x6 - (1 : Int32)).toNatClampNeg = (pre ++ (a1 ++ a')).length := by have := nc_i (x := x6 - (1 : Int32)) (by omega); omega
      replace e := bn_e (fun z => by have := le_i z; omega) e
      replace e := ce_e w5 e
      replace e := gg_e e
      replace e := cl_s e; obtain ⟨o4, eo4, e⟩ := e
      rw [so_e eo4] at e
      replace e := ce_e w5 e
      replace e := gg_e e
      replace e := cl_s e; obtain ⟨o7, eo7, e⟩ := e
      rw [so_e eo7] at e
      replace e := bn_e (fun z => by
        dsimp only at z
        rw [c1, c6, l6] at z
        have z := le_i z
        rw [tw, tv] at z
        have := q2 w (by rw [n2]; simp)
        omega) e
      dsimp only at e
      replace e := ce_e w5 e
      replace e := gg_e e
      replace e := nm_s e; obtain ⟨v11, u11, e⟩ := e
      replace e := ce_e w5 e
      replace e := ce_e w5 e
      replace e := gg_e e
      replace e := gg_e e
      replace e := nm_s e; obtain ⟨g1, ug1, e⟩ := e
      rw [c1, c6, l6] at ug1
      rw [c1] at u11
      replace e := ce_e (show hR g1 (V 6) 5 = some (V 47) by rw [ug1]; exact w5) e
      replace e := gg_e e
      replace e := nm_s e; obtain ⟨g2, ug2, e⟩ := e
      rw [c6, l6] at ug2
      have A : FrV V (wl wcl) h g2 := fv_t (g2 := g1) (by rw [ug1]; exact fv_w (wl_9 (by decide))) (by rw [ug2]; exact fv_w (wl_9 (by decide)))
      have n47 : hN g2 (V 47) = hN h (V 47) := by rw [ug2, ug1]; rfl
      have rows : ∀ i, hI g2 (V 47) i = if i = (pre ++ (a1 ++ a')).length + 1 then hI h (V 47) (pre ++ (a1 ++ a')).length else if i = (pre ++ (a1 ++ a')).length then hI h (V 47) ((pre ++ (a1 ++ a')).length + 1) else hI h (V 47) i := fun i => by
        rw [ug2, r_I]
        by_cases y : i = (pre ++ (a1 ++ a')).length + 1
        · rw [if_pos ⟨rfl, y⟩, if_pos y, u11]
        · rw [if_neg (fun z => y z.2), if_neg y, ug1, r_I]
          by_cases y' : i = (pre ++ (a1 ++ a')).length
          · rw [if_pos ⟨rfl, y'⟩, if_pos y']
          · rw [if_neg (fun z => y' z.2), if_neg y']
      have R2 : CLs V g2 (pre ++ (a1 ++ a') ++ v :: w :: b) := sw_c R' (by rw [ug2, rI_a (vne D), ug1, rI_a (vne D)]) rows
      have t6 : (x6 + (-1 : Int32)).toInt = ((pre ++ (a1 ++ a')).length : Int) := by rw [ta (by rw [zm]; omega), zm]; omega
      obtain ⟨A', n', R''⟩ := ih (a2 := a') (b := w :: b) (by rw [A.1]; exact w5) (fun u hu => q2 u (by rw [n2]; simp [hu])) t6 R2 (nx_e e)
      refine ⟨fv_t A A', by rw [n', n47], ?_⟩
      have : a' ++ w :: b = a2 ++ b := by
        rw [n2]
        simp
      rw [← this]; exact R''
end
end
