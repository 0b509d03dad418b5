section
/-! BEFORE, the class: order of codes, keeping one -/
def CdN (c : Cd) : Prop := c.1 < 64 ∧ c.2.1 < 64 ∧ c.2.2.1 < 12 ∧ (c.2.2.2 < 12 ∨ c.2.2.2 = 15)
theorem cd_n {L : Nat → Nat → Int} {B : Pz} {c : Cd} (H : LOk L) (K : CdK L B c) : CdN c := by
  have L2 := H.2.2.1
  have a := K.1.2.2.1
  exact ⟨K.1.1.1, K.1.2.1.1, by omega, by
    rcases K.2 with z | z
    · exact Or.inr z
    · exact Or.inl (by omega)⟩
theorem cd_dec {x : Int32} {c : Cd} (K : CdN c) (ex : x.toInt = cdI c) : (x &&& (63 : Int32)).toInt = (c.1 : Int) ∧ ((x >>> ((6 : Int32) &&& 31)) &&& (63 : Int32)).toInt = (c.2.1 : Int) ∧ ((x >>> ((12 : Int32) &&& 31)) &&& (15 : Int32)).toInt = (c.2.2.1 : Int) ∧ ((x >>> ((16 : Int32) &&& 31)) &&& (15 : Int32)).toInt = (c.2.2.2 : Int) ∧ 0 ≤ x.toInt := by
  obtain ⟨ls, lt, lm, la⟩ := K
  unfold cdI at ex
  have x0 : 0 ≤ x.toInt := by omega
  have s16 : (x >>> ((16 : Int32) &&& 31)).toInt = x.toInt / 65536 := shr_i (s := 16) 16 rfl
  have s12 : (x >>> ((12 : Int32) &&& 31)).toInt = x.toInt / 4096 := shr_i (s := 12) 12 rfl
  refine ⟨by rw [and63_i x0]; omega, by rw [and63_i (by rw [shr6_i]; omega), shr6_i]; omega, ?_, ?_, x0⟩
  · rw [and_i (m := 4) (by rw [s12]; omega) (by decide) rfl, s12]; omega
  · rw [and_i (m := 4) (by rw [s16]; omega) (by decide) rfl, s16]; omega
section
variable {n F : Nat} {g h : Hp} {L : Nat → Nat → Int} {B : Pz} {c c' : Cd} {x y : Int32} {o : Int32 × Hp}
theorem tk_k (k : DyK n g h) (Ab : CpA h (n + 49) (L 10 0) B) (S2 : pzS B < 2) (K : CdN c) (ex : x.toInt = cdI c) (e : sX6_takenIn h (n + 48) x = some o) : o.2 = h ∧ o.1.toInt + 1 = (if c.2.2.2 = 15 then 0 else cdV c.2.2.2 (1 - (pzS B : Int))) := by
  have z1 : (1 : Int32).toInt = 1 := rfl
  have z2 : (2 : Int32).toInt = 2 := rfl
  obtain ⟨_, _, _, va, _⟩ := cd_dec K ex
  have la := K.2.2.2
  have sd : (hI h (n + 49) 5).toInt = (pzS B : Int) := Ab.2.2.1
  unfold sX6_takenIn sX6_takenIn_31 at e
  replace e := nx_e e
  rcases br_s e with ⟨c1, e⟩ | ⟨c1, e⟩
  · have c1 : ((x >>> ((16 : Int32) &&& 31)) &&& (15 : Int32)) = 15 := c1
    rw [c1] at va
    have z15 : (15 : Int32).toInt = 15 := rfl
    rw [so_e e, if_pos (by omega)]
    exact ⟨rfl, rfl⟩
  · have c1 := ne_i c1
    have c1 : ¬ ((x >>> ((16 : Int32) &&& 31)) &&& (15 : Int32)).toInt = 15 := c1
    replace e := ce_e (dk_e (a := 48) (f := 3) (b := 49) k (by decide +kernel)) e
    rw [so_e e, if_neg (by omega)]
    have v1 : ((2 : Int32) * ((x >>> ((16 : Int32) &&& 31)) &&& (15 : Int32))).toInt = 2 * (c.2.2.2 : Int) := by rw [tm (by rw [z2]; omega), z2, va]
    have v2 : (((2 : Int32) * ((x >>> ((16 : Int32) &&& 31)) &&& (15 : Int32))) + (1 : Int32)).toInt = 2 * (c.2.2.2 : Int) + 1 := by rw [ta (by omega), v1, z1]
    refine ⟨rfl, ?_⟩
    show (_ - hI h (n + 49) 5).toInt + 1 = _
    rw [ts (by omega), v2, sd]
    unfold cdV
    omega
theorem so_k (k : DyK n g h) (Ab : CpA h (n + 49) (L 10 0) B) (S2 : pzS B < 2) (K : CdN c) (ex : x.toInt = cdI c) {q : Nat} (ey : y.toInt = (q : Int)) (q64 : q < 64) (e : sX6_standsOn h (n + 48) x y = some o) : o.2 = h ∧ o.1.toInt + 1 = (cdP B c).1 q := by
  have z2 : (2 : Int32).toInt = 2 := rfl
  obtain ⟨vs, vt, vm, va, _⟩ := cd_dec K ex
  obtain ⟨ls, lt, lm, la⟩ := K
  have sd : (hI h (n + 49) 5).toInt = (pzS B : Int) := Ab.2.2.1
  unfold sX6_standsOn sX6_standsOn_54 at e
  have gu : (cdP B c).1 q = if q = c.1 then cdV c.2.2.1 (pzS B) else if q = c.2.1 then (if c.2.2.2 = 15 then 0 else cdV c.2.2.2 (1 - (pzS B : Int))) else B.1 q := rfl
  rw [gu]
  rcases br_s e with ⟨c1, e⟩ | ⟨c1, e⟩
  · rw [c1, vs] at ey
    rw [if_pos (by omega)]
    replace e := ce_e (dk_e (a := 48) (f := 3) (b := 49) k (by decide +kernel)) e
    rw [so_e e]
    have v1 : ((2 : Int32) * ((x >>> ((12 : Int32) &&& 31)) &&& (15 : Int32))).toInt = 2 * (c.2.2.1 : Int) := by rw [tm (by rw [z2]; omega), z2, vm]
    refine ⟨rfl, ?_⟩
    show (_ + hI h (n + 49) 5).toInt + 1 = _
    rw [ta (by omega), v1, sd]
    unfold cdV
    omega
  · have n1 : ¬ q = c.1 := fun z => c1 (Int32.toInt_inj.mp (by rw [ey, vs, z]))
    rw [if_neg n1]
    rcases br_s e with ⟨c2, e⟩ | ⟨c2, e⟩
    · rw [c2, vt] at ey
      rw [if_pos (by omega)]
      obtain ⟨o6, e6, e⟩ := cl_s e
      obtain ⟨t1, t2⟩ := tk_k k Ab S2 ⟨ls, lt, lm, la⟩ ex e6
      rw [so_e e]
      exact ⟨t1, t2⟩
    · have n2 : ¬ q = c.2.1 := fun z => c2 (Int32.toInt_inj.mp (by rw [ey, vt, z]))
      rw [if_neg n2]
      replace e := ce_e (dk_e (a := 48) (f := 3) (b := 49) k (by decide +kernel)) e
      replace e := ce_e Ab.1.1 e
      replace e := gg_e e
      rw [so_e e]
      have nq : y.toNatClampNeg = q := by have := nc_i (x := y) (by omega); omega
      refine ⟨rfl, ?_⟩
      show (hI h (n + 49 + 1) y.toNatClampNeg).toInt + 1 = _
      rw [nq]
      have := Ab.2.1.1 q q64
      have this : (hI h (n + 49 + 1) q).toInt = B.1 q - 1 := this
      omega
theorem wf_k (k : DyK n g h) (C : ClL n h L) {q q' : Nat} (ex : x.toInt = (q : Int)) (ey : y.toInt = (q' : Int)) (qL : (q : Int) < L 0 0 * L 1 0) (qL' : (q' : Int) < L 0 0 * L 1 0) (e : sX6_isWrittenFirst h (n + 48) x y = some o) : o.2 = h ∧ ((o.1 = 0 ∧ ¬ WFi L q q') ∨ (o.1 = 1 ∧ WFi L q q')) := by
  have nx : x.toNatClampNeg = q := by have := nc_i (x := x) (by omega); omega
  have ny : y.toNatClampNeg = q' := by have := nc_i (x := y) (by omega); omega
  have rq : (hI h (n + 12) q).toInt = (q : Int) / L 0 0 := (C.2.1.2.2.2.2.2 q qL).2
  have rq' : (hI h (n + 12) q').toInt = (q' : Int) / L 0 0 := (C.2.1.2.2.2.2.2 q' qL').2
  unfold sX6_isWrittenFirst sX6_isWrittenFirst_47 sX6_isWrittenFirst_51 sX6_isWrittenFirst_52 at e
  have d1 := dk_e (a := 48) (f := 0) (b := 5) k (by decide +kernel)
  have d2 := dk_e (a := 5) (f := 20) (b := 12) k (by decide +kernel)
  replace e := ce_e d1 e
  replace e := ce_e d2 e
  replace e := gg_e e
  replace e := ce_e d1 e
  replace e := ce_e d2 e
  replace e := gg_e e
  unfold WFi
  rcases br_s e with ⟨c1, e⟩ | ⟨c1, e⟩ <;> rw [nx, ny] at c1
  · have c1 := lt_i c1
    rw [so_e (gg_e e)]
    exact ⟨rfl, Or.inr ⟨rfl, Or.inl (by omega)⟩⟩
  have c1 := nlt_i c1
  replace e := ce_e d1 e
  replace e := ce_e d2 e
  replace e := gg_e e
  replace e := ce_e d1 e
  replace e := ce_e d2 e
  replace e := gg_e e
  rcases br_s e with ⟨c2, e⟩ | ⟨c2, e⟩ <;> rw [nx, ny] at c2
  · rw [c2] at rq
    rcases br_s e with ⟨c3, e⟩ | ⟨c3, e⟩
    · have c3 := le_i c3
      rw [so_e (gg_e e)]
      exact ⟨rfl, Or.inl ⟨rfl, by omega⟩⟩
    · have c3 := nle_i c3
      rw [so_e (gg_e e)]
      exact ⟨rfl, Or.inr ⟨rfl, Or.inr (by omega)⟩⟩
  · have c2 := ne_i c2
    rw [so_e (gg_e e)]
    exact ⟨rfl, Or.inl ⟨rfl, by omega⟩⟩
/-- what decides -/
theorem cf_150 (k : DyK n g h) (C : ClL n h L) (Ab : CpA h (n + 49) (L 10 0) B) (S2 : pzS B < 2) (K : CdN c) (ex : x.toInt = cdI c) {q : Nat} {x3 x4 : Int32} (e3 : x3.toInt = (q : Int)) (q64 : q < 64) (qL : (q : Int) < L 0 0 * L 1 0) (e4 : x4.toInt + 1 = (cdP B c).1 q) (e : sX6_comesFirst_150 F h (n + 48) x x3 x4 = some o) : o.2 = h ∧ ((o.1 = 1 ∧ ((cdP B c).1 q = 0 ↔ ¬ (0 < (q : Int) % L 0 0 ∧ (cdP B c).1 (q - 1) = 0))) ∨ (o.1 = 0 ∧ ((cdP B c).1 q = 0 ↔ (0 < (q : Int) % L 0 0 ∧ (cdP B c).1 (q - 1) = 0)))) := by
  have z0 : (0 : Int32).toInt = 0 := rfl
  have z1 : (1 : Int32).toInt = 1 := rfl
  have zm : (-1 : Int32).toInt = -1 := rfl
  have nq : x3.toNatClampNeg = q := by have := nc_i (x := x3) (by omega); omega
  have fq : (hI h (n + 11) q).toInt = (q : Int) % L 0 0 := (C.2.1.2.2.2.2.2 q qL).1
  have m1 : x4 = (-1 : Int32) ↔ (cdP B c).1 q = 0 := by
    rw [← e4]
    exact ⟨fun z => by rw [z]; rfl, fun z => Int32.toInt_inj.mp (by rw [zm]; omega)⟩
  have fin : ∀ {t0 : Int32} {h' : Hp}, h' = h → ((t0 = 0 ∧ ¬ (0 < (q : Int) % L 0 0 ∧ (cdP B c).1 (q - 1) = 0)) ∨ (t0 = 1 ∧ (0 < (q : Int) % L 0 0 ∧ (cdP B c).1 (q - 1) = 0))) → sX6_comesFirst_179 F h' x4 t0 = some o → o.2 = h ∧ ((o.1 = 1 ∧ ((cdP B c).1 q = 0 ↔ ¬ (0 < (q : Int) % L 0 0 ∧ (cdP B c).1 (q - 1) = 0))) ∨ (o.1 = 0 ∧ ((cdP B c).1 q = 0 ↔ (0 < (q : Int) % L 0 0 ∧ (cdP B c).1 (q - 1) = 0)))) := fun {t0 h'} hh be e => by
    unfold sX6_comesFirst_179 sX6_comesFirst_192 sX6_comesFirst_202 at e
    rw [hh] at e
    rcases br_s e with ⟨c1, e⟩ | ⟨c1, e⟩
    · have y := m1.mp c1
      rcases be with ⟨b1, b2⟩ | ⟨b1, b2⟩
      · rw [b1] at e
        replace e := bn_e (by decide) e
        rw [so_e (gg_e e)]
        exact ⟨rfl, Or.inl ⟨rfl, fun _ => b2, fun _ => y⟩⟩
      · rw [b1] at e
        replace e := bp_e rfl e
        rw [so_e (gg_e e)]
        exact ⟨rfl, Or.inr ⟨rfl, fun _ => b2, fun _ => y⟩⟩
    · have y : ¬ (cdP B c).1 q = 0 := fun z => c1 (m1.mpr z)
      rcases be with ⟨b1, b2⟩ | ⟨b1, b2⟩
      · rw [b1] at e
        replace e := bp_e rfl e
        rw [so_e (gg_e e)]
        exact ⟨rfl, Or.inr ⟨rfl, fun z => absurd z y, fun z => absurd z b2⟩⟩
      · rw [b1] at e
        replace e := bn_e (by decide) e
        rw [so_e (gg_e e)]
        exact ⟨rfl, Or.inl ⟨rfl, fun z => absurd z y, fun z => absurd b2 z⟩⟩
  unfold sX6_comesFirst_150 sX6_comesFirst_178 at e
  replace e := ce_e (dk_e (a := 48) (f := 0) (b := 5) k (by decide +kernel)) e
  replace e := ce_e (dk_e (a := 5) (f := 19) (b := 11) k (by decide +kernel)) e
  replace e := gg_e e
  rw [nq] at e
  rcases br_s e with ⟨c1, e⟩ | ⟨c1, e⟩
  · have c1 := le_i c1
    exact fin rfl (Or.inl ⟨rfl, fun z => by omega⟩) e
  have c1 := nle_i c1
  have q1 : 1 ≤ q := by
    by_cases y : q = 0
    · rw [y] at fq
      have : ((0 : Nat) : Int) % L 0 0 = 0 := Int.zero_emod _
      rw [this] at fq
      rw [y] at c1
      omega
    · omega
  obtain ⟨o5, e5, e⟩ := cl_s e
  obtain ⟨t1, t2⟩ := so_k k Ab S2 K ex (q := q - 1) (by rw [ts (by omega), e3, z1]; omega) (by omega) e5
  rcases br_s e with ⟨c2, e⟩ | ⟨c2, e⟩
  · rw [c2, zm] at t2
    exact fin t1 (Or.inr ⟨rfl, by omega, by omega⟩) e
  · have c2 := ne_i c2
    exact fin t1 (Or.inl ⟨rfl, fun z => c2 (by omega)⟩) e
def plQ (c c' : Cd) (i : Nat) : Nat := if i = 0 then c.1 else if i = 1 then c.2.1 else if i = 2 then c'.1 else c'.2.1
/-- the square found so far -/
def CfI (L : Nat → Nat → Int) (B : Pz) (c c' : Cd) (i : Nat) (x3 : Int32) : Prop := (x3 = (-1 : Int32) ∧ ∀ j, j < i → (cdP B c).1 (plQ c c' j) = (cdP B c').1 (plQ c c' j)) ∨ ∃ q : Nat, x3.toInt = (q : Int) ∧ (∃ j, j < i ∧ q = plQ c c' j) ∧ ¬ (cdP B c).1 q = (cdP B c').1 q ∧ ∀ j, j < i → ¬ (cdP B c).1 (plQ c c' j) = (cdP B c').1 (plQ c c' j) → plQ c c' j = q ∨ WFi L q (plQ c c' j)
theorem plq_l {i : Nat} (H : LOk L) (HM : MOk L B.1) (K : CdK L B c) (K' : CdK L B c') : plQ c c' i < 64 ∧ (plQ c c' i : Int) < L 0 0 * L 1 0 := by
  have a := K.1
  have b := K'.1
  have ta := ((HM _ a.2.1.1).2 a.2.1.2.1).1
  have tb := ((HM _ b.2.1.1).2 b.2.1.2.1).1
  unfold plQ
  split
  · exact ⟨a.1.1, a.1.2.1⟩
  · split
    · exact ⟨a.2.1.1, ta⟩
    · split
      · exact ⟨b.1.1, b.1.2.1⟩
      · exact ⟨b.2.1.1, tb⟩
theorem wfi_t {q q' u : Nat} (a : WFi L q q') (b : WFi L q' u) : WFi L q u := by
  unfold WFi at a b ⊢
  omega
theorem wfi_or {q q' : Nat} (n : ¬ q = q') (a : ¬ WFi L q q') : WFi L q' q := by
  unfold WFi at a ⊢
  omega
theorem cf_57 {K5 : Hp → Nat → Int32 → Int32 → Int32 → Int32 → Option (Int32 × Hp)} {i : Nat} {x3 x4 x5 t0 : Int32} {Q : Prop} (k : DyK n g h) (C : ClL n h L) (pl : ∀ j, (plQ c c' j : Int) < L 0 0 * L 1 0) (I : CfI L B c c' i x3) (e5 : x5.toInt = (plQ c c' i : Int)) (dt : (t0 = 0 ∧ (cdP B c).1 (plQ c c' i) = (cdP B c').1 (plQ c c' i)) ∨ (t0 = 1 ∧ ¬ (cdP B c).1 (plQ c c' i) = (cdP B c').1 (plQ c c' i))) (hK : ∀ {x3 : Int32}, CfI L B c c' (i + 1) x3 → K5 h (n + 48) x y x3 (x4 + (1 : Int32)) = some o → Q) (e : sX6_comesFirst_57 F K5 h (n + 48) x y x3 x4 x5 t0 = some o) : Q := by
  unfold sX6_comesFirst_57 sX6_comesFirst_79 sX6_comesFirst_82 at e
  have nw : (¬ (cdP B c).1 (plQ c c' i) = (cdP B c').1 (plQ c c' i)) → (∀ j, j < i → ¬ (cdP B c).1 (plQ c c' j) = (cdP B c').1 (plQ c c' j) → plQ c c' j = plQ c c' i ∨ WFi L (plQ c c' i) (plQ c c' j)) → CfI L B c c' (i + 1) x5 := fun d al => Or.inr ⟨_, e5, ⟨i, by omega, rfl⟩, d, fun j hj dj => by
    by_cases z : j = i
    · rw [z]; exact Or.inl rfl
    · exact al j (by omega) dj⟩
  have old : (∀ q : Nat, x3.toInt = (q : Int) → ¬ (cdP B c).1 (plQ c c' i) = (cdP B c').1 (plQ c c' i) → plQ c c' i = q ∨ WFi L q (plQ c c' i)) → (x3 = (-1 : Int32) → (cdP B c).1 (plQ c c' i) = (cdP B c').1 (plQ c c' i)) → CfI L B c c' (i + 1) x3 := fun al nn => by
    rcases I with ⟨a, b⟩ | ⟨q, a, ⟨j0, b0, b1⟩, b2, b3⟩
    · refine Or.inl ⟨a, fun j hj => ?_⟩
      by_cases z : j = i
      · rw [z]; exact nn a
      · exact b j (by omega)
    · refine Or.inr ⟨q, a, ⟨j0, by omega, b1⟩, b2, fun j hj dj => ?_⟩
      by_cases z : j = i
      · rw [z] at dj ⊢; exact al q a dj
      · exact b3 j (by omega) dj
  rcases dt with ⟨d1, d2⟩ | ⟨d1, d2⟩
  · replace e := bp_e d1 e
    replace e := nx_e e
    exact hK (old (fun q _ z => absurd d2 z) (fun _ => d2)) e
  · replace e := bn_e (by rw [d1]; decide) e
    rcases br_s e with ⟨c1, e⟩ | ⟨c1, e⟩
    · replace e := nx_e e
      refine hK (nw d2 (fun j hj dj => ?_)) e
      rcases I with ⟨a, b⟩ | ⟨q, a, _⟩
      · exact absurd (b j hj) dj
      · rw [c1] at a
        have zm : (-1 : Int32).toInt = -1 := rfl
        omega
    · rcases I with ⟨a, b⟩ | ⟨q, a, ⟨j0, b0, b1⟩, b2, b3⟩
      · exact absurd a c1
      obtain ⟨o3, e3, e⟩ := cl_s e
      obtain ⟨w1, w2⟩ := wf_k k C e5 a (pl i) (by rw [b1]; exact pl j0) e3
      rw [w1] at e
      rcases br_s e with ⟨c2, e⟩ | ⟨c2, e⟩
      · replace e := nx_e e
        refine hK (old (fun q' a' dj => ?_) (fun z => absurd z c1)) e
        have eq : q' = q := by omega
        rw [eq]
        rcases w2 with ⟨_, w2⟩ | ⟨w2, _⟩
        · by_cases z : plQ c c' i = q
          · exact Or.inl z
          · exact Or.inr (wfi_or z w2)
        · rw [w2] at c2; exact absurd c2 (by decide)
      · replace e := nx_e e
        rcases w2 with ⟨w2, _⟩ | ⟨_, w2⟩
        · exact absurd w2 c2
        refine hK (nw d2 (fun j hj dj => ?_)) e
        rcases b3 j hj dj with z | z
        · rw [z]; exact Or.inr w2
        · exact Or.inr (wfi_t w2 z)
theorem cf_5 (H : LOk L) (T : LtO L) (D : LtD L) (HM : MOk L B.1) (S2 : pzS B < 2) (k : DyK n g h) (C : ClL n h L) (Ab : CpA h (n + 49) (L 10 0) B) (K : CdK L B c) (K' : CdK L B c') (ne : ¬ c = c') (ex : x.toInt = cdI c) (ey : y.toInt = cdI c') : ∀ (f : Nat) {x3 x4 : Int32} {i : Nat}, x4.toInt = (i : Int) → i ≤ 4 → CfI L B c c' i x3 → sX6_comesFirst_5 F f h (n + 48) x y x3 x4 = some o → o.2 = h ∧ ((o.1 = 0 ∧ CdLt L B c' c) ∨ (o.1 = 1 ∧ CdLt L B c c')) := by
  have z0 : (0 : Int32).toInt = 0 := rfl
  have z1 : (1 : Int32).toInt = 1 := rfl
  have z2 : (2 : Int32).toInt = 2 := rfl
  have z4 : (4 : Int32).toInt = 4 := rfl
  have zm : (-1 : Int32).toInt = -1 := rfl
  have N := cd_n H K
  have N' := cd_n H K'
  have m := cd_mok H HM S2 K
  have m' := cd_mok H HM S2 K'
  have pl : ∀ j, plQ c c' j < 64 ∧ (plQ c c' j : Int) < L 0 0 * L 1 0 := fun j => plq_l H HM K K'
  intro f
  induction f with
  | zero => intro x3 x4 i _ _ _ e; exact absurd e (by rw [sX6_comesFirst_5]; exact fun z => nomatch z)
  | succ f ih =>
    intro x3 x4 i i4 le I e
    rw [sX6_comesFirst_5] at e
    rcases br_s e with ⟨c1, e⟩ | ⟨c1, e⟩
    · have c1 := le_i c1
      have i4' : i = 4 := by omega
      rw [i4'] at I
      obtain ⟨q0, q64, dq⟩ := cdk_ne H S2 K K' ne
      have p4 : ∀ q, ¬ (cdP B c).1 q = (cdP B c').1 q → ∃ j, j < 4 ∧ q = plQ c c' j := fun q d => by
        rcases cd_diff d with z | z | z | z
        · exact ⟨0, by decide, z⟩
        · exact ⟨1, by decide, z⟩
        · exact ⟨2, by decide, z⟩
        · exact ⟨3, by decide, z⟩
      rcases I with ⟨a, b⟩ | ⟨q, a, ⟨j0, b0, b1⟩, b2, b3⟩
      · obtain ⟨j, hj, ej⟩ := p4 q0 dq
        rw [ej] at dq
        exact absurd (b j hj) dq
      have q64' : q < 64 := by rw [b1]; exact (pl j0).1
      have qL : (q : Int) < L 0 0 * L 1 0 := by rw [b1]; exact (pl j0).2
      have fd : FsD L (cdP B c) (cdP B c') q := ⟨q64', b2, fun q' h' d' => by
        obtain ⟨j, hj, ej⟩ := p4 q' d'
        rw [ej] at d' ⊢
        exact b3 j hj d'⟩
      have yes : CfD L (cdP B c) (cdP B c') q → CdLt L B c c' := fun z => cf_lt H T m m' fd z
      have no : ¬ CfD L (cdP B c) (cdP B c') q → CdLt L B c' c := fun z => cf_lt H T m' m (fsd_s fd) (cf_or H T D m m' fd z)
      replace e := bn_e (fun z => by rw [z, zm] at a; omega) e
      obtain ⟨o3, e3, e⟩ := cl_s e
      obtain ⟨s1, s2⟩ := so_k k Ab S2 N ex a q64' e3
      rw [s1] at e
      obtain ⟨o4, e4, e⟩ := cl_s e
      obtain ⟨t1, t2⟩ := so_k k Ab S2 N' ey a q64' e4
      rw [t1] at e
      have mq := m q q64'
      have mq' := m' q q64'
      have emp : ((cdP B c).1 q = 0 ∨ (cdP B c').1 q = 0) → sX6_comesFirst_150 F h (n + 48) x x3 o3.1 = some o → o.2 = h ∧ ((o.1 = 0 ∧ CdLt L B c' c) ∨ (o.1 = 1 ∧ CdLt L B c c')) := fun em e => by
        obtain ⟨u1, u2⟩ := cf_150 k C Ab S2 N ex a q64' qL s2 e
        refine ⟨u1, ?_⟩
        rcases u2 with ⟨u2, u3⟩ | ⟨u2, u3⟩
        · refine Or.inr ⟨u2, yes ?_⟩
          by_cases w : (cdP B c).1 q = 0
          · exact Or.inr (Or.inr ⟨w, by omega, u3.mp w⟩)
          · refine Or.inr (Or.inl ⟨by omega, by omega, ?_⟩)
            exact Classical.byContradiction fun z => w (u3.mpr z)
        · refine Or.inl ⟨u2, no (fun z => ?_)⟩
          rcases z with ⟨z1, z2, _⟩ | ⟨z1, z2, z3⟩ | ⟨z1, z2, z3⟩
          · omega
          · have := u3.mpr z3
            omega
          · exact z3 (u3.mp z1)
      rcases br_s e with ⟨c3, e⟩ | ⟨c3, e⟩
      · rw [c3, zm] at s2
        exact emp (Or.inl (by omega)) e
      rcases br_s e with ⟨c4, e⟩ | ⟨c4, e⟩
      · rw [c4, zm] at t2
        exact emp (Or.inr (by omega)) e
      have c3 := ne_i c3
      have c4 := ne_i c4
      rw [zm] at c3 c4
      have p0 : 0 < (cdP B c).1 q := by omega
      have p0' : 0 < (cdP B c').1 q := by omega
      replace e := ce_e (dk_e (a := 48) (f := 0) (b := 5) k (by decide +kernel)) e
      obtain ⟨o8, e8, e⟩ := cl_s e
      obtain ⟨l1, l2, _⟩ := lto_c (V := vK n 0 0 0 0 0 0) (v := (cdP B c).1 q) H T C.2 (by omega) p0 (mq.2 p0).2 e8
      rw [l1] at e
      replace e := ce_e (dk_e (a := 48) (f := 0) (b := 5) k (by decide +kernel)) e
      obtain ⟨o10, e10, e⟩ := cl_s e
      obtain ⟨r1, r2, _⟩ := lto_c (V := vK n 0 0 0 0 0 0) (v := (cdP B c').1 q) H T C.2 (by omega) p0' (mq'.2 p0').2 e10
      rw [r1] at e
      unfold sX6_comesFirst_149 at e
      rcases br_s e with ⟨c5, e⟩ | ⟨c5, e⟩
      · have c5 := le_i c5
        rw [so_e (gg_e e)]
        refine ⟨rfl, Or.inl ⟨rfl, no (fun z => ?_)⟩⟩
        rcases z with ⟨_, _, z⟩ | ⟨_, z, _⟩ | ⟨z, _⟩
        · omega
        · omega
        · omega
      · have c5 := nle_i c5
        rw [so_e (gg_e e)]
        exact ⟨rfl, Or.inr ⟨rfl, yes (Or.inl ⟨p0, p0', by omega⟩)⟩⟩
    · have c1 := nle_i c1
      have lt : i < 4 := by omega
      have body : ∀ {t0 : Int32}, ((t0 >>> (((6 : Int32) * (x4 &&& (1 : Int32))) &&& 31)) &&& (63 : Int32)).toInt = (plQ c c' i : Int) → sX6_comesFirst_22 F (sX6_comesFirst_5 F f) h (n + 48) x y x3 x4 t0 = some o → o.2 = h ∧ ((o.1 = 0 ∧ CdLt L B c' c) ∨ (o.1 = 1 ∧ CdLt L B c c')) := fun {t0} ev e => by
        unfold sX6_comesFirst_22 at e
        obtain ⟨v1, w1, e⟩ := nm_s e
        rw [← w1] at ev
        obtain ⟨o2, e2, e⟩ := cl_s e
        obtain ⟨s1, s2⟩ := so_k k Ab S2 N ex ev (pl i).1 e2
        rw [s1] at e
        obtain ⟨o3, e3, e⟩ := cl_s e
        obtain ⟨t1, t2⟩ := so_k k Ab S2 N' ey ev (pl i).1 e3
        rw [t1] at e
        have nx : ∀ {x3 : Int32}, CfI L B c c' (i + 1) x3 → sX6_comesFirst_5 F f h (n + 48) x y x3 (x4 + (1 : Int32)) = some o → o.2 = h ∧ ((o.1 = 0 ∧ CdLt L B c' c) ∨ (o.1 = 1 ∧ CdLt L B c c')) := fun I e => ih (i := i + 1) (by rw [ta (by omega), z1, i4]; omega) (by omega) I e
        rcases br_s e with ⟨c2, e⟩ | ⟨c2, e⟩
        · exact cf_57 k C (fun j => (pl j).2) I ev (Or.inl ⟨rfl, by rw [← s2, ← t2, c2]⟩) nx e
        · exact cf_57 k C (fun j => (pl j).2) I ev (Or.inr ⟨rfl, fun z => c2 (Int32.toInt_inj.mp (by omega))⟩) nx e
      obtain ⟨vs, vt, _, _, x0⟩ := cd_dec N ex
      obtain ⟨vs', vt', _, _, y0⟩ := cd_dec N' ey
      have e6 : ∀ {u : Int32}, (u >>> (((6 : Int32) * ((0 : Int32) &&& (1 : Int32))) &&& 31)) = u := fun {u} => Int32.toInt_inj.mp (by
        rw [show ((6 : Int32) * ((0 : Int32) &&& (1 : Int32))) = 0 by decide, shr_i (s := 0) 0 rfl]
        show u.toInt / 1 = _
        omega)
      have e7 : ∀ {u : Int32}, (u >>> (((6 : Int32) * ((2 : Int32) &&& (1 : Int32))) &&& 31)) = u := fun {u} => Int32.toInt_inj.mp (by
        rw [show ((6 : Int32) * ((2 : Int32) &&& (1 : Int32))) = 0 by decide, shr_i (s := 0) 0 rfl]
        show u.toInt / 1 = _
        omega)
      have f6 : ((6 : Int32) * ((1 : Int32) &&& (1 : Int32))) = 6 := by decide
      have f7 : ((6 : Int32) * ((3 : Int32) &&& (1 : Int32))) = 6 := by decide
      have ic : i = 0 ∨ i = 1 ∨ i = 2 ∨ i = 3 := by omega
      rcases ic with z | z | z | z
      · have x4e : x4 = 0 := Int32.toInt_inj.mp (by rw [i4, z]; rfl)
        replace e := bn_e (fun w => by have := le_i w; omega) e
        exact body (by rw [x4e, e6, z]; exact vs) e
      · have x4e : x4 = 1 := Int32.toInt_inj.mp (by rw [i4, z]; rfl)
        replace e := bn_e (fun w => by have := le_i w; omega) e
        exact body (by rw [x4e, f6, z]; exact vt) e
      · have x4e : x4 = 2 := Int32.toInt_inj.mp (by rw [i4, z]; rfl)
        replace e := bp_e (by rw [x4e]; decide) e
        exact body (by rw [x4e, e7, z]; exact vs') e
      · have x4e : x4 = 3 := Int32.toInt_inj.mp (by rw [i4, z]; rfl)
        replace e := bp_e (by rw [x4e]; decide) e
        exact body (by rw [x4e, f7, z]; exact vt') e
theorem cf_k (H : LOk L) (T : LtO L) (D : LtD L) (HM : MOk L B.1) (S2 : pzS B < 2) (k : DyK n g h) (C : ClL n h L) (Ab : CpA h (n + 49) (L 10 0) B) (K : CdK L B c) (K' : CdK L B c') (ne : ¬ c = c') (ex : x.toInt = cdI c) (ey : y.toInt = cdI c') (e : sX6_comesFirst F h (n + 48) x y = some o) : o.2 = h ∧ ((o.1 = 0 ∧ CdLt L B c' c) ∨ (o.1 = 1 ∧ CdLt L B c c')) := by
  unfold sX6_comesFirst at e
  exact cf_5 H T D HM S2 k C Ab K K' ne ex ey F (i := 0) rfl (by decide) (Or.inl ⟨rfl, fun j hj => absurd hj (Nat.not_lt_zero _)⟩) e
end
/-- the class's row of codes -/
def RwC (n : Nat) (h : Hp) (N : Nat) (f : Nat → Cd) : Prop := (hI h (n + 48) 6).toInt = (N : Int) ∧ ∀ k, k < N → (hI h (n + 61) k).toInt = cdI (f k)
section
variable {n F N : Nat} {g h o : Hp} {L : Nat → Nat → Int} {B : Pz} {c : Cd} {x : Int32} {f : Nat → Cd} {Bf Pr : Cd → Prop}
def KpP (n : Nat) (L : Nat → Nat → Int) (B : Pz) (N : Nat) (f : Nat → Cd) (c : Cd) (h o : Hp) : Prop := FrW (fun a i => a = n + 61 ∨ (a = n + 48 ∧ i = 6)) h o ∧ ∃ lo, lo ≤ N ∧ (∀ k, k < lo → CdLt L B (f k) c) ∧ (∀ k, lo ≤ k → k < N → CdLt L B c (f k)) ∧ RwC n o (N + 1) (insF f lo c)
theorem kp_23 (H : LOk L) (T : LtO L) (D : LtD L) (HM : MOk L B.1) (S2 : pzS B < 2) (bk : ∀ x, Bf x → CdK L B x) (k : DyK n g h) (C : ClL n h L) (Ab : CpA h (n + 49) (L 10 0) B) (S : SqM L B Bf Pr N f) (np : ¬ Pr c) (bc : Bf c) (R : RwC n h N f) (ex : x.toInt = cdI c) (N3 : N < 3000) : ∀ (ff : Nat) {x2 x3 : Int32} {lo hi : Nat}, x2.toInt = (lo : Int) → x3.toInt = (hi : Int) → lo ≤ hi → hi ≤ N → (∀ k, k < lo → CdLt L B (f k) c) → (∀ k, hi ≤ k → k < N → CdLt L B c (f k)) → sX6_keep_23 F ff h (n + 48) x x2 x3 = some o → KpP n L B N f c h o := by
  have z1 : (1 : Int32).toInt = 1 := rfl
  obtain ⟨R1, R2⟩ := R
  have s6 := dk_610 k
  intro ff
  induction ff with
  | zero => intro x2 x3 lo hi _ _ _ _ _ _ e; exact absurd e (by rw [sX6_keep_23]; exact fun z => nomatch z)
  | succ ff ih =>
    intro x2 x3 lo hi e2 e3 lh hN a b e
    rw [sX6_keep_23] at e
    unfold sX6_keep_61 at e
    rcases br_s e with ⟨c1, e⟩ | ⟨c1, e⟩
    · have c1 := le_i c1
      have lo_hi : hi = lo := by omega
      have n2 : x2.toNatClampNeg = lo := by have := nc_i (x := x2) (by omega); omega
      have v1 : (x2 + (1 : Int32)).toInt = (lo : Int) + 1 := by rw [ta (by omega), e2, z1]
      have n21 : (x2 + (1 : Int32)).toNatClampNeg = lo + 1 := by have := nc_i (x := x2 + (1 : Int32)) (by omega); omega
      have v3 : ((hI h (n + 48) 6) - x2).toInt = (N : Int) - lo := by rw [ts (by omega), R1, e2]
      have n3 : ((hI h (n + 48) 6) - x2).toNatClampNeg = N - lo := by have := nc_i (x := (hI h (n + 48) 6) - x2) (by omega); omega
      replace e := ce_e (dk_e (a := 48) (f := 5) (b := 61) k (by decide +kernel)) e
      replace e := ce_e (dk_e (a := 48) (f := 5) (b := 61) k (by decide +kernel)) e
      iterate 5 replace e := gg_e e
      obtain ⟨h9, w9, e⟩ := nm_s e
      rw [n2, n21, n3] at w9
      have k9 : DyK n g h9 := by rw [w9]; exact dk_cpI k
      replace e := ce_e (dk_e (a := 48) (f := 5) (b := 61) k9 (by decide +kernel)) e
      replace e := gg_e e
      obtain ⟨h12, w12, e⟩ := nm_s e
      rw [n2] at w12
      obtain ⟨h13, w13, e⟩ := nm_s e
      rw [so_e e]
      have i9 : ∀ a i, ¬ a = n + 61 → hI h9 a i = hI h a i := fun a i z => by rw [w9, cp_at, if_neg (fun y => z y.1)]
      have q : ∀ a i, ¬ (a = n + 61 ∨ (a = n + 48 ∧ i = 6)) → hI h13 a i = hI h a i := fun a i z => by
        rw [w13, r_I, if_neg (fun y => z (Or.inr y)), w12, r_I, if_neg (fun y => z (Or.inl y.1)), i9 a i (fun y => z (Or.inl y))]
      refine ⟨⟨?_, fun a i _ nw => ⟨q a i nw, ?_⟩⟩, lo, by omega, a, fun k hk hk' => b k (by omega) hk', ?_, fun k hk => ?_⟩
      · rw [w13, w12, w9]; exact Nat.le_refl _
      · rw [w13, w12, w9]; rfl
      · rw [w13, rI_s, w12, rI_a (by omega), i9 _ _ (by omega), ta (by omega), R1, z1]; omega
      · rw [w13, rI_a (by omega), w12]
        rcases Nat.lt_trichotomy k lo with y | y | y
        · rw [rI_o (by omega), w9, cp_at, if_neg (by omega), ins_l y]; exact R2 k (by omega)
        · rw [y, rI_s, ins_e]; exact ex
        · rw [rI_o (by omega), w9, cp_at, if_pos ⟨rfl, by omega, by omega⟩, ins_g y, show lo + (k - (lo + 1)) = k - 1 by omega]; exact R2 (k - 1) (by omega)
    · have c1 := nle_i c1
      obtain ⟨v14, w14, e⟩ := nm_s e
      have vm : v14.toInt = ((lo + hi) / 2 : Nat) := by
        rw [w14, shr_i (s := 1) 1 rfl, ta (by omega), e2, e3]
        show ((lo : Int) + hi) / 2 = _
        omega
      have nm : v14.toNatClampNeg = (lo + hi) / 2 := by have := nc_i (x := v14) (by omega); omega
      replace e := ce_e (dk_e (a := 48) (f := 5) (b := 61) k (by decide +kernel)) e
      replace e := gg_e e
      rw [nm] at e
      obtain ⟨o17, e17, e⟩ := cl_s e
      have md : (lo + hi) / 2 < N := by omega
      obtain ⟨t1, t2⟩ := cf_k H T D HM S2 k C Ab (bk _ (sqm_f S md)) (bk _ bc) (sqm_n S np md) (R2 _ md) ex e17
      rw [t1] at e
      rcases br_s e with ⟨c2, e⟩ | ⟨c2, e⟩
      · rcases t2 with ⟨_, t2⟩ | ⟨t2, _⟩
        · refine ih (lo := lo) (hi := (lo + hi) / 2) e2 vm (by omega) (by omega) a (fun k hk hk' => ?_) e
          by_cases y : k = (lo + hi) / 2
          · rw [y]; exact t2
          · exact cdl_t t2 (S.1 _ k (by omega) hk')
        · rw [t2] at c2; exact absurd c2 (by decide)
      · rcases t2 with ⟨t2, _⟩ | ⟨_, t2⟩
        · exact absurd t2 c2
        · replace e := nx_e e
          refine ih (lo := (lo + hi) / 2 + 1) (hi := hi) (by rw [ta (by omega), z1, vm]; omega) e3 (by omega) hN (fun k hk => ?_) b e
          by_cases y : k = (lo + hi) / 2
          · rw [y]; exact t2
          · exact cdl_t (S.1 k _ (by omega) md) t2
theorem kp_k (H : LOk L) (T : LtO L) (D : LtD L) (HM : MOk L B.1) (S2 : pzS B < 2) (bk : ∀ x, Bf x → CdK L B x) (k : DyK n g h) (C : ClL n h L) (Ab : CpA h (n + 49) (L 10 0) B) (S : SqM L B Bf Pr N f) (np : ¬ Pr c) (bc : Bf c) (R : RwC n h N f) (ex : x.toInt = cdI c) (N3 : N ≤ 3000) (e : sX6_keep F h (n + 48) x = some o) : (N < 3000 ∧ KpP n L B N f c h o) ∨ (N = 3000 ∧ o = wI h (n + 48) 7 1) := by
  have z3 : (3000 : Int32).toInt = 3000 := rfl
  have R1 := R.1
  unfold sX6_keep at e
  rcases br_s e with ⟨c1, e⟩ | ⟨c1, e⟩
  · have c1 := lt_i c1
    replace e := nx_e e
    exact Or.inl ⟨by omega, kp_23 H T D HM S2 bk k C Ab S np bc R ex (by omega) F (lo := 0) (hi := N) rfl R1 (by omega) (by omega) (fun k hk => absurd hk (Nat.not_lt_zero _)) (fun k hk hk' => by omega) e⟩
  · have c1 := nlt_i c1
    replace e := nx_e e
    exact Or.inr ⟨by omega, so_e e⟩
end
end
section
/-! BEFORE, the class: where men may have come from -/
theorem wd_all2 : ∀ k : Fin 8, ∀ f : Fin 64, ((nI (f.val + 64 * k.val)) &&& (2 : Int32)) = 0 ↔ fbt (f.val : Int) 1 = false := by decide +kernel
theorem wd_b {w x8 : Int32} {t bx : Nat} {fl k : Int} (ht : t < 64) (hf : 0 ≤ fl ∧ fl ≤ 63) (hk : 0 ≤ k ∧ k ≤ 7) (h8 : (x8 = 2 ∧ bx = 1) ∨ (x8 = 1 ∧ bx = 0)) (e : w.toInt = t + 64 * fl + 4096 * k) : (w >>> ((6 : Int32) &&& 31)) &&& x8 = 0 ↔ fbt fl bx = false := by
  rcases h8 with ⟨a, b⟩ | ⟨a, b⟩
  · rw [a, b]
    have v : (w >>> ((6 : Int32) &&& 31)).toInt = fl + 64 * k := by rw [shr6_i, e]; omega
    have al := wd_all2 ⟨k.toNat, by omega⟩ ⟨fl.toNat, by omega⟩
    have ev : w >>> ((6 : Int32) &&& 31) = nI (fl.toNat + 64 * k.toNat) := Int32.toInt_inj.mp (by rw [v, z_toInt (by omega)]; omega)
    have ef : ((fl.toNat : Nat) : Int) = fl := by omega
    dsimp only at al
    rw [ef] at al
    rw [ev]
    exact al
  · rw [a, b]
    exact (wd_e ht hf hk e).1
section
variable {F : Nat} {V : Nat → Nat} {h : Hp} {L : Nat → Nat → Int} {M : Nat → Int} {o : Int64 × Hp}
/-- over the ways from one square -/
theorem orc_116 {K : Hp → Nat → Int64 → Int64 → Int32 → Int64 → Int32 → Int32 → Option (Int64 × Hp)} {x8 x11 x12 x16 : Int32} {occ x9 x13 : Int64} {c s t a b bx : Nat} {I : Nat → Nat} (H : LOk L) (wc : WCf V h) (cL : (c : Int) < 2 * L 2 0) (sL : (s : Int) < L 0 0 * L 1 0) (ht : t < 64) (h8 : (x8 = 2 ∧ bx = 1) ∨ (x8 = 1 ∧ bx = 0)) (e16 : x16.toInt = (b : Int)) (bo : ∀ q, q < 64 → (bitJ occ q = true ↔ 0 < M q)) (II : ∀ w, a ≤ w → w < b → ((I w : Nat) : Int) < L 74 (c / 2) ∧ WyE L V h c s t (I w) w) : ∀ (f : Nat) {x6 : Int64} {x17 : Int32}, 0 ≤ x17.toInt → a ≤ x17.toNatClampNeg → sX10_origins_116 F K f h (V 11) occ x6 x8 x9 x11 x12 x13 x16 x17 = some o → ∃ y6 : Int64, (∀ q, bitJ y6 q = true ↔ (bitJ x6 q = true ∨ (bitJ x13 q = true ∧ ∃ w, x17.toNatClampNeg ≤ w ∧ w < b ∧ fbt (L 75 (8 * (c / 2) + I w)) bx = false ∧ ∃ k, Led L M (8 * (c / 2) + I w) ((c % 2 : Nat) : Int) s t k))) ∧ K h (V 11) occ y6 x8 x9 x11 (x12 + (1 : Int32)) = some o := by
  have z1 : (1 : Int32).toInt = 1 := rfl
  have mL : ((c / 2 : Nat) : Int) < L 2 0 := by omega
  obtain ⟨H74, Hst⟩ := H.2.2.2 _ mL
  intro f
  induction f with
  | zero => intro x6 x17 _ _ e; exact absurd e (by rw [sX10_origins_116]; exact fun z => nomatch z)
  | succ f ih =>
    intro x6 x17 a17 la e
    have c17 := nc_i a17
    rw [sX10_origins_116] at e
    unfold sX10_origins_157 at e
    rcases br_s e with ⟨l, e⟩ | ⟨l, e⟩
    · have l := le_i l
      refine ⟨x6, fun q => ⟨Or.inl, fun z => ?_⟩, nx_e e⟩
      rcases z with z | ⟨_, w, w1, w2, _⟩
      · exact z
      · omega
    have l := nle_i l
    have b16 := (rg_top x16).2
    have lb : x17.toNatClampNeg < b := by omega
    obtain ⟨iL, k, rk, wd, bt⟩ := II _ la lb
    have J : StR L (8 * (c / 2) + I x17.toNatClampNeg) := Hst _ iL
    have kr := rk.2.2.1
    have k1 := rk.2.1
    have r7 := J.2.2.2.2.1
    have fl := wd_b (x8 := x8) (bx := bx) ht J.1 ⟨by omega, by omega⟩ h8 wd
    replace e := ce_e wc.2.1 e
    replace e := gg_e e
    have t17 : (x17 + (1 : Int32)).toInt = x17.toInt + 1 := by rw [ta (by omega), z1]
    have n17 : (x17 + (1 : Int32)).toNatClampNeg = x17.toNatClampNeg + 1 := by
      have := nc_i (x := x17 + (1 : Int32)) (by omega)
      omega
    have led : (∃ k, Led L M (8 * (c / 2) + I x17.toNatClampNeg) ((c % 2 : Nat) : Int) s t k) ↔ cnP M s (((t : Int) - s) / k) (k - 1).toNat = ovN L (8 * (c / 2) + I x17.toNatClampNeg) := by
      constructor
      · rintro ⟨k', rk', z⟩
        have : k' = k := rch_u J.2.2.2.1 rk'.2 rk.2
        rw [this] at z
        exact z
      · exact fun z => ⟨k, rk, z⟩
    have split : ∀ {P : Nat → Prop}, (∃ w, x17.toNatClampNeg ≤ w ∧ w < b ∧ P w) ↔ (P x17.toNatClampNeg ∨ ∃ w, (x17 + (1 : Int32)).toNatClampNeg ≤ w ∧ w < b ∧ P w) := fun {P} => by
      rw [n17]
      constructor
      · rintro ⟨w, w1, w2, w3⟩
        by_cases y : w = x17.toNatClampNeg
        · rw [y] at w3; exact Or.inl w3
        · exact Or.inr ⟨w, by omega, w2, w3⟩
      · rintro (z | ⟨w, w1, w2, w3⟩)
        · exact ⟨_, Nat.le_refl _, lb, z⟩
        · exact ⟨w, by omega, w2, w3⟩
    have skip : ¬ (fbt (L 75 (8 * (c / 2) + I x17.toNatClampNeg)) bx = false ∧ ∃ k, Led L M (8 * (c / 2) + I x17.toNatClampNeg) ((c % 2 : Nat) : Int) s t k) → sX10_origins_116 F K f h (V 11) occ x6 x8 x9 x11 x12 x13 x16 (x17 + (1 : Int32)) = some o → ∃ y6 : Int64, (∀ q, bitJ y6 q = true ↔ (bitJ x6 q = true ∨ (bitJ x13 q = true ∧ ∃ w, x17.toNatClampNeg ≤ w ∧ w < b ∧ fbt (L 75 (8 * (c / 2) + I w)) bx = false ∧ ∃ k, Led L M (8 * (c / 2) + I w) ((c % 2 : Nat) : Int) s t k))) ∧ K h (V 11) occ y6 x8 x9 x11 (x12 + (1 : Int32)) = some o := fun no e => by
      obtain ⟨y6, y1, y2⟩ := ih (by omega) (by omega) e
      refine ⟨y6, fun q => ?_, y2⟩
      rw [y1 q, split]
      constructor
      · rintro (z | ⟨z1, z2⟩)
        · exact Or.inl z
        · exact Or.inr ⟨z1, Or.inr z2⟩
      · rintro (z | ⟨z1, z2 | z2⟩)
        · exact Or.inl z
        · exact absurd z2 no
        · exact Or.inr ⟨z1, z2⟩
    rcases br_s e with ⟨c1, e⟩ | ⟨c1, e⟩
    rotate_left
    · replace e := nx_e e
      exact skip (fun z => c1 (fl.mpr z.1)) e
    obtain ⟨o6, e6, e⟩ := cl_s e
    obtain ⟨t1, t2⟩ := op_v (M := M) H J wc sL ht rk wd bt bo e6
    rw [t1] at e
    rcases br_s e with ⟨c2, e⟩ | ⟨c2, e⟩
    · replace e := nx_e e
      rcases t2 with ⟨_, t2⟩ | ⟨t2, _⟩
      · exact skip (fun z => t2 (led.mp z.2)) e
      · rw [t2] at c2; exact absurd c2 (by decide)
    · rcases t2 with ⟨t2, _⟩ | ⟨_, t2⟩
      · exact absurd t2 c2
      replace e := nx_e e
      replace e := nx_e e
      obtain ⟨y6, y1, y2⟩ := ih (by omega) (by omega) e
      refine ⟨y6, fun q => ?_, y2⟩
      rw [y1 q, split, bj_or, Bool.or_eq_true]
      constructor
      · rintro ((z | z) | ⟨z1, z2⟩)
        · exact Or.inl z
        · exact Or.inr ⟨z, Or.inl ⟨fl.mp c1, led.mpr t2⟩⟩
        · exact Or.inr ⟨z1, Or.inr z2⟩
      · rintro (z | ⟨z1, z2 | z2⟩)
        · exact Or.inl (Or.inl z)
        · exact Or.inl (Or.inr z1)
        · exact Or.inr ⟨z1, z2⟩
def OrS (L : Nat → Nat → Int) (M : Nat → Int) (c t bx s : Nat) : Prop := ∃ (i : Nat) (k : Int), (i : Int) < L 74 (c / 2) ∧ fbt (L 75 (8 * (c / 2) + i)) bx = false ∧ Led L M (8 * (c / 2) + i) ((c % 2 : Nat) : Int) s t k
theorem orc_45 {x8 x11 : Int32} {occ : Int64} {c t bx : Nat} (H : LOk L) (wc : WCf V h) (T : WyT L V h) (cL : (c : Int) < 2 * L 2 0) (ht : t < 64) (h8 : (x8 = 2 ∧ bx = 1) ∨ (x8 = 1 ∧ bx = 0)) (e11 : x11.toInt = (celN c 0 t : Int)) (bo : ∀ q, q < 64 → (bitJ occ q = true ↔ 0 < M q)) : ∀ (f : Nat) {x6 x9 : Int64} {x12 : Int32}, (∀ s : Nat, s < 64 → bitJ x9 s = true → (s : Int) < L 0 0 * L 1 0) → 0 ≤ x12.toInt → (∀ s : Nat, s < 64 → (s : Int) < x12.toInt → bitJ x9 s = false) → sX10_origins_45 F f h (V 11) occ x6 x8 x9 x11 x12 = some o → o.2 = h ∧ ∀ q, q < 64 → (bitJ o.1 q = true ↔ (bitJ x6 q = true ∨ (bitJ x9 q = true ∧ OrS L M c t bx q))) := by
  have z1 : (1 : Int32).toInt = 1 := rfl
  have z64 : (64 : Int32).toInt = 64 := rfl
  have sq := sq_64 H
  have L2 := H.2.2.1
  intro f
  induction f with
  | zero => intro x6 x9 x12 _ _ _ e; exact absurd e (by rw [sX10_origins_45]; exact fun z => nomatch z)
  | succ f ih =>
    intro x6 x9 x12 B9 a12 lo e
    rw [sX10_origins_45] at e
    unfold sX10_origins_169 at e
    have none : (∀ s, s < 64 → bitJ x9 s = false) → some (x6, h) = some o → o.2 = h ∧ ∀ q, q < 64 → (bitJ o.1 q = true ↔ (bitJ x6 q = true ∨ (bitJ x9 q = true ∧ OrS L M c t bx q))) := fun z u => by
      rw [so_e u]
      refine ⟨rfl, fun q hq => ⟨Or.inl, fun y => ?_⟩⟩
      rcases y with y | ⟨y, _⟩
      · exact y
      · rw [z q hq] at y; exact absurd y (by decide)
    rcases br_s e with ⟨l, e⟩ | ⟨l, e⟩
    · have l := le_i l
      rw [z64] at l
      exact none (fun s hs => lo s hs (by omega)) e
    have l := nle_i l
    rw [z64] at l
    rcases br_s e with ⟨z, e⟩ | ⟨z, e⟩
    · exact none (j_zero.mp (cmp_eq z)) e
    have nz := cmp0 z
    obtain ⟨k, hk, pk, kl, el⟩ := low_min nz
    replace e := nm_s e; obtain ⟨v3, u3, e⟩ := e
    rw [el] at u3
    replace e := nm_s e; obtain ⟨v4, u4, e⟩ := e
    have b4 : ∀ s, s < 64 → bitJ v4 s = (bitJ x9 s && !decide (k = s)) := fun s hs => by
      rw [u4, u3, bj_xor, bj_pow hk]
      by_cases c : k = s
      · rw [decide_eq_true c, ← c, pk]; rfl
      · rw [decide_eq_false c]; cases bitJ x9 s <;> rfl
    replace e := gg_e e
    replace e := nm_s e; obtain ⟨v6, u6, e⟩ := e
    rw [u3, sq_pow hk] at u6
    have tk : (nI k).toInt = (k : Int) := z_toInt (by omega)
    have m6 : (nI k * (64 : Int32)).toInt = (k : Int) * 64 := by rw [tm (by rw [tk, z64]; omega), tk, z64]
    have c64 : celN c 0 t < 98304 := by unfold celN; omega
    have t6 : v6.toInt = (celN c k t : Int) := by
      rw [u6, ta (by rw [m6, e11]; omega), m6, e11]
      unfold celN
      omega
    have n6 : v6.toNatClampNeg = celN c k t := by have := nc_i (x := v6) (by omega); omega
    have ck : celN c k t < 98304 := by unfold celN; omega
    have t61 : (v6 + (1 : Int32)).toInt = (celN c k t : Int) + 1 := by rw [ta (by omega), t6, z1]
    have n61 : (v6 + (1 : Int32)).toNatClampNeg = celN c k t + 1 := by have := nc_i (x := v6 + (1 : Int32)) (by omega); omega
    replace e := ce_e wc.1 e
    replace e := gg_e e
    rw [n61] at e
    replace e := nm_s e; obtain ⟨v9, u9, e⟩ := e
    replace e := ce_e wc.1 e
    replace e := gg_e e
    rw [n6] at e
    replace e := nm_s e; obtain ⟨v12, u12, e⟩ := e
    have kL := B9 k hk pk
    obtain ⟨⟨nn1, nn2⟩, ⟨ab, I, I1, I2, I3⟩, _, _⟩ := T c k t cL kL ht
    obtain ⟨y6, y1, y2⟩ := orc_116 (M := M) (s := k) (t := t) (b := rowN h (V 50) (celN c k t + 1)) H wc cL kL ht h8 (by rw [u9]; exact (nc_i nn2).symm) bo I1 F (by rw [u12]; exact nn1) (by rw [u12]; exact Nat.le_refl _) e
    obtain ⟨r1, r2⟩ := ih (x9 := v4) (fun s hs b => B9 s hs (by
      rw [b4 s hs, Bool.and_eq_true] at b
      exact b.1)) (by rw [ta (by omega), z1]; omega) (fun s hs ls => by
      rw [ta (by omega), z1] at ls
      rw [b4 s hs]
      by_cases c : s < k
      · rw [kl s c]; rfl
      · by_cases d : k = s
        · rw [decide_eq_true d]; cases bitJ x9 s <;> rfl
        · have : (k : Int) < x12.toInt := by omega
          rw [lo k hk this] at pk
          exact absurd pk (by decide)) y2
    refine ⟨r1, fun q hq => ?_⟩
    have ok : (∃ w, v12.toNatClampNeg ≤ w ∧ w < rowN h (V 50) (celN c k t + 1) ∧ fbt (L 75 (8 * (c / 2) + I w)) bx = false ∧ ∃ k', Led L M (8 * (c / 2) + I w) ((c % 2 : Nat) : Int) k t k') ↔ OrS L M c t bx k := by
      have c12 : v12.toNatClampNeg = rowN h (V 50) (celN c k t) := by rw [u12]; rfl
      constructor
      · rintro ⟨w, w1, w2, w3, k', w4⟩
        rw [c12] at w1
        exact ⟨I w, k', (I1 w w1 w2).1, w3, w4⟩
      · rintro ⟨i, k', i1, i2, i3⟩
        obtain ⟨w, w1, w2, w3⟩ := I3 i k' i1 i3.1
        exact ⟨w, by rw [c12]; exact w1, w2, by rw [w3]; exact i2, k', by rw [w3]; exact i3⟩
    rw [r2 q hq, y1 q, u3, bj_pow hk, ok, b4 q hq]
    by_cases d : k = q
    · rw [decide_eq_true d, ← d, pk]
      constructor
      · rintro ((z | ⟨_, z⟩) | ⟨z, _⟩)
        · exact Or.inl z
        · exact Or.inr ⟨rfl, z⟩
        · exact absurd z (by decide)
      · rintro (z | ⟨_, z⟩)
        · exact Or.inl (Or.inl z)
        · exact Or.inl (Or.inr ⟨rfl, z⟩)
    · rw [decide_eq_false d, Bool.not_false, Bool.and_true]
      constructor
      · rintro ((z | ⟨z, _⟩) | z)
        · exact Or.inl z
        · exact absurd z (by decide)
        · exact Or.inr z
      · rintro (z | z)
        · exact Or.inl (Or.inl z)
        · exact Or.inr z
theorem or_c {x1 x2 x3 : Int32} {occ : Int64} {c t : Nat} (H : LOk L) (wc : WCf V h) (T : WyT L V h) (fb : ∀ i, i < 1536 → ∀ s, s < 64 → bitJ (hJ h (V 53) i) s = true → (s : Int) < L 0 0 * L 1 0) (bo : ∀ q, q < 64 → (bitJ occ q = true ↔ 0 < M q)) (cL : (c : Int) < 2 * L 2 0) (ht : t < 64) (e1 : x1.toInt = (c : Int)) (e2 : x2.toInt = (t : Int)) (e : sX10_origins F h (V 11) x1 x2 x3 occ = some o) : o.2 = h ∧ ∀ s, s < 64 → (bitJ o.1 s = true ↔ ((s : Int) < L 0 0 * L 1 0 ∧ ¬ 0 < M s ∧ OrS L M c t (if x3 = 0 then 1 else 0) s)) := by
  have z0 : (0 : Int32).toInt = 0 := rfl
  have z64 : (64 : Int32).toInt = 64 := rfl
  have L2 := H.2.2.1
  have main : ∀ {x8 : Int32} {bx : Nat}, ((x8 = 2 ∧ bx = 1) ∨ (x8 = 1 ∧ bx = 0)) → sX10_origins_12 F h (V 11) x1 x2 occ (0 : Int64) x8 = some o → o.2 = h ∧ ∀ s, s < 64 → (bitJ o.1 s = true ↔ ((s : Int) < L 0 0 * L 1 0 ∧ ¬ 0 < M s ∧ OrS L M c t bx s)) := fun {x8 bx} h8 e => by
    unfold sX10_origins_12 at e
    have m64 : (x1 * (64 : Int32)).toInt = (c : Int) * 64 := by rw [tm (by rw [z64]; omega), z64, e1]
    have a64 : ((x1 * (64 : Int32)) + x2).toInt = (c : Int) * 64 + t := by rw [ta (by omega), m64, e2]
    have n64 : ((x1 * (64 : Int32)) + x2).toNatClampNeg = c * 64 + t := by have := nc_i (x := (x1 * (64 : Int32)) + x2) (by omega); omega
    replace e := ce_e wc.2.2.2.1 e
    replace e := gg_e e
    rw [n64] at e
    replace e := nm_s e; obtain ⟨v3, u3, e⟩ := e
    obtain ⟨o4, e4, e⟩ := cl_s e
    unfold sX10_cell at e4
    have q4 : o4.2 = h ∧ o4.1.toInt = (celN c 0 t : Int) := by
      rw [so_e e4]
      have b1 : ((x1 * (64 : Int32)) + (0 : Int32)).toInt = (c : Int) * 64 := by rw [ta (by omega), m64, z0]; omega
      have b2 : (((x1 * (64 : Int32)) + (0 : Int32)) * (64 : Int32)).toInt = (c : Int) * 64 * 64 := by rw [tm (by rw [b1, z64]; omega), b1, z64]
      refine ⟨rfl, ?_⟩
      show ((((x1 * (64 : Int32)) + (0 : Int32)) * (64 : Int32)) + x2).toInt = _
      rw [ta (by omega), b2, e2]
      unfold celN
      omega
    rw [q4.1] at e
    have bn : ∀ q, q < 64 → bitJ (occ ^^^ (-1 : Int64)) q = !bitJ occ q := fun q hq => by
      rw [bj_xor]
      have : bitJ (-1 : Int64) q = true := by
        have al : ∀ q : Fin 64, bitJ (-1 : Int64) q.val = true := by decide
        exact al ⟨q, hq⟩
      rw [this, Bool.xor_true]
    have b3 : ∀ q, q < 64 → (bitJ v3 q = true ↔ (bitJ (hJ h (V 53) (c * 64 + t)) q = true ∧ ¬ 0 < M q)) := fun q hq => by
      rw [u3, bj_and, Bool.and_eq_true, bn q hq, ← bo q hq, Bool.not_eq_true']
      constructor
      · rintro ⟨z1, z2⟩; exact ⟨z1, by rw [z2]; decide⟩
      · rintro ⟨z1, z2⟩; exact ⟨z1, by cases y : bitJ occ q with
          | false => rfl
          | true => exact absurd y z2⟩
    have fL : ∀ q, q < 64 → bitJ v3 q = true → (q : Int) < L 0 0 * L 1 0 := fun q hq z => fb (c * 64 + t) (by omega) q hq ((b3 q hq).mp z).1
    obtain ⟨r1, r2⟩ := orc_45 (M := M) H wc T cL ht h8 q4.2 bo F fL (by decide) (fun s _ ls => by rw [z0] at ls; omega) e
    refine ⟨r1, fun s hs => ?_⟩
    rw [r2 s hs]
    have nz : ¬ bitJ (0 : Int64) s = true := by rw [bj_zero]; decide
    constructor
    · rintro (z | ⟨z1, z2⟩)
      · exact absurd z nz
      · exact ⟨fL s hs z1, ((b3 s hs).mp z1).2, z2⟩
    · rintro ⟨z1, z2, z3⟩
      refine Or.inr ⟨(b3 s hs).mpr ⟨?_, z2⟩, z3⟩
      obtain ⟨i, k, i1, i2, i3⟩ := z3
      exact (T c s t cL z1 ht).2.2.1.mpr ⟨i, k, i1, i3.1⟩
  unfold sX10_origins at e
  rcases br_s e with ⟨c1, e⟩ | ⟨c1, e⟩
  · rw [if_pos c1]; exact main (Or.inl ⟨rfl, rfl⟩) e
  · rw [if_neg c1]; exact main (Or.inr ⟨rfl, rfl⟩) e
end
end
