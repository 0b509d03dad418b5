section
/-! the class: whether a move is safe -/
/-- what is known of the squares that are watched -/
def WatF (V : Nat → Nat) (h : Hp) (L : Nat → Nat → Int) (P : Pz) : Prop := hI h (V 6) 9 = 0 ∨ (hI h (V 6) 9 = 1 ∧ (L 10 0 = -1 ∨ (L 18 0 = 0 ∧ L 17 0 = 0)) ∧ ∀ r, r < 64 → 0 ≤ L 10 0 → P.1 r = 1 + 2 * L 10 0 + pzS P → ¬ AttP L P.1 (1 - (pzS P : Int)) r ∧ ∀ s, s < 64 → 0 < P.1 s → (P.1 s - 1) % 2 = 1 - (pzS P : Int) → WtB L P.1 r (hJ h (V 6) 8) s)
section
variable {F : Nat} {V : Nat → Nat} {L : Nat → Nat → Int} {h : Hp} {P : Pz} {v : MvT} {o : Int32 × Hp} {x : Int32}
theorem bj_one' {y : Int32} {q : Nat} (i : Rg 0 63 y) : bitJ ((1 : Int64) <<< (y.toInt64 &&& 63)) q = true ↔ q = y.toNatClampNeg := by
  rw [bj_one i, decide_eq_true_iff]
  exact eq_comm
theorem sfc_72 {y : Int64} (e : sX5_isSafe_72 h (V 6) y = some o) : o.2 = h ∧ (o.1 = 0 ∨ (o.1 = 1 ∧ ∀ q, q < 64 → bitJ y q = true → bitJ (hJ h (V 6) 8) q = false)) := by
  unfold sX5_isSafe_72 sX5_isSafe_88 at e
  rcases br_s e with ⟨c, e⟩ | ⟨c, e⟩
  · rw [so_e (gg_e e)]
    refine ⟨rfl, Or.inr ⟨rfl, fun q hq b => ?_⟩⟩
    have := j_zero.mp (cmp_eq c) q hq
    rw [bj_and, b, Bool.true_and] at this
    exact this
  · rw [so_e (gg_e e)]
    exact ⟨rfl, Or.inl rfl⟩
theorem sfc_v (H : LOk L) (K : LawK L) (O : PzOk L P) (G : MvGd L P v) (C : CcW V h L P) (M' : MvC x v) (Wt : WatF V h L P) (e : sX5_isSafe h (V 6) x = some o) : o.2 = h ∧ (o.1 = 0 ∨ (o.1 = 1 ∧ sfP L P v)) := by
  have z1 : (1 : Int32).toInt = 1 := rfl
  have z2 : (2 : Int32).toInt = 2 := rfl
  have z3 : (3 : Int32).toInt = 3 := rfl
  have sq := sq_64 H
  obtain ⟨f0, f1, f2, _, _, f5, _⟩ := pk_fd M'
  have t0 := G.1.1
  have r4 := C.2.1.2.2.1.1
  unfold sX5_isSafe sX5_kindOf sX5_manOf sX5_comeTo sX5_leftBy sX5_isSafe_31 at e
  replace e := cl_s e; obtain ⟨o1, eo1, e⟩ := e
  rw [so_e eo1] at e
  rcases br_s e with ⟨c, e⟩ | ⟨c, e⟩
  · rw [so_e e]; exact ⟨rfl, Or.inl rfl⟩
  have c : ¬ hI h (V 6) 9 = 0 := c
  rcases br_s e with ⟨c2, e⟩ | ⟨c2, e⟩
  · rw [so_e e]; exact ⟨rfl, Or.inl rfl⟩
  have c2 : ¬ ((x >>> ((24 : Int32) &&& 31)) &&& (3 : Int32)) = (2 : Int32) := c2
  have k2 : ¬ v.2.2.2.2.2.1 = 2 := fun z => c2 (Int32.toInt_inj.mp (by rw [f5, z, z2]))
  replace e := cl_s e; obtain ⟨o4, eo4, e⟩ := e
  rw [so_e eo4] at e
  replace e := ce_e C.1.1.1 e
  rcases br_s e with ⟨c3, e⟩ | ⟨c3, e⟩
  · rw [so_e e]; exact ⟨rfl, Or.inl rfl⟩
  have c3 : ¬ ((x >>> ((12 : Int32) &&& 31)) &&& (15 : Int32)) = hI h (V 2) 4 := c3
  have nr : ¬ v.2.2.1 = L 10 0 := fun z => c3 (Int32.toInt_inj.mp (by rw [f2, z, r4]))
  rcases Wt with w | ⟨_, cal, na⟩
  · exact absurd w c
  replace e := cl_s e; obtain ⟨o7, eo7, e⟩ := e
  rw [so_e eo7] at e
  replace e := nm_s e; obtain ⟨v8, u8, e⟩ := e
  have it : Rg 0 63 (x &&& (63 : Int32)) := ⟨by omega, by omega⟩
  have ct : (x &&& (63 : Int32)).toNatClampNeg = v.2.1.toNat := by have := nc_i it.1; omega
  have b8 : ∀ q, bitJ v8 q = true ↔ q = v.2.1.toNat := fun q => by rw [u8, ← ct]; exact bj_one' it
  -- all squares that it touches
  have fin : ∀ {y : Int64}, (∀ q, shT (pzQ P 0) v q → bitJ y q = true) → sX5_isSafe_72 h (V 6) y = some o → o.2 = h ∧ (o.1 = 0 ∨ (o.1 = 1 ∧ sfP L P v)) := fun {y} hy u => by
    obtain ⟨w, q⟩ := sfc_72 u
    refine ⟨w, ?_⟩
    rcases q with q | ⟨q, d⟩
    · exact Or.inl q
    · exact Or.inr ⟨q, sf_calm H K O G cal k2 nr na (fun q hq z => d q hq (hy q z))⟩
  have k54 : ∀ {y : Int64} {ki : Int32}, ki.toInt = v.2.2.2.2.2.1 → (∀ q, (q = v.2.1.toNat ∨ (¬ v.2.2.2.2.2.1 = 3 ∧ q = v.1.toNat)) → bitJ y q = true) → sX5_isSafe_54 h (V 6) ki y = some o → o.2 = h ∧ (o.1 = 0 ∨ (o.1 = 1 ∧ sfP L P v)) := fun {y ki} ek hy u => by
    unfold sX5_isSafe_54 at u
    rcases br_s u with ⟨w, u⟩ | ⟨w, u⟩
    · rw [w, z1] at ek
      have k1 := ek.symm
      have pn := (G.2.2.2.2.1 k1).1
      have p64 := (p0_ne O G k1).2.2
      replace u := ce_e C.2.2.2.1.1 u
      replace u := cl_s u; obtain ⟨o3, eo3, u⟩ := u
      obtain ⟨w3, q3⟩ := psq_q (i := 0) eo3 C.2.2.1.2.2.2.2.1.1 (by decide) (by show (0 : Int) < _; omega)
      have q3 : o3.1.toInt = (pzQ P 0 : Int) := q3
      rw [w3] at u
      replace u := nm_s u; obtain ⟨v4, u4, u⟩ := u
      have i3 : Rg 0 63 o3.1 := ⟨by omega, by omega⟩
      have c3 : o3.1.toNatClampNeg = pzQ P 0 := by have := nc_i i3.1; omega
      refine fin (fun q z => ?_) u
      rw [u4, bj_or, Bool.or_eq_true]
      rcases z with z | z | z | z
      · exact Or.inl (hy q (Or.inl z))
      · exact Or.inl (hy q (Or.inr z))
      · exact Or.inr ((bj_one' i3).mpr (by rw [c3]; exact z.2))
      · exact absurd z.1 k2
    · have k1 : ¬ v.2.2.2.2.2.1 = 1 := fun z => w (Int32.toInt_inj.mp (by rw [ek, z, z1]))
      refine fin (fun q z => ?_) u
      rcases z with z | z | z | z
      · exact hy q (Or.inl z)
      · exact hy q (Or.inr z)
      · exact absurd z.1 k1
      · exact absurd z.1 k2
  rcases br_s e with ⟨c4, e⟩ | ⟨c4, e⟩
  · have c4 : ((x >>> ((24 : Int32) &&& 31)) &&& (3 : Int32)) = (3 : Int32) := c4
    have k3 : v.2.2.2.2.2.1 = 3 := by rw [← f5, c4, z3]
    refine k54 f5 (fun q z => ?_) e
    rcases z with z | z
    · exact (b8 q).mpr z
    · exact absurd k3 z.1
  · have c4 : ¬ ((x >>> ((24 : Int32) &&& 31)) &&& (3 : Int32)) = (3 : Int32) := c4
    have k3 : ¬ v.2.2.2.2.2.1 = 3 := fun z => c4 (Int32.toInt_inj.mp (by rw [f5, z, z3]))
    have s0 := (mvgd_s G k3).1
    rw [if_neg k3] at f1
    replace e := cl_s e; obtain ⟨o10, eo10, e⟩ := e
    rw [so_e eo10] at e
    replace e := nm_s e; obtain ⟨v11, u11, e⟩ := e
    dsimp only at u11 e
    have is : Rg 0 63 ((x >>> ((6 : Int32) &&& 31)) &&& (63 : Int32)) := ⟨by omega, by omega⟩
    have cs : ((x >>> ((6 : Int32) &&& 31)) &&& (63 : Int32)).toNatClampNeg = v.1.toNat := by have := nc_i is.1; omega
    refine k54 f5 (fun q z => ?_) e
    rw [u11, bj_or, Bool.or_eq_true]
    rcases z with z | z
    · exact Or.inl ((b8 q).mpr z)
    · exact Or.inr ((bj_one' is).mpr (by rw [cs]; exact z.2))
/-- the ROYAL man on the shifted board -/
theorem hit_s (D : VD V) {q sd : Int32} {M : Nat → Int} {d : Nat} (H : LOk L) (HM : MOk L M) (U : UnM M (L 10 0)) (C : CWy V h L) (Pc : VPc (vC V) h) (R : PosC h (V 234) (V 235) (V 236) M (L 10 0)) (hd : d < 2) (a1 : Rg 0 63 q) (a2 : 0 ≤ L 10 0) (a3 : M q.toNatClampNeg = 1 + 2 * L 10 0 + d) (es : sd.toInt = 1 - (d : Int)) (e : sX5_isHit F h (V 6) (V 204) q sd = some o) : o.2 = h ∧ ((o.1 = 0 ∧ ¬ RyH L M d) ∨ (o.1 = 1 ∧ RyH L M d)) := by
  have ca := nc_i a1.1
  have a63 := a1.2
  obtain ⟨w, r⟩ := hit_c (V := vC V) H HM C.1.2 (wcf_vc C.2.1) (wyt_vc C.2.2.1) Pc R a1.1 (by omega) ⟨by omega, by omega⟩ e
  rw [es] at r
  exact ⟨w, ryh_u U hd (by omega) a2 a3 r⟩
theorem has_v {x1 : Int32} (e : sX1_has h (V 2) x1 = some o) : o.2 = h ∧ ((o.1 = 0 ∧ (hI h (V 2) 10) &&& x1 = 0) ∨ (o.1 = 1 ∧ ¬ (hI h (V 2) 10) &&& x1 = 0)) := by
  unfold sX1_has sX1_has_14 at e
  rcases br_s e with ⟨c, e⟩ | ⟨c, e⟩
  · rw [so_e (gg_e e)]; exact ⟨rfl, Or.inl ⟨rfl, c⟩⟩
  · rw [so_e (gg_e e)]; exact ⟨rfl, Or.inr ⟨rfl, c⟩⟩
theorem msc_97 (D : VD V) {x1 x4 : Int32} {M : Nat → Int} (H : LOk L) (HM : MOk L M) (U : UnM M (L 10 0)) (O : PzOk L P) (C : CcW V h L P) (R : PosC h (V 234) (V 235) (V 236) M (L 10 0)) (e1 : x1.toInt = (pzS P : Int)) (ro : RoA x4 M (L 10 0) (1 - pzS P)) (e : sX5_mayStand_97 F h (V 6) x1 x4 = some o) : o.2 = h ∧ ((o.1 = 0 ∧ ¬ (L 17 0 = 0 ∨ ¬ RyH L M (1 - pzS P))) ∨ (o.1 = 1 ∧ (L 17 0 = 0 ∨ ¬ RyH L M (1 - pzS P)))) := by
  have isd := O.2.2.1
  have b4 := C.2.1.2.1.2.1.2.2.1
  unfold sX5_mayStand_97 sX5_mayStand_128 sX5_mayStand_133 at e
  replace e := ce_e C.1.1.1 e
  replace e := cl_s e; obtain ⟨o2, eo2, e⟩ := e
  obtain ⟨w2, q2⟩ := has_v eo2
  rw [w2] at e
  rcases q2 with ⟨q, y⟩ | ⟨q, y⟩
  · replace e := bp_e q e
    rw [so_e (gg_e e)]
    exact ⟨rfl, Or.inr ⟨rfl, Or.inl (b4.mp y)⟩⟩
  have n17 : ¬ L 17 0 = 0 := fun z => y (b4.mpr z)
  replace e := bn_e (by rw [q]; decide) e
  rcases roa_e ro with ⟨r1, r2⟩ | ⟨r1, r2, r3, r4, r5⟩
  · replace e := bp_e r1 e
    rw [so_e (gg_e e)]
    exact ⟨rfl, Or.inr ⟨rfl, Or.inr (ryh_n r2)⟩⟩
  replace e := bn_e r1 e
  replace e := ce_e C.2.2.2.2.1 e
  replace e := cl_s e; obtain ⟨o6, eo6, e⟩ := e
  obtain ⟨w6, q6⟩ := hit_s D H HM U C.1 C.2.2.2.2.2 R (d := 1 - pzS P) (by omega) r2 r3 r4 (by rw [e1]; omega) eo6
  rw [w6] at e
  rcases q6 with ⟨a, b⟩ | ⟨a, b⟩
  · replace e := bp_e a e
    rw [so_e (gg_e e)]
    exact ⟨rfl, Or.inr ⟨rfl, Or.inr b⟩⟩
  · replace e := bn_e (by rw [a]; decide) e
    rw [so_e (gg_e e)]
    refine ⟨rfl, Or.inl ⟨rfl, fun z => ?_⟩⟩
    rcases z with z | z
    · exact n17 z
    · exact z b
theorem msc_70 (D : VD V) {x1 x2 x3 x4 t0 : Int32} {M : Nat → Int} (H : LOk L) (HM : MOk L M) (U : UnM M (L 10 0)) (O : PzOk L P) (C : CcW V h L P) (R : PosC h (V 234) (V 235) (V 236) M (L 10 0)) (e1 : x1.toInt = (pzS P : Int)) (e2 : x2.toInt = 1 - (pzS P : Int)) (ow : RoA x3 M (L 10 0) (pzS P)) (ro : RoA x4 M (L 10 0) (1 - pzS P)) (e : sX5_mayStand_70 F h (V 6) x1 x2 x3 x4 t0 = some o) : o.2 = h ∧ ((o.1 = 0 ∧ ¬ ((RyE L M (pzS P) ∧ (¬ t0 = 0 ∨ ¬ RyH L M (pzS P))) ∧ (L 17 0 = 0 ∨ ¬ RyH L M (1 - pzS P)))) ∨ (o.1 = 1 ∧ (RyE L M (pzS P) ∧ (¬ t0 = 0 ∨ ¬ RyH L M (pzS P))) ∧ (L 17 0 = 0 ∨ ¬ RyH L M (1 - pzS P)))) := by
  unfold sX5_mayStand_70 sX5_mayStand_95 at e
  rcases roa_e ow with ⟨r1, r2⟩ | ⟨r1, r2, r3, r4, r5⟩
  · replace e := bp_e r1 e
    rw [so_e e]
    exact ⟨rfl, Or.inl ⟨rfl, fun z => r2 z.1.1⟩⟩
  replace e := bn_e r1 e
  have fin : (¬ t0 = 0 ∨ ¬ RyH L M (pzS P)) → sX5_mayStand_97 F h (V 6) x1 x4 = some o → o.2 = h ∧ ((o.1 = 0 ∧ ¬ ((RyE L M (pzS P) ∧ (¬ t0 = 0 ∨ ¬ RyH L M (pzS P))) ∧ (L 17 0 = 0 ∨ ¬ RyH L M (1 - pzS P)))) ∨ (o.1 = 1 ∧ (RyE L M (pzS P) ∧ (¬ t0 = 0 ∨ ¬ RyH L M (pzS P))) ∧ (L 17 0 = 0 ∨ ¬ RyH L M (1 - pzS P)))) := fun k u => by
    obtain ⟨w, q⟩ := msc_97 D H HM U O C R e1 ro u
    refine ⟨w, ?_⟩
    rcases q with ⟨q1, q2⟩ | ⟨q1, q2⟩
    · exact Or.inl ⟨q1, fun z => q2 z.2⟩
    · exact Or.inr ⟨q1, ⟨r5, k⟩, q2⟩
  rcases br_s e with ⟨c, e⟩ | ⟨c, e⟩
  · replace e := ce_e C.2.2.2.2.1 e
    replace e := cl_s e; obtain ⟨o4, eo4, e⟩ := e
    obtain ⟨w4, q4⟩ := hit_s D H HM U C.1 C.2.2.2.2.2 R (d := pzS P) O.2.2.1 r2 r3 r4 e2 eo4
    rw [w4] at e
    rcases q4 with ⟨a, b⟩ | ⟨a, b⟩
    · exact fin (Or.inr b) (bp_e a e)
    · replace e := bn_e (by rw [a]; decide) e
      rw [so_e e]
      refine ⟨rfl, Or.inl ⟨rfl, fun z => ?_⟩⟩
      rcases z.1.2 with w | w
      · exact w c
      · exact w b
  · exact fin (Or.inl c) e
/-- mayStand, where the board behind the move stands in `shifted' -/
theorem ms_c (D : VD V) (H : LOk L) (K : LawK L) (O : PzOk L P) (G : MvGd L P v) (C : CcW V h L P) (R : PosC h (V 234) (V 235) (V 236) (mkM L P v) (L 10 0)) (e : sX5_mayStand F h (V 6) = some o) : o.2 = h ∧ ((o.1 = 0 ∧ ¬ sfP L P v) ∨ (o.1 = 1 ∧ sfP L P v)) := by
  have z1 : (1 : Int32).toInt = 1 := rfl
  have isd := O.2.2.1
  obtain ⟨mo, un⟩ := mkm_ok H K O G
  have Cp := C.2.2.1
  have e5 := Cp.2.2.1
  have T2 : hR h (V 204) 2 = some (V 236) := C.2.2.2.2.2.2.2.1
  have w4 := C.2.2.2.1.1
  have w3 := C.2.2.2.2.1
  unfold sX5_mayStand sX5_mayStand_69 at e
  replace e := ce_e w4 e
  replace e := nm_s e; obtain ⟨v2, u2, e⟩ := e
  replace e := nm_s e; obtain ⟨v3, u3, e⟩ := e
  rw [← u2] at e5
  have t3 : v3.toInt = 1 - (pzS P : Int) := by rw [u3, ts (by rw [z1, e5]; omega), z1, e5]
  have c2 : v2.toNatClampNeg = pzS P := by have := nc_i (x := v2) (by omega); omega
  have c3 : v3.toNatClampNeg = 1 - pzS P := by have := nc_i (x := v3) (by omega); omega
  replace e := ce_e w3 e
  replace e := ce_e T2 e
  replace e := gg_e e
  replace e := nm_s e; obtain ⟨v7, u7, e⟩ := e
  rw [c2] at u7
  have r7 : RoA v7 (mkM L P v) (L 10 0) (pzS P) := by rw [u7]; exact R.2.2.1 _ isd
  replace e := ce_e w3 e
  replace e := ce_e T2 e
  replace e := gg_e e
  replace e := nm_s e; obtain ⟨v11, u11, e⟩ := e
  rw [c3] at u11
  have r11 : RoA v11 (mkM L P v) (L 10 0) (1 - pzS P) := by rw [u11]; exact R.2.2.1 _ (by omega)
  have o1 := Cp.2.1.2.2.1 (pzS P) isd
  have o2 := Cp.2.1.2.2.1 (1 - pzS P) (by omega)
  replace e := ce_e w4 e
  replace e := ce_e Cp.1.2.2.1 e
  replace e := gg_e e
  unfold sfP
  rcases br_s e with ⟨y, e⟩ | ⟨y, e⟩ <;> rw [c2] at y
  · have nr : ¬ RyE L P.1 (pzS P) := by
      rcases roa_e o1 with ⟨_, a⟩ | ⟨a, _⟩
      · exact a
      · exact absurd y a
    obtain ⟨w, q⟩ := msc_97 D H mo un O C R e5 r11 e
    refine ⟨w, ?_⟩
    rcases q with ⟨q1, q2⟩ | ⟨q1, q2⟩
    · exact Or.inl ⟨q1, fun z => q2 z.2⟩
    · exact Or.inr ⟨q1, fun z => absurd z nr, q2⟩
  have yr : RyE L P.1 (pzS P) := by
    rcases roa_e o1 with ⟨a, _⟩ | ⟨_, _, _, _, a⟩
    · exact absurd a y
    · exact a
  have fin : ∀ {t0 : Int32}, (¬ t0 = 0 ↔ (RyE L P.1 (1 - pzS P) ∧ ¬ RyE L (mkM L P v) (1 - pzS P))) → sX5_mayStand_70 F h (V 6) v2 v3 v7 v11 t0 = some o → o.2 = h ∧ ((o.1 = 0 ∧ ¬ ((RyE L P.1 (pzS P) → RyE L (mkM L P v) (pzS P) ∧ ((RyE L P.1 (1 - pzS P) ∧ ¬ RyE L (mkM L P v) (1 - pzS P)) ∨ ¬ RyH L (mkM L P v) (pzS P))) ∧ (L 17 0 = 0 ∨ ¬ RyH L (mkM L P v) (1 - pzS P)))) ∨ (o.1 = 1 ∧ (RyE L P.1 (pzS P) → RyE L (mkM L P v) (pzS P) ∧ ((RyE L P.1 (1 - pzS P) ∧ ¬ RyE L (mkM L P v) (1 - pzS P)) ∨ ¬ RyH L (mkM L P v) (pzS P))) ∧ (L 17 0 = 0 ∨ ¬ RyH L (mkM L P v) (1 - pzS P)))) := fun {t0} ht u => by
    obtain ⟨w, q⟩ := msc_70 D H mo un O C R e5 t3 r7 r11 u
    refine ⟨w, ?_⟩
    rw [ht] at q
    rcases q with ⟨q1, q2⟩ | ⟨q1, q2⟩
    · exact Or.inl ⟨q1, fun z => q2 ⟨z.1 yr, z.2⟩⟩
    · exact Or.inr ⟨q1, fun _ => q2.1, q2.2⟩
  replace e := ce_e w4 e
  replace e := ce_e Cp.1.2.2.1 e
  replace e := gg_e e
  rcases br_s e with ⟨y', e⟩ | ⟨y', e⟩ <;> rw [c3] at y'
  · have nr : ¬ RyE L P.1 (1 - pzS P) := by
      rcases roa_e o2 with ⟨_, a⟩ | ⟨a, _⟩
      · exact a
      · exact absurd y' a
    exact fin ⟨fun z => absurd rfl z, fun z => absurd z.1 nr⟩ e
  have yo : RyE L P.1 (1 - pzS P) := by
    rcases roa_e o2 with ⟨a, _⟩ | ⟨_, _, _, _, a⟩
    · exact absurd a y'
    · exact a
  rcases roa_e r11 with ⟨a1, a2⟩ | ⟨a1, _, _, _, a5⟩
  · exact fin ⟨fun _ => ⟨yo, a2⟩, fun _ => by decide⟩ (bp_e a1 e)
  · exact fin ⟨fun z => absurd rfl z, fun z => absurd a5 z.2⟩ (bn_e a1 e)
end
end
section
/-! the class: lawful moves are kept -/
def TkF (V : Nat → Nat) (h : Hp) (kept : List MvT) : Prop := (hI h (V 6) 7 = 0 ∧ kept.any tkB = false) ∨ (hI h (V 6) 7 = 1 ∧ kept.any tkB = true)
section
variable {F : Nat} {V : Nat → Nat} {L : Nat → Nat → Int} {h o : Hp} {P : Pz} {v : MvT} {x : Int32} {Ls : List (Nat × Nat)}
theorem posc_c {on of ra : Nat} {M M' : Nat → Int} {ro : Int} (R : PosC h on of ra M ro) (m : ∀ s, s < 64 → M' s = M s) : PosC h on of ra M' ro := posc_k R (fun _ => rfl) (fun _ => rfl) (fun _ => rfl) m
theorem tkf_k {kept : List MvT} {g : Hp} (T : TkF V h kept) (e : hI g (V 6) 7 = hI h (V 6) 7) : TkF V g kept := by
  unfold TkF
  rw [e]
  exact T
theorem kpc_k {kept rest : List MvT} {n : Nat} {g : Hp} (K : KpC V h kept n rest) (a : hI g (V 6) 6 = hI h (V 6) 6) (b : ∀ i, hI g (V 47) i = hI h (V 47) i) : KpC V g kept n rest :=
  ⟨by rw [a]; exact K.1, K.2.1, fun j hj => by rw [b]; exact K.2.2.1 j hj, fun j hj => by rw [b]; exact K.2.2.2 j hj⟩
theorem watf_k {g : Hp} (W : WatF V h L P) (a : hI g (V 6) 9 = hI h (V 6) 9) (b : hJ g (V 6) 8 = hJ h (V 6) 8) : WatF V g L P := by
  unfold WatF
  rw [a, b]
  exact W
abbrev wss : List (Nat × Nat) := [(7, 2), (204, 5), (204, 6), (204, 7), (204, 8), (204, 9), (204, 10), (234, 999), (235, 999), (236, 999), (237, 999), (238, 999)]
/-- the board behind a move, in `shifted' -/
theorem shb_c (D : VD V) {o1 o2 o3 : Hp} (H : LOk L) (O : PzOk L P) (G : MvGd L P v) (C : CcW V h L P) (M' : MvC x v) (e1 : sX3_copyFrom F h (V 204) (V 4) = some o1) (e2 : sX5_shift F o1 (V 6) (V 204) x = some o2) (e3 : sX5_blast F o2 (V 6) (V 204) x = some o3) : FrV V (wl wss) h o3 ∧ hN o3 (V 47) = hN h (V 47) ∧ PosC o3 (V 234) (V 235) (V 236) (mkM L P v) (L 10 0) := by
  have L2 := H.2.2.1
  obtain ⟨⟨⟨a0, a1⟩, wc, wy, ar⟩, lw, cp, _, w3, tp⟩ := C
  obtain ⟨A1, R1, n1⟩ := cp_c D cp tp e1
  have r2 : ∀ i, hI o1 (V 2) i = hI h (V 2) i := fun i => fvI D A1 2 i
  have cl1 := clw_fr D lw A1 (by decide)
  have cw1 := cwy_fr D ⟨⟨a0, a1⟩, wc, wy, ar⟩ A1 (by decide)
  have isd := isd_i O
  have S1 : ShW (vC V) o1 L P.1 (pzS P) := ⟨cw1.1.1, R1.1, R1.2.1, O.2.1, cl1.2.2.1.1, cl1.2.2.1.2.2.1, R1.2.2.1⟩
  have B1 : ShB (vC V) o1 L := ⟨cl1.2.2.2.1.1, cl1.1.1, fun s hs => (cl1.1.2.2.2.2.2 s hs).1⟩
  obtain ⟨A2, S2, _⟩ := sh_c (vd_c D) (p0 := pzQ P 0) H O.1 S1 B1 isd M' G.1 (fun k => ⟨pzN P, pzQ P, R1.2.2.2.2.1.1, by have := (G.2.2.2.2.1 k).1; omega, rfl⟩) (fun k => (p0_ne O G k).1) e2
  have A2' : FrV V (wl wss) o1 o2 := fv_s (fv_sc A2) (by decide)
  have cl2 := clw_fr D cl1 A2' (by decide)
  have cw2 := cwy_fr D cw1 A2' (by decide)
  obtain ⟨A3, S3, _⟩ := bl_c (vd_c D) H S2 (aro_vc cw2.2.2.2) cw2.1.2 cw2.2.1.2.2.2.2.2 cl2.2.2.1.2.2.2.2.2.2 cl2.2.1.2.1.2.2.2 M' G.1.1 (by have := G.2.2.1; omega) e3
  have A3' : FrV V (wl wss) o2 o3 := fv_s (fv_sc A3) (by decide)
  refine ⟨fv_t (fv_s A1 (by decide)) (fv_t A2' A3'), ?_, posc_c S3.2.2.1 (fun s hs => mkm_sh H G hs)⟩
  have := hn_X5_blast (hn_X5_shift (fun a => n1 a) e2) e3 (V 47)
  exact this
theorem klw_4 (D : VD V) (H : LOk L) (K : LawK L) (O : PzOk L P) : ∀ (f : Nat) {h : Hp} {x2 x3 : Int32} {kept rest : List MvT} {n : Nat}, CcW V h L P → WatF V h L P → x2.toInt = (kept.length : Int) → x3.toInt = (n : Int) → n + rest.length ≤ 4096 → (∀ v, v ∈ rest → MvGd L P v) → TkF V h kept → KpC V h kept n rest → sX5_keepLawful_4 F f h (V 6) x2 x3 = some o → FrV V (wl wcq) h o ∧ hN o (V 47) = hN h (V 47) ∧ WatF V o L P ∧ CLs V o (kept ++ rest.filter (sfB L P)) ∧ TkF V o (kept ++ rest.filter (sfB L P)) := by
  have z1 : (1 : Int32).toInt = 1 := rfl
  have zm : (-1 : Int32).toInt = -1 := by decide
  intro f
  induction f with
  | zero => intro h x2 x3 kept rest n _ _ _ _ _ _ _ _ e; exact absurd e (by rw [sX5_keepLawful_4]; exact fun z => nomatch z)
  | succ f ih =>
    intro h x2 x3 kept rest n C Wt e2 e3 lm good Tk Kp e
    have K1 := Kp.1
    have K2 := Kp.2.1
    have w5 := C.2.2.2.1.2.1
    rw [sX5_keepLawful_4] at e
    cases rest with
    | nil =>
      replace e := bp_e (by
        apply ii_le.mpr
        rw [K1, e3]
        exact Int.le_refl _) e
      replace e := nm_s e; obtain ⟨g, ug, e⟩ := e
      have A : FrV V (wl [(6, 6)]) h g := by rw [ug]; exact fv_w rfl
      rw [so_e e, List.filter_nil, List.append_nil]
      refine ⟨fv_s A (by decide), by rw [ug]; rfl, watf_k Wt (fvi D A 6 9) (fvj D A 6 8), ⟨by rw [ug, r_I, if_pos ⟨rfl, rfl⟩, e2], fun j hj => ?_⟩, tkf_k Tk (fvi D A 6 7)⟩
      rw [fvI D A 47 j]
      exact Kp.2.2.1 j hj
    | cons v rest =>
      have ll : (v :: rest).length = rest.length + 1 := List.length_cons
      have c3 : x3.toNatClampNeg = n := by have := nc_i (x := x3) (by omega); omega
      have c2 : x2.toNatClampNeg = kept.length := by have := nc_i (x := x2) (by omega); omega
      have t3 : (x3 + (1 : Int32)).toInt = ((n + 1 : Nat) : Int) := by rw [ta (by rw [z1]; omega), z1, e3]; omega
      have good' : ∀ w, w ∈ rest → MvGd L P w := fun w hw => good w (by simp [hw])
      have gv := good v (by simp)
      replace e := bn_e (fun z => by have := le_i z; omega) e
      replace e := ce_e w5 e
      replace e := gg_e e
      replace e := nm_s e; obtain ⟨v5, u5, e⟩ := e
      rw [c3] at u5
      obtain ⟨v', av, Pk⟩ := Kp.2.2.2 0 (by omega)
      have av : v = v' := Option.some.inj av
      rw [← av] at Pk
      have Pk : MvC (hI h (V 47) n) v := Pk
      rw [← u5] at Pk
      replace e := cl_s e; obtain ⟨o6, eo6, e⟩ := e
      obtain ⟨w6, q6⟩ := sfc_v H K O gv C Pk Wt eo6
      rw [w6] at e
      -- behind the test
      have k70 : ∀ {g : Hp} {b : Int32}, FrV V (wl wss) h g → hN g (V 47) = hN h (V 47) → ((b = 0 ∧ ¬ sfP L P v) ∨ (b = 1 ∧ sfP L P v)) → sX5_keepLawful_70 F (sX5_keepLawful_4 F f) g (V 6) x2 x3 v5 b = some o → FrV V (wl wcq) h o ∧ hN o (V 47) = hN h (V 47) ∧ WatF V o L P ∧ CLs V o (kept ++ (v :: rest).filter (sfB L P)) ∧ TkF V o (kept ++ (v :: rest).filter (sfB L P)) := fun {g b} A ln hb u => by
        have Cg := ccw_f D C A (by decide) (by decide) ln
        have Wg := watf_k Wt (fvI D A 6 9) (fvJ D A 6 8)
        have Kg := kpc_k Kp (fvI D A 6 6) (fun i => fvI D A 47 i)
        have Tg := tkf_k Tk (fvI D A 6 7)
        have Aq : FrV V (wl wcq) h g := fv_s A (by decide)
        unfold sX5_keepLawful_70 sX5_keepLawful_103 sX5_keepLawful_108 sX5_keepLawful_111 at u
        rcases hb with ⟨b1, b2⟩ | ⟨b1, b2⟩
        · replace u := bp_e b1 u
          rw [List.filter_cons_of_neg (by rw [show sfB L P v = false from prb_f.mpr b2]; decide)]
          obtain ⟨r1, r2, r3, r4, r5⟩ := ih Cg Wg e2 t3 (by omega) good' Tg (kpc_n Kg) (nx_e u)
          exact ⟨fv_t Aq r1, r2.trans ln, r3, r4, r5⟩
        · replace u := bn_e (by rw [b1]; decide) u
          rw [List.filter_cons_of_pos (show sfB L P v = true from prb_e.mpr b2)]
          replace u := ce_e Cg.2.2.2.1.2.1 u
          replace u := gg_e u
          replace u := nm_s u; obtain ⟨g2, u2, u⟩ := u
          rw [c2, u5, ← fvI D A 47 n] at u2
          have A2 : FrV V (wl [(47, 999)]) g g2 := by rw [u2]; exact fv_w (wl_9 (by decide))
          have K2' := kpc_y D Kg
          rw [← u2] at K2'
          replace u := nm_s u; obtain ⟨v6, u6, u⟩ := u
          have t2 : v6.toInt = ((kept ++ [v]).length : Int) := by rw [u6, ta (by rw [z1]; omega), z1, e2, List.length_append]; rfl
          have i7 : hI g2 (V 6) 7 = hI g (V 6) 7 := fvI D A2 6 7
          -- the flag
          have fl : ∀ {t : Int32}, ((t = 0 ∧ (kept ++ [v]).any tkB = false) ∨ (t = 1 ∧ (kept ++ [v]).any tkB = true)) → sX5_keepLawful_4 F f (wI g2 (V 6) 7 t) (V 6) v6 (x3 + (1 : Int32)) = some o → FrV V (wl wcq) h o ∧ hN o (V 47) = hN h (V 47) ∧ WatF V o L P ∧ CLs V o (kept ++ v :: rest.filter (sfB L P)) ∧ TkF V o (kept ++ v :: rest.filter (sfB L P)) := fun {t} ht u => by
            have A3 : FrV V (wl [(6, 7)]) g2 (wI g2 (V 6) 7 t) := fv_w rfl
            have A23 : FrV V (wl [(47, 999), (6, 7)]) g (wI g2 (V 6) 7 t) := fv_t (fv_s A2 (by decide)) (fv_s A3 (by decide))
            have ln2 : hN (wI g2 (V 6) 7 t) (V 47) = hN g (V 47) := by rw [u2]; rfl
            have C3 := ccw_f D Cg A23 (by decide) (by decide) ln2
            obtain ⟨r1, r2, r3, r4, r5⟩ := ih C3 (watf_k Wg (fvi D A23 6 9) (fvj D A23 6 8)) t2 t3 (by omega) good' (by
              unfold TkF
              rw [r_I, if_pos ⟨rfl, rfl⟩]
              exact ht) (kpc_k K2' (fvi D A3 6 6) (fun i => fvI D A3 47 i)) u
            rw [List.append_assoc] at r4 r5
            exact ⟨fv_t Aq (fv_t (fv_s A23 (by decide)) r1), r2.trans (ln2.trans ln), r3, r4, r5⟩
          rcases br_s u with ⟨y, u⟩ | ⟨y, u⟩
          · rw [i7] at y
            have ka : kept.any tkB = false := by
              rcases Tg with ⟨_, a⟩ | ⟨a, _⟩
              · exact a
              · rw [a] at y; exact absurd y (by decide)
            replace u := cl_s u; obtain ⟨o7, eo7, u⟩ := u
            obtain ⟨w7, q7⟩ := tak_v Pk eo7
            rw [w7] at u
            have tb := gv.2.2.1
            have L2 := H.2.2.1
            have q7 : o7.1.toInt = v.2.2.2.2.1 := by
              rw [q7]
              rcases tb with y | ⟨y, y'⟩
              · rw [if_pos (by rw [if_pos y]), y]
              · rw [if_neg (show ¬ v.2.2.2.2.1 = -1 by omega), if_neg (show ¬ v.2.2.2.2.1 = 15 by omega)]
            rcases br_s u with ⟨w, u⟩ | ⟨w, u⟩
            · replace u := gg_e u
              refine fl (Or.inl ⟨rfl, ?_⟩) (nx_e (nx_e u))
              rw [any_app, ka]
              unfold tkB
              rw [decide_eq_true (by rw [← q7, w, zm])]; rfl
            · replace u := gg_e u
              refine fl (Or.inr ⟨rfl, ?_⟩) (nx_e (nx_e u))
              rw [any_app, ka]
              unfold tkB
              rw [decide_eq_false (fun z => w (Int32.toInt_inj.mp (by rw [q7, z, zm])))]; rfl
          · rw [i7] at y
            have ka : kept.any tkB = true := by
              rcases Tg with ⟨a, _⟩ | ⟨_, a⟩
              · exact absurd a y
              · exact a
            replace u := gg_e u
            refine fl (Or.inr ⟨rfl, ?_⟩) (nx_e (nx_e u))
            rw [any_app, ka]; rfl
      rcases q6 with q | ⟨q, sf⟩
      · replace e := bp_e q e
        replace e := ce_e C.2.2.2.2.1 e
        replace e := ce_e C.2.2.2.1.1 e
        replace e := cl_s e; obtain ⟨o10, eo10, e⟩ := e
        have A10 := (cp_c D C.2.2.1 C.2.2.2.2.2 eo10).1
        replace e := ce_e (by rw [A10.1]; exact C.2.2.2.2.1) e
        replace e := cl_s e; obtain ⟨o12, eo12, e⟩ := e
        have R12 : ∀ a i, hR o12 a i = hR h a i := by
          obtain ⟨_, R1, _⟩ := cp_c D C.2.2.1 C.2.2.2.2.2 eo10
          have cl1 := clw_fr D C.2.1 A10 (by decide)
          have cw1 := cwy_fr D C.1 A10 (by decide)
          have S1 : ShW (vC V) o10 L P.1 (pzS P) := ⟨cw1.1.1, R1.1, R1.2.1, O.2.1, cl1.2.2.1.1, cl1.2.2.1.2.2.1, R1.2.2.1⟩
          have B1 : ShB (vC V) o10 L := ⟨cl1.2.2.2.1.1, cl1.1.1, fun s hs => (cl1.1.2.2.2.2.2 s hs).1⟩
          obtain ⟨A2, _, _⟩ := sh_c (vd_c D) (p0 := pzQ P 0) H O.1 S1 B1 (isd_i O) Pk gv.1 (fun k => ⟨pzN P, pzQ P, R1.2.2.2.2.1.1, by have := (gv.2.2.2.2.1 k).1; omega, rfl⟩) (fun k => (p0_ne O gv k).1) eo12
          intro a i
          rw [A2.1, A10.1]
        replace e := ce_e (by rw [R12]; exact C.2.2.2.2.1) e
        replace e := cl_s e; obtain ⟨o14, eo14, e⟩ := e
        obtain ⟨A14, ln, R14⟩ := shb_c D H O gv C Pk eo10 eo12 eo14
        have C14 := ccw_f D C A14 (by decide) (by decide) ln
        replace e := cl_s e; obtain ⟨o15, eo15, e⟩ := e
        obtain ⟨w15, q15⟩ := ms_c D H K O gv C14 R14 eo15
        rw [w15] at e
        exact k70 A14 ln q15 e
      · replace e := bn_e (by rw [q]; decide) e
        exact k70 fv_0 rfl (Or.inr ⟨q, sf⟩) e
/-- keepLawful -/
theorem kl_c (D : VD V) {x1 : Int32} {pre new : List MvT} (H : LOk L) (K : LawK L) (O : PzOk L P) (C : CcW V h L P) (Wt : WatF V h L P) (e1 : x1.toInt = (pre.length : Int)) (lm : (pre ++ new).length ≤ 4096) (good : ∀ v, v ∈ new → MvGd L P v) (Tk : TkF V h pre) (R : CLs V h (pre ++ new)) (e : sX5_keepLawful F h (V 6) x1 = some o) : FrV V (wl wcq) h o ∧ hN o (V 47) = hN h (V 47) ∧ WatF V o L P ∧ CLs V o (pre ++ new.filter (sfB L P)) ∧ TkF V o (pre ++ new.filter (sfB L P)) := by
  unfold sX5_keepLawful at e
  rw [List.length_append] at lm
  refine klw_4 D H K O F (n := pre.length) C Wt e1 e1 lm good Tk ⟨by rw [R.1, List.length_append], Nat.le_refl _, fun j hj => ?_, fun j hj => ?_⟩ e
  · have := R.2 j (by rw [List.length_append]; omega)
    rw [List.getElem?_append_left hj] at this
    exact this
  · have := R.2 (pre.length + j) (by rw [List.length_append]; omega)
    rw [List.getElem?_append_right (by omega), show pre.length + j - pre.length = j by omega] at this
    exact this
end
end
section
/-! the class: ends ahead of all moves -/
section
variable {L : Nat → Nat → Int} {P : Pz}
theorem two_s (isd : pzS P < 2) {Q : Nat → Prop} : (Q (pzS P) ∨ Q (1 - pzS P)) ↔ (Q 0 ∨ Q 1) := by
  by_cases c : pzS P = 0
  · rw [c]
  · have c : pzS P = 1 := by omega
    rw [c]
    exact Or.comm
theorem er_y1 (isd : pzS P < 2) (c : ¬ L 18 0 = 0 ∧ 0 ≤ L 10 0) (n : ¬ RyE L P.1 0 ∨ ¬ RyE L P.1 1) : (er1 L P).1 = 1 := by
  have n := (two_s isd (Q := fun d => ¬ RyE L P.1 d)).mpr n
  unfold er1
  split
  · rfl
  · rename_i a
    split
    · rfl
    · rename_i b
      rcases n with n | n
      · exact absurd (prb_e.mpr ⟨c, n⟩) a
      · exact absurd (prb_e.mpr ⟨c, n⟩) b
theorem er_n1 (isd : pzS P < 2) (n : ¬ ((¬ L 18 0 = 0 ∧ 0 ≤ L 10 0) ∧ (¬ RyE L P.1 0 ∨ ¬ RyE L P.1 1))) : er1 L P = er2 L P := by
  rw [← two_s isd (Q := fun d => ¬ RyE L P.1 d)] at n
  unfold er1
  rw [if_neg (fun z => n ⟨(prb_e.mp z).1, Or.inl (prb_e.mp z).2⟩), if_neg (fun z => n ⟨(prb_e.mp z).1, Or.inr (prb_e.mp z).2⟩)]
theorem er_y2 (isd : pzS P < 2) (n : OnH L P.1 0 ∨ OnH L P.1 1) : (er2 L P).1 = 2 := by
  have n := (two_s isd (Q := fun d => OnH L P.1 d)).mpr n
  unfold er2
  split
  · rfl
  · rename_i a
    split
    · rfl
    · rename_i b
      rcases n with n | n
      · exact absurd (prb_e.mpr n) b
      · exact absurd (prb_e.mpr n) a
theorem er_n2 (isd : pzS P < 2) (n : ¬ (OnH L P.1 0 ∨ OnH L P.1 1)) : er2 L P = er3 L P := by
  rw [← two_s isd (Q := fun d => OnH L P.1 d)] at n
  unfold er2
  rw [if_neg (fun z => n (Or.inr (prb_e.mp z))), if_neg (fun z => n (Or.inl (prb_e.mp z)))]
theorem er_y3 (isd : pzS P < 2) (c : 0 < L 20 0) (n : L 20 0 ≤ pzC P 0 ∨ L 20 0 ≤ pzC P 1) : (er3 L P).1 = 3 := by
  have n := (two_s isd (Q := fun d => L 20 0 ≤ pzC P d)).mpr n
  unfold er3
  split
  · rfl
  · rename_i a
    split
    · rfl
    · rename_i b
      rcases n with n | n
      · exact absurd ⟨c, n⟩ b
      · exact absurd ⟨c, n⟩ a
theorem er_n3 (isd : pzS P < 2) (n : ¬ (0 < L 20 0 ∧ (L 20 0 ≤ pzC P 0 ∨ L 20 0 ≤ pzC P 1))) : er3 L P = er4 L P := by
  rw [← two_s isd (Q := fun d => L 20 0 ≤ pzC P d)] at n
  unfold er3
  rw [if_neg (fun z => n ⟨z.1, Or.inr z.2⟩), if_neg (fun z => n ⟨z.1, Or.inl z.2⟩)]
theorem er_y4 (isd : pzS P < 2) (n : BrE P 0 ∨ BrE P 1) : (er4 L P).1 = 4 := by
  have n := (two_s isd (Q := fun d => BrE P d)).mpr n
  unfold er4
  split
  · rfl
  · rename_i a
    split
    · rfl
    · rename_i b
      rcases n with n | n
      · exact absurd (prb_e.mpr n) a
      · exact absurd (prb_e.mpr n) b
theorem er_n4 (isd : pzS P < 2) (n : ¬ (BrE P 0 ∨ BrE P 1)) : (er4 L P).1 = 0 := by
  rw [← two_s isd (Q := fun d => BrE P d)] at n
  unfold er4
  rw [if_neg (fun z => n (Or.inl (prb_e.mp z))), if_neg (fun z => n (Or.inr (prb_e.mp z)))]
end
theorem dig_0 : ∀ (n x : Nat), x < 2 ^ (5 * n) → (∀ m, m < n → x / 2 ^ (5 * m) % 32 = 0) → x = 0 := fun n => by
  induction n with
  | zero => intro x h _; simpa using h
  | succ n ih =>
    intro x h d
    have d0 := d 0 (by omega)
    rw [Nat.mul_zero, Nat.pow_zero, Nat.div_one] at d0
    have := ih (x / 32) (by
      rw [show 5 * (n + 1) = 5 * n + 5 by omega, Nat.pow_add] at h
      exact Nat.div_lt_of_lt_mul (by rw [Nat.mul_comm]; exact h)) (fun m hm => by
      have e := d (m + 1) (by omega)
      rw [show 5 * (m + 1) = 5 + 5 * m by omega, Nat.pow_add, ← Nat.div_div_eq_div_mul] at e
      exact e)
    omega
theorem hd_0 {x : Int64} (B : HdB x) : x = 0 ↔ ∀ m, m < 12 → hv x m = 0 := by
  constructor
  · intro e m _
    rw [e]
    unfold hv
    show 0 / _ % 32 = 0
    rw [Nat.zero_div]
  · intro z
    have : x.toBitVec.toNat = 0 := dig_0 12 _ B (fun m hm => z m hm)
    have e : x.toBitVec = (0 : Int64).toBitVec := BitVec.eq_of_toNat_eq (by rw [this]; rfl)
    exact Int64.toBitVec_inj.mp e
section
variable {F : Nat} {V : Nat → Nat} {L : Nat → Nat → Int} {h : Hp} {P : Pz} {o : Int32 × Hp}
theorem c_zero {y : Int64} : lg_cmp y (0 : Int64) = 0 ↔ y = 0 := ⟨cmp_eq, fun z => by rw [z]; decide⟩
theorem onh_c {x2 : Int32} {d : Nat} (O : PzOk L P) (w0 : hR h (V 6) 0 = some (V 2)) (lw : CLwC V h L) (C : CpP V h (L 10 0) P) (e2 : x2.toInt = (d : Int)) (hd : d < 2) (e : sX5_isOnHill h (V 6) (V 4) x2 = some o) : o.2 = h ∧ ((o.1 = 0 ∧ ¬ OnH L P.1 d) ∨ (o.1 = 1 ∧ OnH L P.1 d)) := by
  have c2 : x2.toNatClampNeg = d := by have := nc_i (x := x2) (by omega); omega
  have ro := C.2.1.2.2.1 d hd
  unfold sX5_isOnHill sX5_isOnHill_35 sX5_isOnHill_36 at e
  replace e := ce_e C.1.2.2.1 e
  replace e := gg_e e
  rcases br_s e with ⟨c, e⟩ | ⟨c, e⟩ <;> rw [c2] at c
  · rw [so_e (gg_e e)]
    refine ⟨rfl, Or.inl ⟨rfl, fun ⟨s, hs, r, m, _⟩ => ?_⟩⟩
    rcases roa_e ro with ⟨_, a⟩ | ⟨a, _⟩
    · exact a ⟨s, hs, r, m⟩
    · exact a c
  · rcases roa_e ro with ⟨a, _⟩ | ⟨_, a2, a3, a4, _⟩
    · exact absurd a c
    have ca := nc_i a2.1
    have a63 := a2.2
    have oi := onh_u O.2.1 hd (show (hI h (V 36) d).toNatClampNeg < 64 by omega) a3 a4
    have hl := lw.2.2.2.2.1 (hI h (V 36) d).toNatClampNeg (by omega)
    replace e := ce_e w0 e
    replace e := ce_e C.1.2.2.1 e
    replace e := gg_e e
    rw [c2] at e
    rcases br_s e with ⟨y, e⟩ | ⟨y, e⟩
    · rw [so_e (gg_e e)]
      refine ⟨rfl, Or.inl ⟨rfl, fun z => ?_⟩⟩
      have b := hl.mpr (oi.mp z)
      have := j_zero.mp (cmp_eq y) 0 (by decide)
      rw [bj_and, ush_bit a2, b, Bool.true_and] at this
      exact absurd this (by decide)
    · rw [so_e (gg_e e)]
      exact ⟨rfl, Or.inr ⟨rfl, oi.mpr (hl.mp (bit_set a2 y))⟩⟩
theorem bar_c {x0 : Nat} {x2 : Int32} {d : Nat} (O : PzOk L P) (C : CpP V h (L 10 0) P) (e2 : x2.toInt = (d : Int)) (hd : d < 2) (e : sX5_isBare h x0 (V 4) x2 = some o) : o.2 = h ∧ ((o.1 = 0 ∧ ¬ BrE P d) ∨ (o.1 = 1 ∧ BrE P d)) := by
  have c2 : x2.toNatClampNeg = d := by have := nc_i (x := x2) (by omega); omega
  have bt := C.2.1.2.1 d hd
  have hz := hd_0 (C.2.2.2.2.2.1.1 d hd)
  have hh := C.2.2.2.2.2.1.2
  unfold sX5_isBare sX5_isBare_26 sX5_isBare_27 at e
  replace e := ce_e C.1.2.1 e
  replace e := gg_e e
  rcases br_s e with ⟨c, e⟩ | ⟨c, e⟩ <;> rw [c2, c_zero, j_zero] at c
  · replace e := ce_e C.1.2.2.2.1 e
    replace e := gg_e e
    rcases br_s e with ⟨y, e⟩ | ⟨y, e⟩ <;> rw [c2, c_zero, hz] at y
    · rw [so_e (gg_e e)]
      refine ⟨rfl, Or.inr ⟨rfl, fun s hs z => ?_, fun m hm z => ?_⟩⟩
      · have := (bt s hs).mpr z
        rw [c s hs] at this
        exact absurd this (by decide)
      · have := hh (2 * m + d) (by omega)
        rw [show (2 * m + d) % 2 = d by omega, show (2 * m + d) / 2 = m by omega, y m hm] at this
        omega
    · rw [so_e (gg_e e)]
      refine ⟨rfl, Or.inl ⟨rfl, fun z => y (fun m hm => ?_)⟩⟩
      have := hh (2 * m + d) (by omega)
      rw [show (2 * m + d) % 2 = d by omega, show (2 * m + d) / 2 = m by omega] at this
      have := z.2 m hm
      omega
  · rw [so_e (gg_e e)]
    refine ⟨rfl, Or.inl ⟨rfl, fun z => c (fun s hs => ?_)⟩⟩
    cases b : bitJ (hJ h (V 35) d) s with
    | false => rfl
    | true => exact absurd ((bt s hs).mp b) (z.1 s hs)
/-- earlyEnd -/
theorem ee_c (K : LawK L) (O : PzOk L P) (w0 : hR h (V 6) 0 = some (V 2)) (lw : CLwC V h L) (C : CpP V h (L 10 0) P) (e : sX5_earlyEnd h (V 6) (V 4) = some o) : o.2 = h ∧ o.1.toInt = (er1 L P).1 := by
  have z0 : (0 : Int32).toInt = 0 := rfl
  have zm : (-1 : Int32).toInt = -1 := by decide
  have n0 : (0 : Int32).toNatClampNeg = 0 := rfl
  have n1 : (1 : Int32).toNatClampNeg = 1 := rfl
  have isd := O.2.2.1
  have kr := K.2.1
  have b8 := lw.2.1.2.1.2.2.2
  have r4 := lw.2.2.1.1
  have r7 := lw.2.2.1.2.2.2.1
  -- bare
  have k4 : ∀ {o : Int32 × Hp}, sX5_earlyEnd_109 h (V 6) (V 4) = some o → o.2 = h ∧ o.1.toInt = (er4 L P).1 := fun {o} u => by
    unfold sX5_earlyEnd_109 sX5_earlyEnd_127 sX5_earlyEnd_132 at u
    replace u := cl_s u; obtain ⟨o1, eo1, u⟩ := u
    obtain ⟨w1, q1⟩ := bar_c O C (d := 0) rfl (by decide) eo1
    rw [w1] at u
    rcases q1 with ⟨a, b⟩ | ⟨a, b⟩
    · replace u := bp_e a u
      replace u := cl_s u; obtain ⟨o3, eo3, u⟩ := u
      obtain ⟨w3, q3⟩ := bar_c O C (d := 1) rfl (by decide) eo3
      rw [w3] at u
      rcases q3 with ⟨a', b'⟩ | ⟨a', b'⟩
      · replace u := bp_e a' u
        rw [so_e u, er_n4 isd (fun z => z.elim b b')]
        exact ⟨rfl, rfl⟩
      · replace u := bn_e (by rw [a']; decide) u
        rw [so_e u, er_y4 isd (Or.inr b')]
        exact ⟨rfl, rfl⟩
    · replace u := bn_e (by rw [a]; decide) u
      rw [so_e u, er_y4 isd (Or.inl b)]
      exact ⟨rfl, rfl⟩
  -- hill and checks
  have k2 : ∀ {o : Int32 × Hp}, sX5_earlyEnd_45 h (V 6) (V 4) = some o → o.2 = h ∧ o.1.toInt = (er2 L P).1 := fun {o} u => by
    unfold sX5_earlyEnd_45 sX5_earlyEnd_63 sX5_earlyEnd_107 at u
    replace u := cl_s u; obtain ⟨o1, eo1, u⟩ := u
    obtain ⟨w1, q1⟩ := onh_c O w0 lw C (d := 0) rfl (by decide) eo1
    rw [w1] at u
    rcases q1 with ⟨a, b⟩ | ⟨a, b⟩
    rotate_left
    · replace u := bn_e (by rw [a]; decide) u
      rw [so_e u, er_y2 isd (Or.inl b)]
      exact ⟨rfl, rfl⟩
    replace u := bp_e a u
    replace u := cl_s u; obtain ⟨o3, eo3, u⟩ := u
    obtain ⟨w3, q3⟩ := onh_c O w0 lw C (d := 1) rfl (by decide) eo3
    rw [w3] at u
    rcases q3 with ⟨a', b'⟩ | ⟨a', b'⟩
    rotate_left
    · replace u := bn_e (by rw [a']; decide) u
      rw [so_e u, er_y2 isd (Or.inr b')]
      exact ⟨rfl, rfl⟩
    replace u := bp_e a' u
    rw [er_n2 isd (fun z => z.elim b b')]
    have c0 := C.2.2.2.2.2.2.1 0 (by decide)
    have c1 := C.2.2.2.2.2.2.1 1 (by decide)
    replace u := ce_e w0 u
    rcases br_s u with ⟨y, u⟩ | ⟨y, u⟩
    · have y := le_i y
      rw [r7, z0] at y
      rw [er_n3 isd (fun z => by have := z.1; omega)]
      exact k4 u
    have y := nle_i y
    rw [r7, z0] at y
    replace u := ce_e C.1.2.2.2.2 u
    replace u := gg_e u
    replace u := ce_e w0 u
    rcases br_s u with ⟨y1, u⟩ | ⟨y1, u⟩ <;> rw [n0] at y1
    · have y1 := le_i y1
      rw [r7, c0] at y1
      rw [so_e u, er_y3 isd y (Or.inl y1)]
      exact ⟨rfl, rfl⟩
    have y1 := nle_i y1
    rw [r7, c0] at y1
    replace u := ce_e C.1.2.2.2.2 u
    replace u := gg_e u
    replace u := ce_e w0 u
    rcases br_s u with ⟨y2, u⟩ | ⟨y2, u⟩ <;> rw [n1] at y2
    · have y2 := lt_i y2
      rw [r7, c1] at y2
      rw [er_n3 isd (fun z => by have := z.2; omega)]
      exact k4 u
    · have y2 := nlt_i y2
      rw [r7, c1] at y2
      rw [so_e u, er_y3 isd y (Or.inr y2)]
      exact ⟨rfl, rfl⟩
  have re : ∀ d, d < 2 → (hI h (V 36) d = (-1 : Int32) ↔ ¬ RyE L P.1 d) := fun d hd => by
    rcases roa_e (C.2.1.2.2.1 d hd) with ⟨a, b⟩ | ⟨a, _, _, _, b⟩
    · exact ⟨fun _ => b, fun _ => a⟩
    · exact ⟨fun z => absurd z a, fun z => absurd b z⟩
  unfold sX5_earlyEnd sX5_earlyEnd_43 at e
  replace e := ce_e w0 e
  replace e := cl_s e; obtain ⟨o2, eo2, e⟩ := e
  obtain ⟨w2, q2⟩ := has_v eo2
  rw [w2] at e
  rcases q2 with ⟨a, b⟩ | ⟨a, b⟩
  · replace e := bp_e a e
    rw [er_n1 isd (fun z => z.1.1 (b8.mp b))]
    exact k2 e
  have n18 : ¬ L 18 0 = 0 := fun z => b (b8.mpr z)
  replace e := bn_e (by rw [a]; decide) e
  replace e := ce_e w0 e
  rcases br_s e with ⟨y, e⟩ | ⟨y, e⟩
  · rw [y, zm] at r4
    rw [er_n1 isd (fun z => by have := z.1.2; omega)]
    exact k2 e
  have n10 : ¬ L 10 0 = -1 := fun z => y (Int32.toInt_inj.mp (by rw [r4, z, zm]))
  replace e := ce_e C.1.2.2.1 e
  replace e := gg_e e
  rcases br_s e with ⟨y0, e⟩ | ⟨y0, e⟩ <;> rw [n0, re 0 (by decide)] at y0
  · rw [so_e e, er_y1 isd ⟨n18, by omega⟩ (Or.inl y0)]
    exact ⟨rfl, rfl⟩
  replace e := ce_e C.1.2.2.1 e
  replace e := gg_e e
  rcases br_s e with ⟨y1, e⟩ | ⟨y1, e⟩ <;> rw [n1, re 1 (by decide)] at y1
  · rw [so_e e, er_y1 isd ⟨n18, by omega⟩ (Or.inr y1)]
    exact ⟨rfl, rfl⟩
  · rw [er_n1 isd (fun z => z.2.elim y0 y1)]
    exact k2 e
end
end
section
/-! the class: collect -/
/-- what collect needs before it begins -/
def CcB (V : Nat → Nat) (h : Hp) (L : Nat → Nat → Int) (P : Pz) : Prop := CWy V h L ∧ CLwC V h L ∧ CpP V h (L 10 0) P ∧ hN h (V 47) = 4096 ∧ hR h (V 6) 3 = some (V 204) ∧ VPc (vC V) h
/-- the heap where the referee has its list and its position -/
def bgH (V : Nat → Nat) (h : Hp) : Hp := wR (wR h (V 6) 4 (some (V 4))) (V 6) 5 (some (V 47))
theorem and12 {w : Int32} (z : w &&& (12 : Int32) = 0) (y : Int32) (hy : (12 : Int32) &&& y = y) : w &&& y = 0 := by
  rw [← hy, ← Int32.and_assoc, z, Int32.zero_and]
section
variable {F : Nat} {V : Nat → Nat} {L : Nat → Nat → Int} {h : Hp} {P : Pz}
theorem bg_o {a i : Nat} (n : ¬ (a = V 6 ∧ (i = 4 ∨ i = 5))) : hR (bgH V h) a i = hR h a i := by
  unfold bgH
  rw [r_R, if_neg (fun z => n ⟨z.1, Or.inr z.2⟩), r_R, if_neg (fun z => n ⟨z.1, Or.inl z.2⟩)]
theorem bg_k (D : VD V) {k i : Nat} (hk : k ∈ vql := by decide) (n : ¬ k = 6 := by decide) : hR (bgH V h) (V k) i = hR h (V k) i := bg_o (fun z => D k hk 6 (by decide) n z.1)
theorem ccb_w (D : VD V) (C : CcB V h L P) : CcW V (bgH V h) L P := by
  obtain ⟨⟨⟨a0, a1⟩, wc, wy, ar⟩, ⟨q1, ⟨x1, x2, x3, x4⟩, d, ⟨r19, r20⟩, hl, r14, lt⟩, ⟨⟨p0, p1, p2, p3, p4⟩, cp⟩, ln, w3, ⟨t0, t1, t2, t3, t4⟩⟩ := C
  have six : ∀ i, ¬ i = 4 → ¬ i = 5 → hR (bgH V h) (V 6) i = hR h (V 6) i := fun i n4 n5 => bg_o (fun z => z.2.elim n4 n5)
  refine ⟨⟨⟨by rw [six 0 (by decide) (by decide)]; exact a0, by rw [six 1 (by decide) (by decide)]; exact a1⟩, ⟨by rw [bg_k D]; exact wc.1, by rw [bg_k D]; exact wc.2.1, by rw [bg_k D]; exact wc.2.2.1, by rw [bg_k D]; exact wc.2.2.2.1, by rw [bg_k D]; exact wc.2.2.2.2.1, by rw [bg_k D]; exact wc.2.2.2.2.2⟩, wy, ar⟩, ⟨q1, ⟨x1, x2, by rw [bg_k D]; exact x3, by rw [bg_k D]; exact x4⟩, d, ⟨by rw [bg_k D]; exact r19, by rw [bg_k D]; exact r20⟩, hl, by rw [bg_k D]; exact r14, lt⟩, ⟨⟨by rw [bg_k D]; exact p0, by rw [bg_k D]; exact p1, by rw [bg_k D]; exact p2, by rw [bg_k D]; exact p3, by rw [bg_k D]; exact p4⟩, cp⟩, ⟨?_, ?_, ln⟩, by rw [six 3 (by decide) (by decide)]; exact w3, ⟨?_, ?_, ?_, ?_, ?_⟩⟩
  · unfold bgH
    rw [r_R, if_neg (fun z => absurd z.2 (by decide)), r_R, if_pos ⟨rfl, rfl⟩]
  · unfold bgH
    rw [r_R, if_pos ⟨rfl, rfl⟩]
  · show hR (bgH V h) (V 204) 0 = some (V 234)
    rw [bg_k D]; exact t0
  · show hR (bgH V h) (V 204) 1 = some (V 235)
    rw [bg_k D]; exact t1
  · show hR (bgH V h) (V 204) 2 = some (V 236)
    rw [bg_k D]; exact t2
  · show hR (bgH V h) (V 204) 3 = some (V 237)
    rw [bg_k D]; exact t3
  · show hR (bgH V h) (V 204) 4 = some (V 238)
    rw [bg_k D]; exact t4
/-- begin -/
theorem bgn_c (D : VD V) {o : Hp} (H : LOk L) (K : LawK L) (O : PzOk L P) (C : CcB V h L P) (e : sX5_begin F h (V 6) (V 4) (V 47) = some o) : FrV V (wl wcq) (bgH V h) o ∧ hN o (V 47) = hN h (V 47) ∧ WatF V o L P ∧ CLs V o [] ∧ TkF V o [] := by
  have zm : (-1 : Int32).toInt = -1 := by decide
  have L2 := H.2.2.1
  have isd := O.2.2.1
  have Cw := ccb_w D C
  have hn := hn_X5_begin (hne_0) e (V 47)
  unfold sX5_begin sX5_begin_49 at e
  replace e := nm_s e; obtain ⟨h1, u1, e⟩ := e
  replace e := nm_s e; obtain ⟨h2, u2, e⟩ := e
  have e2 : h2 = bgH V h := by rw [u2, u1]; rfl
  replace e := nm_s e; obtain ⟨h3, u3, e⟩ := e
  replace e := nm_s e; obtain ⟨h4, u4, e⟩ := e
  replace e := nm_s e; obtain ⟨h5, u5, e⟩ := e
  rw [e2] at u3
  have A3 : FrV V (wl [(6, 6)]) (bgH V h) h3 := by rw [u3]; exact fv_w rfl
  have A4 : FrV V (wl [(6, 7)]) h3 h4 := by rw [u4]; exact fv_w rfl
  have A5 : FrV V (wl [(6, 8)]) h4 h5 := by rw [u5]; exact fv_j rfl
  have A : FrV V (wl [(6, 6), (6, 7), (6, 8)]) (bgH V h) h5 := fv_t (fv_s A3 (by decide)) (fv_t (fv_s A4 (by decide)) (fv_s A5 (by decide)))
  have n5 : hN h5 (V 47) = hN (bgH V h) (V 47) := by rw [u5, u4, u3]; rfl
  have C5 := ccw_f D Cw A (by decide) (by decide) n5
  have i6 : hI h5 (V 6) 6 = 0 := by rw [fvi D A5 6 6, fvi D A4 6 6, u3, r_I, if_pos ⟨rfl, rfl⟩]
  have i7 : hI h5 (V 6) 7 = 0 := by rw [fvi D A5 6 7, u4, r_I, if_pos ⟨rfl, rfl⟩]
  have r4 := C5.2.1.2.2.1.1
  have sw := C5.2.1.2.1.2.1
  -- behind the flag
  have k54 : ∀ {t : Int32}, (t = 0 ∨ (t = 1 ∧ (L 10 0 = -1 ∨ (L 18 0 = 0 ∧ L 17 0 = 0)))) → sX5_begin_54 F h5 (V 6) t (V 6) = some o → FrV V (wl wcq) (bgH V h) o ∧ hN o (V 47) = hN h (V 47) ∧ WatF V o L P ∧ CLs V o [] ∧ TkF V o [] := fun {t} ht u => by
    unfold sX5_begin_54 sX5_begin_102 at u
    replace u := gg_e u
    replace u := nm_s u; obtain ⟨g, ug, u⟩ := u
    have B : FrV V (wl [(6, 9)]) h5 g := by rw [ug]; exact fv_w rfl
    have ng : hN g (V 47) = hN h5 (V 47) := by rw [ug]; rfl
    have Cg := ccw_f D C5 B (by decide) (by decide) ng
    have i9 : hI g (V 6) 9 = t := by rw [ug, r_I, if_pos ⟨rfl, rfl⟩]
    have fin : ∀ {k : Hp}, FrV V (wl wsv) g k → WatF V k L P → some k = some o → FrV V (wl wcq) (bgH V h) o ∧ hN o (V 47) = hN h (V 47) ∧ WatF V o L P ∧ CLs V o [] ∧ TkF V o [] := fun {k} S W y => by
      have y := so_e y
      rw [y] at hn ⊢
      refine ⟨fv_t (fv_s A (by decide)) (fv_t (fv_s B (by decide)) (fv_s S (by decide))), hn, W, ⟨?_, fun i hi => absurd hi (Nat.not_lt_zero _)⟩, Or.inl ⟨?_, rfl⟩⟩
      · rw [fvi D S 6 6, fvi D B 6 6, i6]; rfl
      · rw [fvi D S 6 7, fvi D B 6 7, i7]
    rcases ht with ht | ⟨ht, cal⟩
    · replace u := bp_e (by rw [i9]; exact ht) u
      exact fin fv_0 (Or.inl (by rw [i9, ht])) u
    replace u := bn_e (by rw [i9, ht]; decide) u
    have e5 := Cg.2.2.1.2.2.1
    have c5 : (hI g (V 4) 5).toNatClampNeg = pzS P := by have := nc_i (x := hI g (V 4) 5) (by omega); omega
    have ro := Cg.2.2.1.2.1.2.2.1 (pzS P) isd
    replace u := ce_e Cg.2.2.2.1.1 u
    replace u := ce_e Cg.2.2.1.1.2.2.1 u
    replace u := ce_e Cg.2.2.2.1.1 u
    replace u := gg_e u
    rcases br_s u with ⟨y, u⟩ | ⟨y, u⟩ <;> rw [c5] at y
    · refine fin fv_0 (Or.inr ⟨by rw [i9, ht], cal, fun r hr r0 mr => ?_⟩) u
      rcases roa_e ro with ⟨_, a⟩ | ⟨a, _⟩
      · exact absurd ⟨r, hr, r0, mr⟩ a
      · exact absurd y a
    rcases roa_e ro with ⟨a, _⟩ | ⟨_, a2, a3, a4, _⟩
    · exact absurd a y
    replace u := ce_e Cg.2.2.2.1.1 u
    replace u := ce_e Cg.2.2.1.1.2.2.1 u
    replace u := ce_e Cg.2.2.2.1.1 u
    replace u := gg_e u
    replace u := cl_s u; obtain ⟨k, ek, u⟩ := u
    rw [c5] at ek
    have ca := nc_i a2.1
    have a63 := a2.2
    obtain ⟨S, M', wt, na⟩ := sv_c (t := (hI g (V 36) (pzS P)).toNatClampNeg) D H O.1 Cg.1.1.2 Cg.2.2.2.1.1 Cg.1.2.1 Cg.1.2.2.1 Cg.2.2.1.1 Cg.2.2.1.2.1 ca.symm (by omega) isd e5 (Or.inr (by rw [i9, ht])) ek
    refine fin S ?_ u
    rcases M'.2.2 with z | z
    · exact Or.inl z
    · refine Or.inr ⟨z, cal, fun r hr r0 mr => ?_⟩
      have er := O.2.1 r0 (pzS P) r _ isd hr (by omega) mr a4
      rw [er]
      exact ⟨na z, fun s hs m0 m1 => wt s hs m0 m1⟩
  replace e := ce_e C5.1.1.1 e
  rcases br_s e with ⟨y, e⟩ | ⟨y, e⟩
  · rw [y, zm] at r4
    exact k54 (Or.inr ⟨rfl, Or.inl r4.symm⟩) e
  replace e := ce_e C5.1.1.1 e
  replace e := cl_s e; obtain ⟨o9, eo9, e⟩ := e
  obtain ⟨w9, q9⟩ := has_v eo9
  rw [w9] at e
  rcases q9 with ⟨q, z⟩ | ⟨q, z⟩
  · replace e := bp_e q e
    refine k54 (Or.inr ⟨rfl, Or.inr ⟨sw.2.2.2.mp ?_, sw.2.2.1.mp ?_⟩⟩) e
    · exact and12 z 8 (by decide)
    · exact and12 z 4 (by decide)
  · replace e := bn_e (by rw [q]; decide) e
    exact k54 (Or.inl rfl) e
end
end
