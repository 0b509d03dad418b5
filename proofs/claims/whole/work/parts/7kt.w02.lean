section
/-! the reference: what a board that is read keeps to -/
abbrev wat : List (Nat × Nat) := [(16, 18), (16, 19), (16, 20)]
def PasG (V : Nat → Nat) (L : Nat → Nat → Int) (n0 : Nat) (h : Hp) : Prop := hI h (V 13) 3 = 0 ∨ (n0 = 1 ∧ Rg 2 64 (hI h (V 13) 3) ∧ ∀ i : Nat, (i : Int) < (hI h (V 13) 3).toInt → 0 ≤ (hI h (V 63) i).toInt ∧ (hI h (V 63) i).toInt < L 0 0 * L 1 0)
def RdI (V : Nat → Nat) (L : Nat → Nat → Int) (n0 : Nat) (h : Hp) : Prop := RW0 V h L ∧ VPr V h ∧ MOk L (mV h (V 62)) ∧ (0 ≤ (hI h (V 13) 1).toInt ∧ (hI h (V 13) 1).toInt ≤ 1) ∧ (∀ q, q < 64 → bitJ (hJ h (V 13) 2) q = true → (q : Int) < L 0 0 * L 1 0) ∧ PasG V L n0 h ∧ (∀ d : Nat, d < 24 → (0 ≤ (hI h (V 64) d).toInt ∧ (hI h (V 64) d).toInt ≤ 16) ∧ (L 2 0 ≤ ((d / 2 : Nat) : Int) → (hI h (V 64) d).toInt = 0)) ∧ ∀ d : Nat, d < 2 → 0 ≤ (hI h (V 65) d).toInt ∧ (hI h (V 65) d).toInt ≤ 9
section
variable {F : Nat} {V : Nat → Nat} {L : Nat → Nat → Int} {h g : Hp} {n0 : Nat} {o : Int32 × Hp}
theorem pasg_k (P : PasG V L n0 h) (a : hI g (V 13) 3 = hI h (V 13) 3) (b : ∀ i, hI g (V 63) i = hI h (V 63) i) : PasG V L n0 g := by
  unfold PasG
  rw [a]
  rcases P with z | ⟨z, y, w⟩
  · exact Or.inl z
  · exact Or.inr ⟨z, y, fun i hi => by rw [b i]; exact w i hi⟩
theorem ri_f (D : VD V) (I : RdI V L n0 h) (A : FrV V (wl wat) h g) : RdI V L n0 g := by
  obtain ⟨W, Pr, M, sd, rt, pa, hd, ck⟩ := I
  refine ⟨rw0_f D W A (by decide) rfl rfl rfl, vpr_f Pr A, fun s hs => ?_, ?_, ?_, pasg_k pa (fvi D A 13 3) (fun i => fvI D A 63 i), fun d hd' => ?_, fun d hd' => ?_⟩
  · unfold mV
    rw [fvI D A 62 s]; exact M s hs
  · rw [fvi D A 13 1]; exact sd
  · rw [fvj D A 13 2]; exact rt
  · rw [fvI D A 64 d]; exact hd d hd'
  · rw [fvI D A 65 d]; exact ck d hd'
theorem ri_w (D : VD V) (I : RdI V L n0 h) {k : Nat} {v : Int32} (m : wl wat 16 k = true) : RdI V L n0 (wI h (V 16) k v) := ri_f D I (fv_w m)
theorem ri_rd (D : VD V) (I : RdI V L n0 h) {c : Int32} (e : sX15_reads h (V 16) c = some o) : RdI V L n0 o.2 := by
  unfold sX15_reads at e
  replace e := cl_s e; obtain ⟨o1, eo1, e⟩ := e
  rw [lok_h eo1] at e
  rcases br_s e with ⟨_, e⟩ | ⟨_, e⟩
  · replace e := nm_s e; obtain ⟨g1, u1, e⟩ := e
    rw [so_e e, u1]
    exact ri_w D I rfl
  · rw [so_e e]; exact I
theorem ri_rg (D : VD V) (I : RdI V L n0 h) {c : Int32} {o' : Int32 × Hp} (e : (cl (sX15_reads h (V 16) c) fun o_2 => gd (o_2.1 &&& 1 = o_2.1) <| some (o_2.1, o_2.2)) = some o') : RdI V L n0 o'.2 := by
  replace e := cl_s e; obtain ⟨o1, eo1, e⟩ := e
  rw [so_e (gg_e e)]
  exact ri_rd D I eo1
/-- a man of the law stands on a square of the board -/
theorem ri_men (D : VD V) (H : LOk L) (I : RdI V L n0 h) {s : Nat} {v : Int32} (sL : (s : Int) < L 0 0 * L 1 0) (v0 : 0 ≤ v.toInt) (vL : v.toInt ≤ 2 * L 2 0) : RdI V L n0 (wI h (V 62) s v) := by
  obtain ⟨W, Pr, M, sd, rt, pa, hd, ck⟩ := I
  have A : FrV V (wl [(62, 999)]) h (wI h (V 62) s v) := fv_w (wl_9 (by decide))
  refine ⟨rw0_f D W A (by decide) rfl rfl rfl, vpr_f Pr A, fun t ht => ?_, ?_, ?_, pasg_k pa (fvi D A 13 3) (fun i => fvI D A 63 i), fun d hd' => ?_, fun d hd' => ?_⟩
  · unfold mV
    by_cases c : t = s
    · rw [c, rI_s]; exact ⟨v0, fun _ => ⟨sL, vL⟩⟩
    · rw [rI_o (fun z => c z)]; exact M t ht
  · rw [fvi D A 13 1]; exact sd
  · rw [fvj D A 13 2]; exact rt
  · rw [fvI D A 64 d]; exact hd d hd'
  · rw [fvI D A 65 d]; exact ck d hd'
theorem ri_sd (D : VD V) (I : RdI V L n0 h) {v : Int32} (v0 : 0 ≤ v.toInt ∧ v.toInt ≤ 1) : RdI V L n0 (wI h (V 13) 1 v) := by
  obtain ⟨W, Pr, M, sd, rt, pa, hd, ck⟩ := I
  have A : FrV V (wl [(13, 1)]) h (wI h (V 13) 1 v) := fv_w rfl
  refine ⟨rw0_f D W A (by decide) rfl rfl rfl, vpr_f Pr A, fun s hs => ?_, ?_, ?_, pasg_k pa (fvi D A 13 3) (fun i => fvI D A 63 i), fun d hd' => ?_, fun d hd' => ?_⟩
  · unfold mV
    rw [fvI D A 62 s]; exact M s hs
  · rw [rI_s]; exact v0
  · rw [fvj D A 13 2]; exact rt
  · rw [fvI D A 64 d]; exact hd d hd'
  · rw [fvI D A 65 d]; exact ck d hd'
theorem ri_rt (D : VD V) (H : LOk L) (I : RdI V L n0 h) {x : Int32} (x0 : 0 ≤ x.toInt) (xL : x.toInt < L 0 0 * L 1 0) : RdI V L n0 (wJ h (V 13) 2 ((hJ h (V 13) 2) ||| ((1 : Int64) <<< (x.toInt64 &&& 63)))) := by
  obtain ⟨W, Pr, M, sd, rt, pa, hd, ck⟩ := I
  have sq := sq_64 H
  have A : FrV V (wl [(13, 2)]) h (wJ h (V 13) 2 ((hJ h (V 13) 2) ||| ((1 : Int64) <<< (x.toInt64 &&& 63)))) := fv_j rfl
  refine ⟨rw0_f D W A (by decide) rfl rfl rfl, vpr_f Pr A, fun s hs => ?_, ?_, fun q hq b => ?_, pasg_k pa (fvi D A 13 3) (fun i => fvI D A 63 i), fun d hd' => ?_, fun d hd' => ?_⟩
  · unfold mV
    rw [fvI D A 62 s]; exact M s hs
  · rw [fvi D A 13 1]; exact sd
  · rw [r_J, if_pos ⟨rfl, rfl⟩, bj_or] at b
    cases c : bitJ (hJ h (V 13) 2) q with
    | true => exact rt q hq c
    | false =>
      rw [c, Bool.false_or] at b
      have := (bj_one' (⟨x0, by omega⟩ : Rg 0 63 x)).mp b
      have := nc_i x0
      omega
  · rw [fvI D A 64 d]; exact hd d hd'
  · rw [fvI D A 65 d]; exact ck d hd'
theorem ri_hd (D : VD V) (I : RdI V L n0 h) {k : Nat} {v : Int32} (v0 : 0 ≤ v.toInt ∧ v.toInt ≤ 16) (kL : ((k / 2 : Nat) : Int) < L 2 0) : RdI V L n0 (wI h (V 64) k v) := by
  obtain ⟨W, Pr, M, sd, rt, pa, hd, ck⟩ := I
  have A : FrV V (wl [(64, 999)]) h (wI h (V 64) k v) := fv_w (wl_9 (by decide))
  refine ⟨rw0_f D W A (by decide) rfl rfl rfl, vpr_f Pr A, fun s hs => ?_, ?_, ?_, pasg_k pa (fvi D A 13 3) (fun i => fvI D A 63 i), fun d hd' => ?_, fun d hd' => ?_⟩
  · unfold mV
    rw [fvI D A 62 s]; exact M s hs
  · rw [fvi D A 13 1]; exact sd
  · rw [fvj D A 13 2]; exact rt
  · by_cases c : d = k
    · rw [c, rI_s]; exact ⟨v0, fun z => by omega⟩
    · rw [rI_o (fun z => c z)]; exact hd d hd'
  · rw [fvI D A 65 d]; exact ck d hd'
theorem ri_ck (D : VD V) (I : RdI V L n0 h) {k : Nat} {v : Int32} (v0 : 0 ≤ v.toInt ∧ v.toInt ≤ 9) : RdI V L n0 (wI h (V 65) k v) := by
  obtain ⟨W, Pr, M, sd, rt, pa, hd, ck⟩ := I
  have A : FrV V (wl [(65, 999)]) h (wI h (V 65) k v) := fv_w (wl_9 (by decide))
  refine ⟨rw0_f D W A (by decide) rfl rfl rfl, vpr_f Pr A, fun s hs => ?_, ?_, ?_, pasg_k pa (fvi D A 13 3) (fun i => fvI D A 63 i), fun d hd' => ?_, fun d hd' => ?_⟩
  · unfold mV
    rw [fvI D A 62 s]; exact M s hs
  · rw [fvi D A 13 1]; exact sd
  · rw [fvj D A 13 2]; exact rt
  · rw [fvI D A 64 d]; exact hd d hd'
  · by_cases c : d = k
    · rw [c, rI_s]; exact v0
    · rw [rI_o (fun z => c z)]; exact ck d hd'
theorem ri_cl (D : VD V) (I : RdI V L n0 h) {v : Int32} : RdI V L n0 (wI h (V 13) 7 v) := by
  obtain ⟨W, Pr, M, sd, rt, pa, hd, ck⟩ := I
  have A : FrV V (wl [(13, 7)]) h (wI h (V 13) 7 v) := fv_w rfl
  refine ⟨rw0_f D W A (by decide) rfl rfl rfl, vpr_f Pr A, fun s hs => ?_, ?_, ?_, pasg_k pa (fvi D A 13 3) (fun i => fvI D A 63 i), fun d hd' => ?_, fun d hd' => ?_⟩
  · unfold mV
    rw [fvI D A 62 s]; exact M s hs
  · rw [fvi D A 13 1]; exact sd
  · rw [fvj D A 13 2]; exact rt
  · rw [fvI D A 64 d]; exact hd d hd'
  · rw [fvI D A 65 d]; exact ck d hd'
/-- one square of PASS, before their number is told -/
theorem ri_p1 (D : VD V) (I : RdI V L 0 h) {k : Nat} {v : Int32} : RdI V L 0 (wI h (V 63) k v) := by
  obtain ⟨W, Pr, M, sd, rt, pa, hd, ck⟩ := I
  have A : FrV V (wl [(63, 999)]) h (wI h (V 63) k v) := fv_w (wl_9 (by decide))
  refine ⟨rw0_f D W A (by decide) rfl rfl rfl, vpr_f Pr A, fun s hs => ?_, ?_, ?_, ?_, fun d hd' => ?_, fun d hd' => ?_⟩
  · unfold mV
    rw [fvI D A 62 s]; exact M s hs
  · rw [fvi D A 13 1]; exact sd
  · rw [fvj D A 13 2]; exact rt
  · rcases pa with z | ⟨z, _⟩
    · exact Or.inl (by rw [fvi D A 13 3]; exact z)
    · exact absurd z (by decide)
  · rw [fvI D A 64 d]; exact hd d hd'
  · rw [fvI D A 65 d]; exact ck d hd'
theorem ri_01 (I : RdI V L 0 h) : RdI V L 1 h := by
  obtain ⟨W, Pr, M, sd, rt, pa, hd, ck⟩ := I
  refine ⟨W, Pr, M, sd, rt, ?_, hd, ck⟩
  rcases pa with z | ⟨z, _⟩
  · exact Or.inl z
  · exact absurd z (by decide)
theorem ri_p2 (D : VD V) (I : RdI V L 0 h) {v : Int32} (i : Rg 2 64 v) (q : ∀ i : Nat, (i : Int) < v.toInt → 0 ≤ (hI h (V 63) i).toInt ∧ (hI h (V 63) i).toInt < L 0 0 * L 1 0) : RdI V L 1 (wI h (V 13) 3 v) := by
  obtain ⟨W, Pr, M, sd, rt, pa, hd, ck⟩ := I
  have A : FrV V (wl [(13, 3)]) h (wI h (V 13) 3 v) := fv_w rfl
  refine ⟨rw0_f D W A (by decide) rfl rfl rfl, vpr_f Pr A, fun s hs => ?_, ?_, ?_, ?_, fun d hd' => ?_, fun d hd' => ?_⟩
  · unfold mV
    rw [fvI D A 62 s]; exact M s hs
  · rw [fvi D A 13 1]; exact sd
  · rw [fvj D A 13 2]; exact rt
  · refine Or.inr ⟨rfl, by rw [rI_s]; exact i, fun j hj => ?_⟩
    rw [rI_s] at hj
    rw [fvI D A 63 j]; exact q j hj
  · rw [fvI D A 64 d]; exact hd d hd'
  · rw [fvI D A 65 d]; exact ck d hd'
theorem ri_d (I : RdI V L n0 h) : RWd V h L (mV h (V 62)) := ⟨I.1.1, I.1.2, I.2.1.1, fun _ _ => rfl⟩
/-- a letter is a man of the law -/
theorem ml_2 (H : LOk L) (I : RdI V L n0 h) {c : Int32} : ∀ (f : Nat) {x2 : Int32}, 0 ≤ x2.toInt → sX15_manLetter_2 F f h (V 16) c x2 = some o → o.2 = h ∧ (o.1 = 0 ∨ (1 ≤ o.1.toInt ∧ o.1.toInt ≤ 2 * L 2 0)) := by
  have z1 : (1 : Int32).toInt = 1 := rfl
  have z0 : (0 : Int32).toInt = 0 := rfl
  have z2 : (2 : Int32).toInt = 2 := rfl
  have L2 := H.2.2.1
  have l2 : (hI h (V 15) 2).toInt = L 2 0 := lw_0 (ri_d I) (by decide) 0
  intro f
  induction f with
  | zero => intro x2 _ e; exact absurd e (by rw [sX15_manLetter_2]; exact fun z => nomatch z)
  | succ f ih =>
    intro x2 a2 e
    rw [sX15_manLetter_2] at e
    unfold sX15_valueOf at e
    replace e := ce_e I.1.1.1 e
    rcases br_s e with ⟨l, e⟩ | ⟨l, e⟩
    · rw [so_e e]; exact ⟨rfl, Or.inl rfl⟩
    have l := nle_i l
    rw [l2] at l
    have t1 : ((2 : Int32) * x2).toInt = 2 * x2.toInt := by rw [tm (by rw [z2]; omega), z2]
    have t2 : ((1 : Int32) + ((2 : Int32) * x2)).toInt = 1 + 2 * x2.toInt := by rw [ta (by rw [t1, z1]; omega), t1, z1]
    replace e := ce_e I.1.1.1 e
    replace e := ce_e I.1.1.2.1 e
    replace e := gg_e e
    rcases br_s e with ⟨_, e⟩ | ⟨_, e⟩
    · replace e := cl_s e; obtain ⟨o1, eo1, e⟩ := e
      rw [so_e e, so_e eo1]
      have t3 : (((1 : Int32) + ((2 : Int32) * x2)) + (1 : Int32)).toInt = 2 + 2 * x2.toInt := by rw [ta (by rw [t2, z1]; omega), t2, z1]; omega
      refine ⟨rfl, Or.inr ?_⟩
      show 1 ≤ (((1 : Int32) + ((2 : Int32) * x2)) + (1 : Int32)).toInt ∧ (((1 : Int32) + ((2 : Int32) * x2)) + (1 : Int32)).toInt ≤ 2 * L 2 0
      omega
    replace e := ce_e I.1.1.1 e
    replace e := ce_e I.1.1.2.1 e
    replace e := gg_e e
    rcases br_s e with ⟨_, e⟩ | ⟨_, e⟩
    · replace e := cl_s e; obtain ⟨o1, eo1, e⟩ := e
      rw [so_e e, so_e eo1]
      have t3 : (((1 : Int32) + ((2 : Int32) * x2)) + (0 : Int32)).toInt = 1 + 2 * x2.toInt := by rw [ta (by rw [t2, z0]; omega), t2, z0]; omega
      refine ⟨rfl, Or.inr ?_⟩
      show 1 ≤ (((1 : Int32) + ((2 : Int32) * x2)) + (0 : Int32)).toInt ∧ (((1 : Int32) + ((2 : Int32) * x2)) + (0 : Int32)).toInt ≤ 2 * L 2 0
      omega
    · exact ih (by rw [ta (by rw [z1]; omega), z1]; omega) (nx_e e)
theorem ml_v (H : LOk L) (I : RdI V L n0 h) {c : Int32} (e : sX15_manLetter F h (V 16) c = some o) : o.2 = h ∧ (o.1 = 0 ∨ (1 ≤ o.1.toInt ∧ o.1.toInt ≤ 2 * L 2 0)) := ml_2 H I F (by decide) e
/-- men -/
theorem rim_13 (D : VD V) (H : LOk L) {K : Hp → Nat → Nat → Int32 → Option (Int32 × Hp)} {x2 : Int32} (HK : ∀ {g : Hp}, RdI V L n0 g → K g (V 16) (V 13) (x2 + (-1 : Int32)) = some o → RdI V L n0 o.2) (i2 : 0 ≤ x2.toInt ∧ x2.toInt < L 1 0) : ∀ (f : Nat) {h : Hp} {x3 : Int32}, RdI V L n0 h → 0 ≤ x3.toInt → x3.toInt ≤ L 0 0 → sX15_readMen_13 F K f h (V 16) (V 13) x2 x3 = some o → RdI V L n0 o.2 := by
  have z1 : (1 : Int32).toInt = 1 := rfl
  have z0 : (0 : Int32).toInt = 0 := rfl
  have z48 : (48 : Int32).toInt = 48 := rfl
  have z49 : (49 : Int32).toInt = 49 := rfl
  have z56 : (56 : Int32).toInt = 56 := rfl
  have fi := H.1
  have ra := H.2.1
  have L2 := H.2.2.1
  intro f
  induction f with
  | zero => intro h x3 _ _ _ e; exact absurd e (by rw [sX15_readMen_13]; exact fun z => nomatch z)
  | succ f ih =>
    intro h x3 I a3 b3 e
    have g2 := I.1.2.2.1
    rw [sX15_readMen_13] at e
    unfold sX15_readMen_130 sX15_readMen_100 sX15_readMen_102 at e
    rcases br_s e with ⟨l, e⟩ | ⟨l, e⟩
    · rcases br_s e with ⟨_, e⟩ | ⟨_, e⟩
      · exact HK I (nx_e e)
      · replace e := cl_s e; obtain ⟨o3, eo3, e⟩ := e
        have I3 := ri_rd D I eo3
        rcases br_s e with ⟨_, e⟩ | ⟨_, e⟩
        · rw [so_e e]; exact I3
        · exact HK I3 (nx_e e)
    have l := nle_i l
    rw [g2] at l
    replace e := cl_s e; obtain ⟨o5, eo5, e⟩ := e
    rw [lok_h eo5] at e
    replace e := cl_s e; obtain ⟨o6, eo6, e⟩ := e
    obtain ⟨w6, r6⟩ := ml_v H I eo6
    rw [w6] at e
    rcases br_s e with ⟨v, e⟩ | ⟨v, e⟩
    · rcases br_s e with ⟨_, e⟩ | ⟨c1, e⟩
      · rw [so_e e]; exact I
      rcases br_s e with ⟨_, e⟩ | ⟨c2, e⟩
      · rw [so_e e]; exact I
      have c1 := nlt_i c1
      have c2 := nlt_i c2
      rw [z49] at c1
      rw [z56] at c2
      have t1 : (x3 + o5.1).toInt = x3.toInt + o5.1.toInt := ta (by omega)
      have t2 : ((x3 + o5.1) - (48 : Int32)).toInt = x3.toInt + o5.1.toInt - 48 := by rw [ts (by rw [t1, z48]; omega), t1, z48]
      rcases br_s e with ⟨_, e⟩ | ⟨c3, e⟩
      · rw [so_e e]; exact I
      have c3 := nlt_i c3
      rw [g2, t2] at c3
      have t3 : (o5.1 - (48 : Int32)).toInt = o5.1.toInt - 48 := by rw [ts (by rw [z48]; omega), z48]
      have t4 : (x3 + (o5.1 - (48 : Int32))).toInt = x3.toInt + (o5.1.toInt - 48) := by rw [ta (by rw [t3]; omega), t3]
      exact ih (ri_w D I rfl) (by rw [t4]; omega) (by rw [t4]; omega) (nx_e (nx_e e))
    · have v := nle_i v
      rw [z0] at v
      have vr : 1 ≤ o6.1.toInt ∧ o6.1.toInt ≤ 2 * L 2 0 := by
        rcases r6 with z | z
        · rw [z, z0] at v; omega
        · exact z
      have m1 := mb (n := 8) (m := 8) (k := x2.toInt) (d := L 0 0) ⟨by omega, by omega⟩ ⟨by omega, by omega⟩ (by decide)
      have m2 := Int.mul_nonneg i2.1 (show 0 ≤ L 0 0 by omega)
      have m3 := Int.mul_le_mul_of_nonneg_right (show x2.toInt + 1 ≤ L 1 0 by omega) (show 0 ≤ L 0 0 by omega)
      rw [Int.add_mul, Int.one_mul, Int.mul_comm (L 1 0)] at m3
      have t1 : (x2 * (hI h (V 16) 11)).toInt = x2.toInt * L 0 0 := by rw [tm (by rw [g2]; omega), g2]
      have t2 : ((x2 * (hI h (V 16) 11)) + x3).toInt = x2.toInt * L 0 0 + x3.toInt := by rw [ta (by rw [t1]; omega), t1]
      have c2 := nc_i (x := (x2 * (hI h (V 16) 11)) + x3) (by omega)
      replace e := ce_e I.2.1.1 e
      replace e := gg_e e
      have I2 := ri_men D H I (s := ((x2 * (hI h (V 16) 11)) + x3).toNatClampNeg) (v := o6.1) (by omega) (by omega) vr.2
      have t5 : (x3 + (1 : Int32)).toInt = x3.toInt + 1 := by rw [ta (by rw [z1]; omega), z1]
      exact ih (ri_w D I2 rfl) (by rw [t5]; omega) (by rw [t5]; omega) (nx_e (nx_e (nx_e e)))
theorem rim_7 (D : VD V) (H : LOk L) : ∀ (f : Nat) {h : Hp} {x2 : Int32}, RdI V L n0 h → -1 ≤ x2.toInt → x2.toInt < L 1 0 → sX15_readMen_7 F f h (V 16) (V 13) x2 = some o → RdI V L n0 o.2 := by
  have z0 : (0 : Int32).toInt = 0 := rfl
  have zm : (-1 : Int32).toInt = -1 := by decide
  have ra := H.2.1
  have fi := H.1
  intro f
  induction f with
  | zero => intro h x2 _ _ _ e; exact absurd e (by rw [sX15_readMen_7]; exact fun z => nomatch z)
  | succ f ih =>
    intro h x2 I a b e
    rw [sX15_readMen_7] at e
    rcases br_s e with ⟨c, e⟩ | ⟨c, e⟩
    · exact ri_rg D I e
    have c := nlt_i c
    rw [z0] at c
    have t : (x2 + (-1 : Int32)).toInt = x2.toInt - 1 := by rw [ta (by rw [zm]; omega), zm]; omega
    exact rim_13 D H (fun {g} G u => ih G (by omega) (by omega) u) ⟨by omega, b⟩ F I (by decide) (by rw [z0]; omega) e
theorem ri_men' (D : VD V) (H : LOk L) (I : RdI V L n0 h) (e : sX15_readMen F h (V 16) (V 13) = some o) : RdI V L n0 o.2 := by
  have z1 : (1 : Int32).toInt = 1 := rfl
  have ra := H.2.1
  have g3 := I.1.2.2.2.1
  unfold sX15_readMen at e
  replace e := nx_e e
  have t : ((hI h (V 16) 12) - (1 : Int32)).toInt = L 1 0 - 1 := by rw [ts (by rw [g3, z1]; omega), g3, z1]
  exact rim_7 D H F I (by omega) (by omega) e
theorem ri_side (D : VD V) (I : RdI V L n0 h) (e : sX15_readSide h (V 16) (V 13) = some o) : RdI V L n0 o.2 := by
  unfold sX15_readSide at e
  have one : ∀ {t0 : Int32}, (0 ≤ t0.toInt ∧ t0.toInt ≤ 1) → sX15_readSide_35 h (V 16) t0 (V 13) = some o → RdI V L n0 o.2 := fun {t0} i u => by
    unfold sX15_readSide_35 at u
    replace u := nx_e u
    replace u := nx_e u
    exact ri_rg D (ri_w D (ri_sd D I i) rfl) u
  have two : sX15_readSide_20 h (V 16) (V 13) = some o → RdI V L n0 o.2 := fun u => by
    unfold sX15_readSide_20 at u
    replace u := cl_s u; obtain ⟨o1, eo1, u⟩ := u
    rw [lok_h eo1] at u
    rcases br_s u with ⟨_, u⟩ | ⟨_, u⟩
    · exact one ⟨by decide, by decide⟩ u
    · exact one ⟨by decide, by decide⟩ u
  replace e := cl_s e; obtain ⟨o1, eo1, e⟩ := e
  rw [lok_h eo1] at e
  rcases br_s e with ⟨_, e⟩ | ⟨_, e⟩
  · exact two e
  replace e := cl_s e; obtain ⟨o3, eo3, e⟩ := e
  rw [lok_h eo3] at e
  rcases br_s e with ⟨_, e⟩ | ⟨_, e⟩
  · exact two e
  · rw [so_e e]; exact I
/-- a square's name -/
theorem ri_sq (D : VD V) (H : LOk L) (I : RdI V L n0 h) {x1 : Int32} (e : sX15_readSquare h (V 16) x1 = some o) : FrV V (wl wat) h o.2 ∧ (o.1 = 0 ∨ (0 ≤ (hI o.2 (V 16) 20).toInt ∧ (hI o.2 (V 16) 20).toInt < L 0 0 * L 1 0)) := by
  have z1 : (1 : Int32).toInt = 1 := rfl
  have z0 : (0 : Int32).toInt = 0 := rfl
  have fi := H.1
  have ra := H.2.1
  have g2 := I.1.2.2.1
  have g3 := I.1.2.2.2.1
  unfold sX15_readSquare sX15_readSquare_28 sX15_readSquare_68 at e
  have no : ∀ {g : Hp}, FrV V (wl wat) h g → some ((0 : Int32), g) = some o → FrV V (wl wat) h o.2 ∧ (o.1 = 0 ∨ (0 ≤ (hI o.2 (V 16) 20).toInt ∧ (hI o.2 (V 16) 20).toInt < L 0 0 * L 1 0)) := fun {g} G u => by
    rw [so_e u]; exact ⟨G, Or.inl rfl⟩
  replace e := cl_s e; obtain ⟨o1, eo1, e⟩ := e
  rw [lok_h eo1] at e
  replace e := nm_s e; obtain ⟨v2, u2, e⟩ := e
  replace e := cl_s e; obtain ⟨o3, eo3, e⟩ := e
  rw [lok_h eo3] at e
  rcases br_s e with ⟨_, e⟩ | ⟨_, e⟩
  · exact no fv_0 e
  rcases br_s e with ⟨_, e⟩ | ⟨a, e⟩
  · exact no fv_0 e
  rcases br_s e with ⟨b, e⟩ | ⟨_, e⟩
  rotate_left
  · exact no fv_0 e
  have a := nlt_i a
  have b := lt_i b
  rw [z0] at a
  rw [g2] at b
  replace e := nm_s e; obtain ⟨h7, u7, e⟩ := e
  have A7 : FrV V (wl wat) h h7 := by rw [u7]; exact fv_w rfl
  replace e := cl_s e; obtain ⟨o8, eo8, e⟩ := e
  rw [lok_h eo8] at e
  replace e := nm_s e; obtain ⟨v9, u9, e⟩ := e
  replace e := cl_s e; obtain ⟨o10, eo10, e⟩ := e
  rw [lok_h eo10] at e
  rcases br_s e with ⟨_, e⟩ | ⟨_, e⟩
  · exact no A7 e
  rcases br_s e with ⟨_, e⟩ | ⟨c, e⟩
  · exact no A7 e
  rcases br_s e with ⟨d, e⟩ | ⟨_, e⟩
  rotate_left
  · exact no A7 e
  have c := nlt_i c
  have d := lt_i d
  rw [z0] at c
  have k11 : hI h7 (V 16) 11 = hI h (V 16) 11 := fvi D A7 16 11
  have k12 : hI h7 (V 16) 12 = hI h (V 16) 12 := fvi D A7 16 12
  rw [k12, g3] at d
  rw [k11] at e
  have m1 := mb (n := 8) (m := 8) (k := v9.toInt) (d := L 0 0) ⟨by omega, by omega⟩ ⟨by omega, by omega⟩ (by decide)
  have m2 := Int.mul_nonneg c (show 0 ≤ L 0 0 by omega)
  have m3 := Int.mul_le_mul_of_nonneg_right (show v9.toInt + 1 ≤ L 1 0 by omega) (show 0 ≤ L 0 0 by omega)
  rw [Int.add_mul, Int.one_mul, Int.mul_comm (L 1 0)] at m3
  have t1 : (v9 * (hI h (V 16) 11)).toInt = v9.toInt * L 0 0 := by rw [tm (by rw [g2]; omega), g2]
  have t2 : ((v9 * (hI h (V 16) 11)) + v2).toInt = v9.toInt * L 0 0 + v2.toInt := by rw [ta (by rw [t1]; omega), t1]
  replace e := nm_s e; obtain ⟨h14, u14, e⟩ := e
  have A14 : FrV V (wl wat) h h14 := by rw [u14]; exact fv_t A7 (fv_w rfl)
  have k20 : hI h14 (V 16) 20 = (v9 * (hI h (V 16) 11)) + v2 := by rw [u14, rI_s]
  rcases br_s e with ⟨_, e⟩ | ⟨_, e⟩
  · replace e := nm_s e; obtain ⟨h16, u16, e⟩ := e
    have k : hI h16 (V 16) 20 = (v9 * (hI h (V 16) 11)) + v2 := by rw [u16, rI_o (by decide), k20]
    have A16 : FrV V (wl wat) h h16 := by rw [u16]; exact fv_t A14 (fv_w rfl)
    rw [so_e e]
    refine ⟨A16, Or.inr ?_⟩
    show 0 ≤ (hI h16 (V 16) 20).toInt ∧ (hI h16 (V 16) 20).toInt < L 0 0 * L 1 0
    rw [k, t2]
    omega
  · replace e := nm_s e; obtain ⟨h17, u17, e⟩ := e
    exact no (by rw [u17]; exact fv_t A14 (fv_w rfl)) e
theorem rir_18 (D : VD V) (H : LOk L) : ∀ (f : Nat) {h : Hp} {x2 : Int32}, RdI V L n0 h → sX15_readRights_18 F f h (V 16) (V 13) x2 = some o → RdI V L n0 o.2 := by
  intro f
  induction f with
  | zero => intro h x2 _ e; exact absurd e (by rw [sX15_readRights_18]; exact fun z => nomatch z)
  | succ f ih =>
    intro h x2 I e
    rw [sX15_readRights_18] at e
    have go : sX15_readRights_32 F (sX15_readRights_18 F f) h (V 16) (V 13) x2 = some o → RdI V L n0 o.2 := fun u => by
      unfold sX15_readRights_32 at u
      replace u := cl_s u; obtain ⟨o1, eo1, u⟩ := u
      obtain ⟨A, r⟩ := ri_sq D H I eo1
      have I1 := ri_f D I A
      rcases br_s u with ⟨_, u⟩ | ⟨c, u⟩
      · rw [so_e u]; exact I1
      replace u := nx_e u
      replace u := nx_e u
      rcases r with r | r
      · exact absurd r c
      · exact ih (ri_rt D H I1 r.1 r.2) u
    rcases br_s e with ⟨_, e⟩ | ⟨_, e⟩
    · exact go e
    replace e := cl_s e; obtain ⟨o2, eo2, e⟩ := e
    rw [lok_h eo2] at e
    rcases br_s e with ⟨_, e⟩ | ⟨_, e⟩
    · exact ri_rg D I e
    · exact go e
theorem ri_rights (D : VD V) (H : LOk L) (I : RdI V L n0 h) (e : sX15_readRights F h (V 16) (V 13) = some o) : RdI V L n0 o.2 := by
  unfold sX15_readRights at e
  replace e := cl_s e; obtain ⟨o1, eo1, e⟩ := e
  have I1 := ri_rd D I eo1
  rcases br_s e with ⟨_, e⟩ | ⟨_, e⟩
  · exact rir_18 D H F I1 e
  · exact ri_rg D I1 e
theorem rip_18 (D : VD V) (H : LOk L) : ∀ (f : Nat) {h : Hp} {x2 : Int32}, RdI V L 0 h → (∀ i : Nat, (i : Int) < x2.toInt → i < 64 → 0 ≤ (hI h (V 63) i).toInt ∧ (hI h (V 63) i).toInt < L 0 0 * L 1 0) → sX15_readPass_18 F f h (V 16) (V 13) x2 = some o → RdI V L 1 o.2 := by
  have z1 : (1 : Int32).toInt = 1 := rfl
  have z2 : (2 : Int32).toInt = 2 := rfl
  have z64 : (64 : Int32).toInt = 64 := rfl
  intro f
  induction f with
  | zero => intro h x2 _ _ e; exact absurd e (by rw [sX15_readPass_18]; exact fun z => nomatch z)
  | succ f ih =>
    intro h x2 I q e
    rw [sX15_readPass_18] at e
    have mx : x2.toInt ≤ 2147483647 := Int32.toInt_le _
    have mn : -2147483648 ≤ x2.toInt := Int32.le_toInt _
    have t2 : x2.toInt = 2147483647 ∨ (x2 + (1 : Int32)).toInt = x2.toInt + 1 := by
      by_cases c : x2.toInt = 2147483647
      · exact Or.inl c
      · exact Or.inr (by rw [ta (by rw [z1]; omega), z1])
    have t3 : x2.toInt = 2147483647 → (x2 + (1 : Int32)).toInt = -2147483648 := fun c => by
      have : x2 = (2147483647 : Int32) := Int32.toInt_inj.mp (by rw [c]; rfl)
      rw [this]; rfl
    have go : sX15_readPass_32 F (sX15_readPass_18 F f) h (V 16) (V 13) x2 = some o → RdI V L 1 o.2 := fun u => by
      unfold sX15_readPass_32 sX15_readPass_58 at u
      replace u := cl_s u; obtain ⟨o1, eo1, u⟩ := u
      obtain ⟨A, r⟩ := ri_sq D H I eo1
      have I1 := ri_f D I A
      rcases br_s u with ⟨_, u⟩ | ⟨c, u⟩
      · rw [so_e u]; exact ri_01 I1
      rcases r with r | r
      · exact absurd r c
      rcases br_s u with ⟨l, u⟩ | ⟨l, u⟩
      · have l := le_i l
        rw [z64] at l
        refine ih I1 (fun i hi h64 => ?_) (nx_e u)
        rw [fvI D A 63 i]
        exact q i (by omega) h64
      · have l := nle_i l
        rw [z64] at l
        replace u := ce_e I1.2.1.2.1 u
        obtain ⟨gb, u⟩ := gd_s u
        have g0 := (inb_r gb).1
        have c2 := nc_i g0
        refine ih (ri_p1 D I1) (fun i hi h64 => ?_) (nx_e (nx_e u))
        by_cases y : i = x2.toNatClampNeg
        · rw [y, rI_s]; exact r
        · rw [rI_o (fun z => y z), fvI D A 63 i]
          exact q i (by omega) h64
    rcases br_s e with ⟨_, e⟩ | ⟨l, e⟩
    · exact go e
    have l := nlt_i l
    rw [z2] at l
    replace e := cl_s e; obtain ⟨o2, eo2, e⟩ := e
    rw [lok_h eo2] at e
    rcases br_s e with ⟨_, e⟩ | ⟨_, e⟩
    · unfold sX15_readPass_77 at e
      rcases br_s e with ⟨m, e⟩ | ⟨m, e⟩
      · have m := le_i m
        rw [z64] at m
        replace e := nx_e e
        exact ri_rg D (ri_p2 D I ⟨by decide, by decide⟩ (fun i hi => q i (by rw [z64] at hi; omega) (by rw [z64] at hi; omega))) e
      · have m := nle_i m
        rw [z64] at m
        replace e := nx_e e
        exact ri_rg D (ri_p2 D I ⟨by omega, by omega⟩ (fun i hi => q i hi (by omega))) e
    · exact go e
theorem ri_pass (D : VD V) (H : LOk L) (I : RdI V L 0 h) (e : sX15_readPass F h (V 16) (V 13) = some o) : RdI V L 1 o.2 := by
  have z0 : (0 : Int32).toInt = 0 := rfl
  unfold sX15_readPass at e
  replace e := cl_s e; obtain ⟨o1, eo1, e⟩ := e
  have I1 := ri_rd D I eo1
  rcases br_s e with ⟨_, e⟩ | ⟨_, e⟩
  · exact rip_18 D H F I1 (fun i hi => by rw [z0] at hi; omega) e
  · exact ri_rg D (ri_01 I1) e
/-- hands -/
theorem rih_18 (D : VD V) (H : LOk L) : ∀ (f : Nat) {h : Hp} {x2 : Int32}, RdI V L n0 h → sX15_readHands_18 F f h (V 16) (V 13) x2 = some o → RdI V L n0 o.2 := by
  have z1 : (1 : Int32).toInt = 1 := rfl
  have z0 : (0 : Int32).toInt = 0 := rfl
  have z16 : (16 : Int32).toInt = 16 := rfl
  have L2 := H.2.2.1
  intro f
  induction f with
  | zero => intro h x2 _ e; exact absurd e (by rw [sX15_readHands_18]; exact fun z => nomatch z)
  | succ f ih =>
    intro h x2 I e
    rw [sX15_readHands_18] at e
    have go : sX15_readHands_31 F (sX15_readHands_18 F f) h (V 16) (V 13) x2 = some o → RdI V L n0 o.2 := fun u => by
      unfold sX15_readHands_31 sX15_readHands_63 at u
      replace u := cl_s u; obtain ⟨o1, eo1, u⟩ := u
      rw [lok_h eo1] at u
      replace u := cl_s u; obtain ⟨o2, eo2, u⟩ := u
      obtain ⟨w2, r⟩ := ml_v H I eo2
      rw [w2] at u
      rcases br_s u with ⟨_, u⟩ | ⟨c, u⟩
      · rw [so_e u]; exact I
      rcases br_s u with ⟨_, u⟩ | ⟨_, u⟩
      · rw [so_e u]; exact I
      rcases r with r | r
      · exact absurd r c
      have t1 : (o2.1 - (1 : Int32)).toInt = o2.1.toInt - 1 := by rw [ts (by rw [z1]; omega), z1]
      have c1 := nc_i (x := o2.1 - (1 : Int32)) (by omega)
      replace u := ce_e I.2.1.2.2.1 u
      replace u := gg_e u
      rcases br_s u with ⟨_, u⟩ | ⟨n16, u⟩
      · rw [so_e u]; exact I
      have hd := (I.2.2.2.2.2.2.1 (o2.1 - (1 : Int32)).toNatClampNeg (by omega)).1
      have n16' : ¬ (hI h (V 64) (o2.1 - (1 : Int32)).toNatClampNeg).toInt = 16 := fun z => n16 (Int32.toInt_inj.mp (by rw [z, z16]))
      have t2 : ((hI h (V 64) (o2.1 - (1 : Int32)).toNatClampNeg) + (1 : Int32)).toInt = (hI h (V 64) (o2.1 - (1 : Int32)).toNatClampNeg).toInt + 1 := by rw [ta (by rw [z1]; omega), z1]
      replace u := ce_e I.2.1.2.2.1 u
      replace u := gg_e u
      replace u := gg_e u
      exact ih (ri_w D (ri_hd D I (v := (hI h (V 64) (o2.1 - (1 : Int32)).toNatClampNeg) + (1 : Int32)) (k := (o2.1 - (1 : Int32)).toNatClampNeg) ⟨by omega, by omega⟩ (by omega)) rfl) (nx_e (nx_e (nx_e u)))
    rcases br_s e with ⟨_, e⟩ | ⟨_, e⟩
    · exact go e
    replace e := cl_s e; obtain ⟨o2, eo2, e⟩ := e
    rw [lok_h eo2] at e
    rcases br_s e with ⟨_, e⟩ | ⟨_, e⟩
    · exact ri_rg D I e
    · exact go e
theorem ri_hands (D : VD V) (H : LOk L) (I : RdI V L n0 h) (e : sX15_readHands F h (V 16) (V 13) = some o) : RdI V L n0 o.2 := by
  unfold sX15_readHands at e
  replace e := cl_s e; obtain ⟨o1, eo1, e⟩ := e
  have I1 := ri_rd D I eo1
  rcases br_s e with ⟨_, e⟩ | ⟨_, e⟩
  · exact rih_18 D H F I1 e
  · exact ri_rg D I1 e
theorem dig_v {c : Int32} (e : sX15_isDigit h c = some o) : o.2 = h ∧ (o.1 = 0 ∨ (48 ≤ c.toInt ∧ c.toInt ≤ 57)) := by
  have z48 : (48 : Int32).toInt = 48 := rfl
  have z57 : (57 : Int32).toInt = 57 := rfl
  unfold sX15_isDigit sX15_isDigit_16 sX15_isDigit_17 at e
  rcases br_s e with ⟨_, e⟩ | ⟨a, e⟩
  · rw [so_e (gg_e e)]; exact ⟨rfl, Or.inl rfl⟩
  rcases br_s e with ⟨_, e⟩ | ⟨b, e⟩
  · rw [so_e (gg_e e)]; exact ⟨rfl, Or.inl rfl⟩
  have a := nlt_i a
  have b := nlt_i b
  rw [z48] at a
  rw [z57] at b
  rw [so_e (gg_e e)]
  exact ⟨rfl, Or.inr ⟨a, b⟩⟩
/-- the clock, of at most three figures -/
theorem rit_79 (D : VD V) {x2 : Int32} : ∀ (f : Nat) {h : Hp} {x3 x4 : Int32}, RdI V L n0 h → 0 ≤ x3.toInt → ((x4.toInt = 0 ∧ x3.toInt ≤ 0) ∨ (x4.toInt = 1 ∧ x3.toInt ≤ 9) ∨ (x4.toInt = 2 ∧ x3.toInt ≤ 99) ∨ (x4.toInt = 3 ∧ x3.toInt ≤ 999)) → sX15_readRest_79 F f h (V 16) (V 13) x2 x3 x4 = some o → RdI V L n0 o.2 ∧ (o.1 = 0 ∨ (0 ≤ (hI o.2 (V 13) 7).toInt ∧ (hI o.2 (V 13) 7).toInt ≤ 200)) := by
  have z1 : (1 : Int32).toInt = 1 := rfl
  have z3 : (3 : Int32).toInt = 3 := rfl
  have z10 : (10 : Int32).toInt = 10 := rfl
  have z48 : (48 : Int32).toInt = 48 := rfl
  have z200 : (200 : Int32).toInt = 200 := rfl
  intro f
  induction f with
  | zero => intro h x3 x4 _ _ _ e; exact absurd e (by rw [sX15_readRest_79]; exact fun z => nomatch z)
  | succ f ih =>
    intro h x3 x4 I a3 b e
    rw [sX15_readRest_79] at e
    have fin : sX15_readRest_124 F h (V 16) (V 13) x2 x3 = some o → RdI V L n0 o.2 ∧ (o.1 = 0 ∨ (0 ≤ (hI o.2 (V 13) 7).toInt ∧ (hI o.2 (V 13) 7).toInt ≤ 200)) := fun u => by
      unfold sX15_readRest_124 sX15_readRest_159 at u
      have I1 := ri_cl D I (v := x3)
      replace u := nx_e u
      rcases br_s u with ⟨c, u⟩ | ⟨c, u⟩
      · have c := le_i c
        rw [z200] at c
        have fact : 0 ≤ (hI (wI h (V 13) 7 x3) (V 13) 7).toInt ∧ (hI (wI h (V 13) 7 x3) (V 13) 7).toInt ≤ 200 := by rw [rI_s]; exact ⟨a3, c⟩
        rcases br_s u with ⟨_, u⟩ | ⟨_, u⟩
        · rw [so_e (gg_e u)]; exact ⟨I1, Or.inr fact⟩
        · rw [so_e (gg_e u)]; exact ⟨I1, Or.inl rfl⟩
      · replace u := nm_s u; obtain ⟨g1, u1, u⟩ := u
        rw [so_e u]
        exact ⟨by rw [u1]; exact ri_w D I1 rfl, Or.inl rfl⟩
    rcases br_s e with ⟨_, e⟩ | ⟨l, e⟩
    · exact fin e
    have l := nle_i l
    rw [z3] at l
    replace e := cl_s e; obtain ⟨o2, eo2, e⟩ := e
    rw [lok_h eo2] at e
    replace e := cl_s e; obtain ⟨o3, eo3, e⟩ := e
    obtain ⟨w3, r3⟩ := dig_v eo3
    rw [w3] at e
    rcases br_s e with ⟨_, e⟩ | ⟨c, e⟩
    · exact fin e
    rcases r3 with r | r
    · exact absurd r c
    replace e := cl_s e; obtain ⟨o5, eo5, e⟩ := e
    have o52 : o5 = o2 := Option.some.inj (eo5.symm.trans eo2)
    rw [o52, lok_h eo2] at e
    replace e := nm_s e; obtain ⟨v6, u6, e⟩ := e
    have t1 : ((10 : Int32) * x3).toInt = 10 * x3.toInt := by rw [tm (by rw [z10]; omega), z10]
    have t2 : (((10 : Int32) * x3) + o2.1).toInt = 10 * x3.toInt + o2.1.toInt := by rw [ta (by rw [t1]; omega), t1]
    have t3 : v6.toInt = 10 * x3.toInt + o2.1.toInt - 48 := by rw [u6, ts (by rw [t2, z48]; omega), t2, z48]
    have t4 : (x4 + (1 : Int32)).toInt = x4.toInt + 1 := by rw [ta (by rw [z1]; omega), z1]
    exact ih (ri_w D I rfl) (by omega) (by rw [t4]; omega) (nx_e (nx_e e))
theorem rit_2 (D : VD V) : ∀ (f : Nat) {h : Hp} {x2 : Int32}, RdI V L n0 h → sX15_readRest_2 F f h (V 16) (V 13) x2 = some o → RdI V L n0 o.2 ∧ (o.1 = 0 ∨ (0 ≤ (hI o.2 (V 13) 7).toInt ∧ (hI o.2 (V 13) 7).toInt ≤ 200)) := by
  have z48 : (48 : Int32).toInt = 48 := rfl
  intro f
  induction f with
  | zero => intro h x2 _ e; exact absurd e (by rw [sX15_readRest_2]; exact fun z => nomatch z)
  | succ f ih =>
    intro h x2 I e
    rw [sX15_readRest_2] at e
    unfold sX15_readRest_67 at e
    rcases br_s e with ⟨_, e⟩ | ⟨_, e⟩
    · replace e := cl_s e; obtain ⟨o2, eo2, e⟩ := e
      have I2 := ri_rd D I eo2
      rcases br_s e with ⟨_, e⟩ | ⟨_, e⟩
      · rw [so_e e]; exact ⟨I2, Or.inl rfl⟩
      replace e := cl_s e; obtain ⟨o4, eo4, e⟩ := e
      rw [lok_h eo4] at e
      replace e := cl_s e; obtain ⟨o5, eo5, e⟩ := e
      rw [(dig_v eo5).1] at e
      rcases br_s e with ⟨_, e⟩ | ⟨_, e⟩
      · rw [so_e e]; exact ⟨I2, Or.inl rfl⟩
      · exact rit_79 D F I2 (by decide) (Or.inl ⟨rfl, by decide⟩) (nx_e e)
    · replace e := cl_s e; obtain ⟨o8, eo8, e⟩ := e
      rw [lok_h eo8] at e
      replace e := cl_s e; obtain ⟨o9, eo9, e⟩ := e
      obtain ⟨w9, r9⟩ := dig_v eo9
      rw [w9] at e
      rcases br_s e with ⟨_, e⟩ | ⟨c, e⟩
      · rw [so_e e]; exact ⟨I, Or.inl rfl⟩
      rcases r9 with r | r
      · exact absurd r c
      replace e := ce_e I.2.1.2.2.2 e
      replace e := cl_s e; obtain ⟨o12, eo12, e⟩ := e
      have o128 : o12 = o8 := Option.some.inj (eo12.symm.trans eo8)
      rw [o128, lok_h eo8] at e
      replace e := gg_e e
      have t1 : (o8.1 - (48 : Int32)).toInt = o8.1.toInt - 48 := by rw [ts (by rw [z48]; omega), z48]
      exact ih (ri_w D (ri_ck D I (v := o8.1 - (48 : Int32)) ⟨by omega, by omega⟩) rfl) (nx_e (nx_e (nx_e e)))
/-- a position that is read -/
theorem ri_all (D : VD V) (H : LOk L) (W : RW0 V h L) (Pr : VPr V h) {N : Int32} {x1 : Nat} (e : sX15_isPosition F h (V 16) x1 N (V 13) = some o) : o.1 = 0 ∨ (RdI V L 1 o.2 ∧ 0 ≤ (hI o.2 (V 13) 7).toInt ∧ (hI o.2 (V 13) 7).toInt ≤ 200) := by
  have z0 : (0 : Int32).toInt = 0 := rfl
  unfold sX15_isPosition sX15_isPosition_71 sX15_isPosition_72 at e
  replace e := nm_s e; obtain ⟨g1, u1, e⟩ := e
  replace e := nm_s e; obtain ⟨g2, u2, e⟩ := e
  replace e := nm_s e; obtain ⟨g3, u3, e⟩ := e
  replace e := cl_s e; obtain ⟨g4, f4, e⟩ := e
  have Rk : ∀ a i, ¬ (a = V 16 ∧ i = 17) → hR g3 a i = hR h a i := fun a i n => by
    rw [u3]
    show hR g2 a i = _
    rw [u2]
    show hR g1 a i = _
    rw [u1, r_R, if_neg n]
  have Ik : ∀ a i, ¬ (a = V 16 ∧ (i = 18 ∨ i = 19)) → hI g3 a i = hI h a i := fun a i n => by
    rw [u3, r_I, if_neg (fun z => n ⟨z.1, Or.inr z.2⟩), u2, r_I, if_neg (fun z => n ⟨z.1, Or.inl z.2⟩), u1]; rfl
  have Jk : ∀ a i, hJ g3 a i = hJ h a i := fun a i => by rw [u3, u2, u1]; rfl
  have nK : ∀ i, ¬ (V 15 = V 16 ∧ i = 17) := fun i z => (vne D : ¬ V 15 = V 16) z.1
  have n13 : ∀ i, ¬ (V 13 = V 16 ∧ i = 17) := fun i z => (vne D : ¬ V 13 = V 16) z.1
  obtain ⟨⟨w1, w2, w3, w4, w5, w6, w7, w8, w9, w10⟩, l1, l2, l3, l4⟩ := W
  have W3 : RW0 V g3 L := by
    refine ⟨⟨by rw [Rk _ _ (fun z => absurd z.2 (by decide))]; exact w1, by rw [Rk _ _ (nK _)]; exact w2, by rw [Rk _ _ (nK _)]; exact w3, by rw [Rk _ _ (nK _)]; exact w4, by rw [Rk _ _ (nK _)]; exact w5, by rw [Rk _ _ (nK _)]; exact w6, by rw [Rk _ _ (nK _)]; exact w7, by rw [Rk _ _ (nK _)]; exact w8, by rw [Rk _ _ (nK _)]; exact w9, by rw [Rk _ _ (nK _)]; exact w10⟩, ?_, by rw [Ik _ _ (fun z => by omega)]; exact l2, by rw [Ik _ _ (fun z => by omega)]; exact l3, by rw [Ik _ _ (fun z => by omega)]; exact l4⟩
    rw [← l1]
    funext k i
    unfold lwR
    by_cases c : k < 30
    · rw [if_pos c, if_pos c, Ik _ _ (fun z => (vne D : ¬ V 15 = V 16) z.1)]
    · rw [if_neg c, if_neg c]
      by_cases d : 73 ≤ k ∧ k ≤ 81
      · have all : ∀ k, k ∈ [73, 74, 75, 76, 77, 78, 79, 80, 81] → k ∈ vql ∧ ¬ k = 16 := by decide
        have kk : k ∈ [73, 74, 75, 76, 77, 78, 79, 80, 81] := by
          have : k = 73 ∨ k = 74 ∨ k = 75 ∨ k = 76 ∨ k = 77 ∨ k = 78 ∨ k = 79 ∨ k = 80 ∨ k = 81 := by omega
          rcases this with z | z | z | z | z | z | z | z | z <;> rw [z] <;> decide
        rw [if_pos d, if_pos d, Ik _ _ (fun z => D k (all k kk).1 16 (by decide) (all k kk).2 z.1)]
      · rw [if_neg d, if_neg d, Jk]
  have Pr3 : VPr V g3 := ⟨by rw [Rk _ _ (n13 _)]; exact Pr.1, by rw [Rk _ _ (n13 _)]; exact Pr.2.1, by rw [Rk _ _ (n13 _)]; exact Pr.2.2.1, by rw [Rk _ _ (n13 _)]; exact Pr.2.2.2⟩
  unfold sX12_clear at f4
  obtain ⟨B4, m1, m2, m3, m4, m5, m6, m7⟩ := clr_2 D F Pr3 (by decide) (by decide) (fun d hd => by rw [z0] at hd; omega) f4
  have I4 : RdI V L 0 g4 := by
    refine ⟨rw0_f D W3 B4 (by decide) rfl rfl rfl, vpr_f Pr3 B4, fun s hs => ?_, ?_, fun q hq b => ?_, Or.inl m6, fun d hd => ?_, fun d hd => ?_⟩
    · unfold mV
      rw [m1 s hs, z0]
      exact ⟨Int.le_refl _, fun z => absurd z (by decide)⟩
    · rw [m4, z0]; exact ⟨by decide, by decide⟩
    · rw [m5, bj_zero] at b; exact absurd b (by decide)
    · rw [m2 d hd, z0]; exact ⟨⟨by decide, by decide⟩, fun _ => rfl⟩
    · rw [m3 d hd, z0]; exact ⟨by decide, by decide⟩
  replace e := cl_s e; obtain ⟨o5, e5, e⟩ := e
  have I5 := ri_men' D H I4 e5
  rcases br_s e with ⟨_, e⟩ | ⟨_, e⟩
  · rw [so_e (gg_e e)]; exact Or.inl rfl
  replace e := cl_s e; obtain ⟨o7, e7, e⟩ := e
  have I7 := ri_side D I5 e7
  rcases br_s e with ⟨_, e⟩ | ⟨_, e⟩
  · rw [so_e (gg_e e)]; exact Or.inl rfl
  replace e := cl_s e; obtain ⟨o9, e9, e⟩ := e
  have I9 := ri_rights D H I7 e9
  rcases br_s e with ⟨_, e⟩ | ⟨_, e⟩
  · rw [so_e (gg_e e)]; exact Or.inl rfl
  replace e := cl_s e; obtain ⟨o11, e11, e⟩ := e
  have I11 := ri_pass D H I9 e11
  rcases br_s e with ⟨_, e⟩ | ⟨_, e⟩
  · rw [so_e (gg_e e)]; exact Or.inl rfl
  replace e := cl_s e; obtain ⟨o13, e13, e⟩ := e
  have I13 := ri_hands D H I11 e13
  rcases br_s e with ⟨_, e⟩ | ⟨_, e⟩
  · rw [so_e (gg_e e)]; exact Or.inl rfl
  replace e := cl_s e; obtain ⟨o15, e15, e⟩ := e
  unfold sX15_readRest at e15
  obtain ⟨I15, r15⟩ := rit_2 D F I13 e15
  rcases br_s e with ⟨_, e⟩ | ⟨c, e⟩
  · rw [so_e (gg_e e)]; exact Or.inl rfl
  · rw [so_e (gg_e e)]
    rcases r15 with r | r
    · exact absurd r c
    · exact Or.inr ⟨I15, r⟩
end
/-- the position that the reference's board is -/
def pzB (V : Nat → Nat) (h : Hp) : Pz := (mV h (V 62), (hI h (V 13) 1).toInt.toNat, fun q => bitJ (hJ h (V 13) 2) q, (hI h (V 13) 3).toInt.toNat, rowN h (V 63), fun d => (hI h (V 64) d).toInt, fun d => (hI h (V 65) d).toInt, (hI h (V 13) 7).toInt)
section
variable {V : Nat → Nat} {L : Nat → Nat → Int} {h hc : Hp}
theorem pzb_r (I : RdI V L 1 h) : RbP V h (pzB V h) := by
  obtain ⟨W, Pr, M, sd, rt, pa, hd, ck⟩ := I
  have n3 : (hI h (V 13) 3).toInt = ((hI h (V 13) 3).toInt.toNat : Int) := by
    rcases pa with z | ⟨_, z, _⟩
    · rw [z]; rfl
    · have := z.1; omega
  refine ⟨Pr, fun s _ => rfl, ?_, fun q _ => rfl, n3, fun i hi => ?_, fun d _ => rfl, fun d _ => rfl, rfl⟩
  · show _ = ((hI h (V 13) 1).toInt.toNat : Int)
    omega
  · have hi : i < (hI h (V 13) 3).toInt.toNat := hi
    show _ = ((hI h (V 63) i).toNatClampNeg : Int)
    rcases pa with z | ⟨_, z, w⟩
    · rw [z] at hi; exact absurd hi (Nat.not_lt_zero _)
    · exact (nc_i (w i (by omega)).1).symm
theorem pzb_ok (I : RdI V L 1 h) (c : 0 ≤ (hI h (V 13) 7).toInt ∧ (hI h (V 13) 7).toInt ≤ 200) : PzRd L (pzB V h) := by
  obtain ⟨W, Pr, M, sd, rt, pa, hd, ck⟩ := I
  refine ⟨⟨M, ?_, ?_, fun d h' => (hd d h').1, ck⟩, rt, fun d h' => (hd d h').2, c⟩
  · show (hI h (V 13) 1).toInt.toNat < 2
    omega
  · show (hI h (V 13) 3).toInt.toNat = 0 ∨ (2 ≤ (hI h (V 13) 3).toInt.toNat ∧ (hI h (V 13) 3).toInt.toNat ≤ 64 ∧ ∀ i, i < (hI h (V 13) 3).toInt.toNat → ((hI h (V 63) i).toNatClampNeg : Int) < L 0 0 * L 1 0)
    rcases pa with z | ⟨_, z, w⟩
    · rw [z]; exact Or.inl rfl
    · have z1 := z.1
      have z2 := z.2
      refine Or.inr ⟨by omega, by omega, fun i hi => ?_⟩
      have := w i (by omega)
      rw [nc_i this.1]
      exact this.2
/-- and the class's, when both have read -/
theorem pzb_c {ro : Int} (Pc : VPc V hc) (I : RdI V L 1 h) (Q : PosV V hc h) (er : (hI hc (V 2) 4).toInt = ro) : CpR V hc ro (pzB V h) := by
  obtain ⟨W, Pr, M, sd, rt, pa, hd, ck⟩ := I
  obtain ⟨p1, p2, p3, p4, p5, p6, p7⟩ := Q
  refine ⟨Pc, by rw [← er]; exact p1, ?_, fun q _ => ?_, ?_, ⟨p5.1, fun d h' => ((p5.2 d h').1).symm⟩, fun d h' => ?_, ?_⟩
  · show _ = ((hI h (V 13) 1).toInt.toNat : Int)
    rw [p2]; omega
  · show bitJ (hJ hc (V 4) 8) q = bitJ (hJ h (V 13) 2) q
    rw [p3]
  · show (Pw (hJ hc (V 4) 9) (hI h (V 13) 3).toInt.toNat (rowN h (V 63)) ∧ OvN (hJ hc (V 4) 10) (hI h (V 13) 3).toInt.toNat (rowN h (V 63))) ∨ (8 ≤ (hI h (V 13) 3).toInt.toNat ∧ hJ hc (V 4) 9 = 8)
    rcases p4 with ⟨a, b, c⟩ | ⟨a, _, b⟩
    · rw [a, b, c]
      refine Or.inl ⟨⟨by decide, fun i hi => absurd hi (Nat.not_lt_zero _), rfl⟩, fun t => ⟨fun z => ?_, fun ⟨i, i1, i2, _⟩ => absurd i2 (Nat.not_lt_zero _)⟩⟩
      rw [bj_zero] at z
      exact absurd z (by decide)
    · have e : (hI h (V 13) 3).toInt.toNat = (hI h (V 13) 3).toNatClampNeg := by
        have := nc_i (x := hI h (V 13) 3) (by have := a.1; omega)
        omega
      rw [e]
      exact b
  · show _ = (hI h (V 65) d).toInt
    rw [p6 d (by omega)]
  · show _ = (hI h (V 13) 7).toInt
    rw [p7]
end
end
section
/-! positions that are SAME: pure, and the reference -/
def swS (k : Nat) : Nat := if k = 13 then 300 else if k = 300 then 13 else if k = 62 then 301 else if k = 301 then 62 else if k = 63 then 302 else if k = 302 then 63 else if k = 64 then 303 else if k = 303 then 64 else if k = 65 then 304 else if k = 304 then 65 else k
/-- another board of the reference in the place of the first -/
def vS (V : Nat → Nat) : Nat → Nat := fun k => V (swS k)
set_option maxRecDepth 20000 in
theorem sws_in : ∀ a, a ∈ vql → swS a ∈ vql := by decide
theorem sws_sw (a : Nat) : swS (swS a) = a := by
  by_cases h : a ∈ [13, 300, 62, 301, 63, 302, 64, 303, 65, 304]
  · have all : ∀ x, x ∈ [13, 300, 62, 301, 63, 302, 64, 303, 65, 304] → swS (swS x) = x := by decide
    exact all a h
  · have e : swS a = a := by
      simp at h
      unfold swS
      repeat' split
      all_goals omega
    rw [e, e]
section
variable {V : Nat → Nat} {h o g : Hp} {Ls : List (Nat × Nat)}
theorem vd_s (D : VD V) : VD (vS V) := fun a ha b hb n e => D (swS a) (sws_in a ha) (swS b) (sws_in b hb) (fun z => n (by rw [← sws_sw a, z, sws_sw])) e
theorem fv_ss (A : FrV (vS V) (wl Ls) h o) : FrV V (wl (Ls.map fun p => (swS p.1, p.2))) h o :=
  ⟨A.1, fun a i n => A.2 a i (fun k wk e => n (swS k) (by
    obtain ⟨j, m, z⟩ := wl_m wk
    exact wl_i (j := j) (List.mem_map.mpr ⟨(k, j), m, rfl⟩) z) e)⟩
theorem fv_s2 (A : FrV V (wl Ls) h o) : FrV (vS V) (wl (Ls.map fun p => (swS p.1, p.2))) h o :=
  ⟨A.1, fun a i n => A.2 a i (fun k wk e => n (swS k) (by
    obtain ⟨j, m, z⟩ := wl_m wk
    exact wl_i (j := j) (List.mem_map.mpr ⟨(k, j), m, rfl⟩) z) (by
      show a = V (swS (swS k))
      rw [sws_sw]; exact e))⟩
end
def Cch (L : Nat → Nat → Int) (P : Pz) : Prop := ∃ v, v ∈ lgL L P ∧ v.2.2.2.2.2.1 = 1
def PasE (P Q : Pz) : Prop := pzN P = pzN Q ∧ ∀ i, i < pzN P → pzQ P i = pzQ Q i
def SamA (P Q : Pz) : Prop := pzS P = pzS Q ∧ (∀ q, q < 64 → pzR P q = pzR Q q) ∧ ∀ d, d < 2 → pzC P d = pzC Q d
def SamB (P Q : Pz) : Prop := SamA P Q ∧ (∀ s, s < 64 → P.1 s = Q.1 s) ∧ ∀ d, d < 24 → pzH P d = pzH Q d
/-- positions are SAME -/
def SamP (L : Nat → Nat → Int) (P Q : Pz) : Prop := SamB P Q ∧ (PasE P Q ∨ (¬ Cch L P ∧ ¬ Cch L Q))
theorem lg_mo {L : Nat → Nat → Int} {P : Pz} {v : MvT} (m : v ∈ lgL L P) : v ∈ moP L P := by
  unfold lgL at m
  split at m
  · exact absurd m (List.not_mem_nil)
  · unfold mustF at m
    split at m
    · exact (List.mem_filter.mp (List.mem_filter.mp m).1).1
    · exact (List.mem_filter.mp m).1
theorem cch_n {L : Nat → Nat → Int} {P : Pz} (H : LOk L) (K : LawK L) (O : PzOk L P) (c : Cch L P) : 1 < pzN P := by
  obtain ⟨v, m, k⟩ := c
  exact ((mo_g H K O (lg_mo m)).2.2.2.2.1 k).1
theorem j_ext {x y : Int64} : x = y ↔ ∀ q, q < 64 → bitJ x q = bitJ y q := by
  constructor
  · intro e q _; rw [e]
  · intro e
    apply Int64.toBitVec_inj.mp
    apply BitVec.eq_of_getLsbD_eq
    intro i hi
    exact e i hi
theorem lg_eq {x y : Int64} : lg_cmp x y = 0 ↔ x = y := ⟨cmp_eq, fun z => by rw [z]; exact cmp_rf _⟩
section
variable {F : Nat} {V : Nat → Nat} {L : Nat → Nat → Int} {h : Hp} {P Q : Pz} {o : Int32 × Hp}
theorem lgw_g (D : VD V) {g : Hp} (W : LgW V h L P) (A : FrV V (wl wlg) h g) : LgW V g L P := by
  obtain ⟨a, b, c, ⟨d1, d2, d3, d4⟩, e1, e2, e3, e4⟩ := W
  exact ⟨rw0_f D a A (by decide) rfl rfl rfl, wmf_f b A, rbp_f D c A (by decide), ⟨by rw [A.1]; exact d1, by rw [A.1]; exact d2, by rw [A.1]; exact d3, by rw [A.1]; exact d4⟩, by rw [A.1]; exact e1, by rw [A.1]; exact e2, by rw [A.1]; exact e3, by rw [A.1]; exact e4⟩
theorem hc_11 {ms : List MvT} (R : RLs V h ms) (WM : WMf V h) (w31 : hR h (V 16) 31 = some (V 14)) : ∀ (f : Nat) {x2 : Int32} {n : Nat}, x2.toInt = (n : Int) → n ≤ ms.length → (∀ i, i < n → ¬ (rowM V h i).2.2.2.2.2.1 = 1) → sX15_hasCatch_11 F f h (V 16) x2 = some o → o.2 = h ∧ ((o.1 = 0 ∧ ¬ ∃ v, v ∈ ms ∧ v.2.2.2.2.2.1 = 1) ∨ (o.1 = 1 ∧ ∃ v, v ∈ ms ∧ v.2.2.2.2.2.1 = 1)) := by
  have z1 : (1 : Int32).toInt = 1 := rfl
  have mx : (hI h (V 14) 0).toInt ≤ 2147483647 := Int32.toInt_le _
  have r1 := R.1
  intro f
  induction f with
  | zero => intro x2 n _ _ _ e; exact absurd e (by rw [sX15_hasCatch_11]; exact fun z => nomatch z)
  | succ f ih =>
    intro x2 n e2 nl al e
    rw [sX15_hasCatch_11] at e
    replace e := ce_e w31 e
    rcases br_s e with ⟨l, e⟩ | ⟨l, e⟩
    · have l := le_i l
      rw [r1, e2] at l
      rw [so_e e]
      refine ⟨rfl, Or.inl ⟨rfl, fun ⟨v, m, k⟩ => ?_⟩⟩
      obtain ⟨i, hi, ei⟩ := List.mem_iff_getElem.mp m
      have := R.2 i hi
      rw [List.getElem?_eq_getElem hi, ei] at this
      rw [Option.some.inj this] at k
      exact al i (by omega) k
    have l := nle_i l
    rw [r1, e2] at l
    have c2 : x2.toNatClampNeg = n := by have := nc_i (x := x2) (by omega); omega
    replace e := ce_e w31 e
    replace e := ce_e WM.2.2.2.2.2.1 e
    replace e := gg_e e
    rcases br_s e with ⟨c, e⟩ | ⟨c, e⟩ <;> rw [c2] at c
    · rw [so_e e]
      refine ⟨rfl, Or.inr ⟨rfl, rowM V h n, List.mem_of_getElem? (R.2 n (by omega)), ?_⟩⟩
      show (hI h (V 71) n).toInt = 1
      rw [c, z1]
    · refine ih (n := n + 1) (by rw [ta (by rw [z1]; omega), z1, e2]; omega) (by omega) (fun i hi => ?_) (nx_e e)
      by_cases q : i = n
      · rw [q]
        exact fun z => c (Int32.toInt_inj.mp (by rw [z1]; exact z))
      · exact al i (by omega)
theorem hc_r (D : VD V) (H : LOk L) (K : LawK L) (O : PzOk L P) (W : LgW V h L P) (w31 : hR h (V 16) 31 = some (V 14)) (e : sX15_hasCatch F h (V 16) (V 13) = some o) : FrV V (wl wlg) h o.2 ∧ ((o.1 = 0 ∧ ¬ Cch L P) ∨ (o.1 = 1 ∧ Cch L P)) := by
  unfold sX15_hasCatch at e
  replace e := ce_e w31 e
  replace e := cl_s e; obtain ⟨o2, eo2, e⟩ := e
  obtain ⟨A, R⟩ := lg_r D H K O W eo2
  obtain ⟨w, r⟩ := hc_11 R (wmf_f W.2.1 A) (by rw [A.1]; exact w31) F (n := 0) rfl (Nat.zero_le _) (fun i hi => absurd hi (Nat.not_lt_zero _)) e
  rw [w]
  exact ⟨A, r⟩
/-- what two boards need -/
def SmW (V : Nat → Nat) (h : Hp) (L : Nat → Nat → Int) (P Q : Pz) : Prop := LgW V h L P ∧ LgW (vS V) h L Q ∧ hR h (V 16) 31 = some (V 14)
def SmR (V : Nat → Nat) (h : Hp) (L : Nat → Nat → Int) (P Q : Pz) (o : Int32 × Hp) : Prop := FrV V (wl wlg) h o.2 ∧ ((o.1 = 0 ∧ ¬ SamP L P Q) ∨ (o.1 = 1 ∧ SamP L P Q))
theorem is_212 (D : VD V) (H : LOk L) (K : LawK L) (O : PzOk L P) (O' : PzOk L Q) (W : SmW V h L P Q) {x3 x4 : Int32} (e3 : (x3 = 0 ∧ ¬ SamB P Q) ∨ (x3 = 1 ∧ SamB P Q)) (e4 : (x4 = 0 ∧ ¬ PasE P Q) ∨ (x4 = 1 ∧ PasE P Q)) (e : sX15_isSame_212 F h (V 16) (V 13) (vS V 13) x3 x4 = some o) : SmR V h L P Q o := by
  obtain ⟨W1, W2, w31⟩ := W
  unfold sX15_isSame_212 sX15_isSame_241 sX15_isSame_237 sX15_isSame_242 at e
  rcases e3 with ⟨a, b⟩ | ⟨a, b⟩
  · rw [so_e (gg_e (bp_e a e))]
    exact ⟨fv_0, Or.inl ⟨rfl, fun z => b z.1⟩⟩
  replace e := bn_e (by rw [a]; decide) e
  rcases e4 with ⟨c, d⟩ | ⟨c, d⟩
  rotate_left
  · rw [so_e (gg_e (bn_e (by rw [c]; decide) e))]
    exact ⟨fv_0, Or.inr ⟨rfl, b, Or.inl d⟩⟩
  replace e := bp_e c e
  replace e := cl_s e; obtain ⟨o3, eo3, e⟩ := e
  obtain ⟨A3, r3⟩ := hc_r D H K O W1 w31 eo3
  rcases r3 with ⟨q, r⟩ | ⟨q, r⟩
  rotate_left
  · rw [so_e (gg_e (bn_e (by rw [q]; decide) e))]
    refine ⟨A3, Or.inl ⟨rfl, fun z => ?_⟩⟩
    rcases z.2 with y | y
    · exact d y
    · exact y.1 r
  replace e := bp_e q e
  replace e := cl_s e; obtain ⟨o5, eo5, e⟩ := e
  have A3' : FrV (vS V) (wl wlg) h o3.2 := fv_s (fv_s2 A3) (by decide)
  obtain ⟨A5, r5⟩ := hc_r (V := vS V) (vd_s D) H K O' (lgw_g (vd_s D) W2 A3') (by rw [A3.1]; exact w31) eo5
  have A5' : FrV V (wl wlg) o3.2 o5.2 := fv_s (fv_ss A5) (by decide)
  rcases r5 with ⟨q', r'⟩ | ⟨q', r'⟩
  · rw [so_e (gg_e (bp_e q' e))]
    exact ⟨fv_t A3 A5', Or.inr ⟨rfl, b, Or.inr ⟨r, r'⟩⟩⟩
  · rw [so_e (gg_e (bn_e (by rw [q']; decide) e))]
    refine ⟨fv_t A3 A5', Or.inl ⟨rfl, fun z => ?_⟩⟩
    rcases z.2 with y | y
    · exact d y
    · exact y.2 r'
/-- squares of PASS -/
theorem is_168 (D : VD V) (H : LOk L) (K : LawK L) (O : PzOk L P) (O' : PzOk L Q) (W : SmW V h L P Q) {x3 : Int32} (e3 : (x3 = 0 ∧ ¬ SamB P Q) ∨ (x3 = 1 ∧ SamB P Q)) : ∀ (f : Nat) {x4 x5 : Int32} {n : Nat}, x5.toInt = (n : Int) → n ≤ pzN P ∨ x4 = 0 → ((x4 = 0 ∧ ¬ PasE P Q) ∨ (x4 = 1 ∧ pzN P = pzN Q ∧ ∀ i, i < n → i < pzN P → pzQ P i = pzQ Q i)) → sX15_isSame_168 F f h (V 16) (V 13) (vS V 13) x3 x4 x5 = some o → SmR V h L P Q o := by
  have z1 : (1 : Int32).toInt = 1 := rfl
  have R1 := W.1.2.2.1
  have R2 := W.2.1.2.2.1
  have p3 := R1.2.2.2.2.1
  have n7 : pzN P ≤ 7 := by rcases O.2.2.2.2.1 with z | z <;> omega
  intro f
  induction f with
  | zero => intro x4 x5 n _ _ _ e; exact absurd e (by rw [sX15_isSame_168]; exact fun z => nomatch z)
  | succ f ih =>
    intro x4 x5 n e5 nl e4 e
    rw [sX15_isSame_168] at e
    unfold sX15_isSame_204 at e
    rcases br_s e with ⟨l, e⟩ | ⟨l, e⟩
    · have l := le_i l
      rw [p3, e5] at l
      refine is_212 D H K O O' W e3 ?_ e
      rcases e4 with y | ⟨y, a, b⟩
      · exact Or.inl y
      · exact Or.inr ⟨y, a, fun i hi => b i (by omega) hi⟩
    have l := nle_i l
    rw [p3, e5] at l
    rcases e4 with ⟨y, a⟩ | ⟨y, a, b⟩
    · exact is_212 D H K O O' W e3 (Or.inl ⟨y, a⟩) (bp_e y e)
    replace e := bn_e (by rw [y]; decide) e
    have c5 : x5.toNatClampNeg = n := by have := nc_i (x := x5) (by omega); omega
    have t5 : (x5 + (1 : Int32)).toInt = ((n + 1 : Nat) : Int) := by rw [ta (by rw [z1]; omega), z1, e5]; omega
    have q1 := R1.2.2.2.2.2.1 n (by omega)
    have q2 := R2.2.2.2.2.2.1 n (by omega)
    replace e := ce_e R1.1.2.1 e
    replace e := gg_e e
    replace e := ce_e R2.1.2.1 e
    replace e := gg_e e
    rcases br_s e with ⟨c, e⟩ | ⟨c, e⟩ <;> rw [c5] at c
    · refine ih t5 (Or.inl (by omega)) (Or.inr ⟨rfl, a, fun i hi h' => ?_⟩) (nx_e e)
      by_cases z : i = n
      · rw [z]
        rw [c] at q1
        omega
      · exact b i (by omega) h'
    · refine ih t5 (Or.inr rfl) (Or.inl ⟨rfl, fun z => c (Int32.toInt_inj.mp ?_)⟩) (nx_e e)
      rw [q1, q2, z.2 n (by omega)]
theorem is_147 (D : VD V) (H : LOk L) (K : LawK L) (O : PzOk L P) (O' : PzOk L Q) (W : SmW V h L P Q) {x3 : Int32} (e3 : (x3 = 0 ∧ ¬ SamB P Q) ∨ (x3 = 1 ∧ SamB P Q)) (e : sX15_isSame_147 F h (V 16) (V 13) (vS V 13) x3 = some o) : SmR V h L P Q o := by
  have p1 := W.1.2.2.1.2.2.2.2.1
  have p2 := W.2.1.2.2.1.2.2.2.2.1
  unfold sX15_isSame_147 sX15_isSame_163 at e
  rcases br_s e with ⟨c, e⟩ | ⟨c, e⟩
  · refine is_168 D H K O O' W e3 F (n := 0) rfl (Or.inl (Nat.zero_le _)) (Or.inr ⟨rfl, ?_, fun i hi => absurd hi (Nat.not_lt_zero _)⟩) e
    have c : hI h (V 13) 3 = hI h (vS V 13) 3 := c
    rw [c] at p1
    omega
  · refine is_168 D H K O O' W e3 F (n := 0) rfl (Or.inl (Nat.zero_le _)) (Or.inl ⟨rfl, fun z => c (Int32.toInt_inj.mp ?_)⟩) e
    have := z.1
    show (hI h (V 13) 3).toInt = (hI h (vS V 13) 3).toInt
    omega
/-- hands -/
theorem is_107 (D : VD V) (H : LOk L) (K : LawK L) (O : PzOk L P) (O' : PzOk L Q) (W : SmW V h L P Q) : ∀ (f : Nat) {x3 x4 : Int32} {n : Nat}, x4.toInt = (n : Int) → n ≤ 24 → ((x3 = 0 ∧ ¬ SamB P Q) ∨ (x3 = 1 ∧ (SamA P Q ∧ ∀ s, s < 64 → P.1 s = Q.1 s) ∧ ∀ d, d < n → pzH P d = pzH Q d)) → sX15_isSame_107 F f h (V 16) (V 13) (vS V 13) x3 x4 = some o → SmR V h L P Q o := by
  have z1 : (1 : Int32).toInt = 1 := rfl
  have z24 : (24 : Int32).toInt = 24 := rfl
  have R1 := W.1.2.2.1
  have R2 := W.2.1.2.2.1
  intro f
  induction f with
  | zero => intro x3 x4 n _ _ _ e; exact absurd e (by rw [sX15_isSame_107]; exact fun z => nomatch z)
  | succ f ih =>
    intro x3 x4 n e4 nl e3 e
    rw [sX15_isSame_107] at e
    unfold sX15_isSame_140 at e
    rcases br_s e with ⟨l, e⟩ | ⟨l, e⟩
    · have l := le_i l
      rw [z24, e4] at l
      refine is_147 D H K O O' W ?_ e
      rcases e3 with y | ⟨y, a, b⟩
      · exact Or.inl y
      · exact Or.inr ⟨y, a.1, a.2, fun d hd => b d (by omega)⟩
    have l := nle_i l
    rw [z24, e4] at l
    rcases e3 with ⟨y, a⟩ | ⟨y, a, b⟩
    · exact is_147 D H K O O' W (Or.inl ⟨y, a⟩) (bp_e y e)
    replace e := bn_e (by rw [y]; decide) e
    have c4 : x4.toNatClampNeg = n := by have := nc_i (x := x4) (by omega); omega
    have t4 : (x4 + (1 : Int32)).toInt = ((n + 1 : Nat) : Int) := by rw [ta (by rw [z1]; omega), z1, e4]; omega
    have q1 := R1.2.2.2.2.2.2.1 n (by omega)
    have q2 := R2.2.2.2.2.2.2.1 n (by omega)
    replace e := ce_e R1.1.2.2.1 e
    replace e := gg_e e
    replace e := ce_e R2.1.2.2.1 e
    replace e := gg_e e
    rcases br_s e with ⟨c, e⟩ | ⟨c, e⟩ <;> rw [c4] at c
    · refine ih t4 (by omega) (Or.inr ⟨rfl, a, fun d hd => ?_⟩) (nx_e e)
      by_cases z : d = n
      · rw [z, ← q1, c, q2]
      · exact b d (by omega)
    · refine ih t4 (by omega) (Or.inl ⟨rfl, fun z => c (Int32.toInt_inj.mp ?_)⟩) (nx_e e)
      rw [q1, q2, z.2.2 n (by omega)]
/-- men -/
theorem is_62 (D : VD V) (H : LOk L) (K : LawK L) (O : PzOk L P) (O' : PzOk L Q) (W : SmW V h L P Q) : ∀ (f : Nat) {x3 x4 : Int32} {n : Nat}, x4.toInt = (n : Int) → (n : Int) ≤ L 0 0 * L 1 0 → ((x3 = 0 ∧ ¬ SamB P Q) ∨ (x3 = 1 ∧ SamA P Q ∧ ∀ s, s < n → P.1 s = Q.1 s)) → sX15_isSame_62 F f h (V 16) (V 13) (vS V 13) x3 x4 = some o → SmR V h L P Q o := by
  have z1 : (1 : Int32).toInt = 1 := rfl
  have sq := sq_64 H
  have R1 := W.1.2.2.1
  have R2 := W.2.1.2.2.1
  have l13 : (hI h (V 16) 13).toInt = L 0 0 * L 1 0 := W.1.1.2.2.2.2
  intro f
  induction f with
  | zero => intro x3 x4 n _ _ _ e; exact absurd e (by rw [sX15_isSame_62]; exact fun z => nomatch z)
  | succ f ih =>
    intro x3 x4 n e4 nl e3 e
    rw [sX15_isSame_62] at e
    unfold sX15_isSame_97 sX15_isSame_104 at e
    rcases br_s e with ⟨l, e⟩ | ⟨l, e⟩
    · have l := le_i l
      rw [l13, e4] at l
      refine is_107 D H K O O' W F (n := 0) rfl (Nat.zero_le _) ?_ e
      rcases e3 with y | ⟨y, a, b⟩
      · exact Or.inl y
      · refine Or.inr ⟨y, ⟨a, fun s hs => ?_⟩, fun d hd => absurd hd (Nat.not_lt_zero _)⟩
        by_cases c : s < n
        · exact b s c
        · have u := O.1 s hs
          have u' := O'.1 s hs
          have : ¬ 0 < P.1 s := fun z => by have := (u.2 z).1; omega
          have : ¬ 0 < Q.1 s := fun z => by have := (u'.2 z).1; omega
          omega
    have l := nle_i l
    rw [l13, e4] at l
    rcases e3 with ⟨y, a⟩ | ⟨y, a, b⟩
    · exact is_107 D H K O O' W F (n := 0) rfl (Nat.zero_le _) (Or.inl ⟨y, a⟩) (bp_e y e)
    replace e := bn_e (by rw [y]; decide) e
    have c4 : x4.toNatClampNeg = n := by have := nc_i (x := x4) (by omega); omega
    have t4 : (x4 + (1 : Int32)).toInt = ((n + 1 : Nat) : Int) := by rw [ta (by rw [z1]; omega), z1, e4]; omega
    have q1 := R1.2.1 n (by omega)
    have q2 := R2.2.1 n (by omega)
    replace e := ce_e R1.1.1 e
    replace e := gg_e e
    replace e := ce_e R2.1.1 e
    replace e := gg_e e
    rcases br_s e with ⟨c, e⟩ | ⟨c, e⟩ <;> rw [c4] at c
    · refine ih t4 (by omega) (Or.inr ⟨rfl, a, fun d hd => ?_⟩) (nx_e e)
      by_cases z : d = n
      · rw [z, ← q1, c, q2]
      · exact b d (by omega)
    · refine ih t4 (by omega) (Or.inl ⟨rfl, fun z => c (Int32.toInt_inj.mp ?_)⟩) (nx_e e)
      rw [q1, q2, z.2.1 n (by omega)]
/-- SAME: the reference -/
theorem is_r (D : VD V) (H : LOk L) (K : LawK L) (O : PzOk L P) (O' : PzOk L Q) (W : SmW V h L P Q) (e : sX15_isSame F h (V 16) (V 13) (vS V 13) = some o) : SmR V h L P Q o := by
  have n0 : (0 : Int32).toNatClampNeg = 0 := rfl
  have n1 : (1 : Int32).toNatClampNeg = 1 := rfl
  have sq := sq_64 H
  have R1 := W.1.2.2.1
  have R2 := W.2.1.2.2.1
  have s1 := R1.2.2.1
  have s2 := R2.2.2.1
  unfold sX15_isSame sX15_isSame_57 sX15_isSame_58 at e
  have go : ∀ {x3 : Int32}, ((x3 = 0 ∧ ¬ SamB P Q) ∨ (x3 = 1 ∧ SamA P Q)) → sX15_isSame_62 F F h (V 16) (V 13) (vS V 13) x3 (0 : Int32) = some o → SmR V h L P Q o := fun {x3} y u => by
    refine is_62 D H K O O' W F (n := 0) rfl (by omega) ?_ u
    rcases y with y | ⟨y, a⟩
    · exact Or.inl y
    · exact Or.inr ⟨y, a, fun s hs => absurd hs (Nat.not_lt_zero _)⟩
  rcases br_s e with ⟨a, e⟩ | ⟨a, e⟩
  rotate_left
  · refine go (Or.inl ⟨rfl, fun z => a (Int32.toInt_inj.mp ?_)⟩) e
    have := z.1.1
    show (hI h (V 13) 1).toInt = (hI h (vS V 13) 1).toInt
    omega
  have a : hI h (V 13) 1 = hI h (vS V 13) 1 := a
  rw [a] at s1
  rcases br_s e with ⟨b, e⟩ | ⟨b, e⟩ <;> rw [lg_eq, j_ext] at b
  rotate_left
  · refine go (Or.inl ⟨rfl, fun z => b (fun q hq => ?_)⟩) e
    rw [R1.2.2.2.1 q hq, R2.2.2.2.1 q hq]
    exact z.1.2.1 q hq
  have rq : ∀ q, q < 64 → pzR P q = pzR Q q := fun q hq => by
    rw [← R1.2.2.2.1 q hq, ← R2.2.2.2.1 q hq]
    exact b q hq
  have k10 := R1.2.2.2.2.2.2.2.1 0 (by decide)
  have k11 := R1.2.2.2.2.2.2.2.1 1 (by decide)
  have k20 := R2.2.2.2.2.2.2.2.1 0 (by decide)
  have k21 := R2.2.2.2.2.2.2.2.1 1 (by decide)
  replace e := ce_e R1.1.2.2.2 e
  replace e := gg_e e
  replace e := ce_e R2.1.2.2.2 e
  replace e := gg_e e
  rcases br_s e with ⟨c, e⟩ | ⟨c, e⟩ <;> rw [n0] at c
  rotate_left
  · refine go (Or.inl ⟨rfl, fun z => c (Int32.toInt_inj.mp ?_)⟩) e
    rw [k10, k20, z.1.2.2 0 (by decide)]
  replace e := ce_e R1.1.2.2.2 e
  replace e := gg_e e
  replace e := ce_e R2.1.2.2.2 e
  replace e := gg_e e
  rcases br_s e with ⟨d, e⟩ | ⟨d, e⟩ <;> rw [n1] at d
  rotate_left
  · refine go (Or.inl ⟨rfl, fun z => d (Int32.toInt_inj.mp ?_)⟩) e
    rw [k11, k21, z.1.2.2 1 (by decide)]
  refine go (Or.inr ⟨rfl, by omega, rq, fun q hq => ?_⟩) e
  by_cases y : q = 0
  · rw [y, ← k10, c, k20]
  · have : q = 1 := by omega
    rw [this, ← k11, d, k21]
end
end
