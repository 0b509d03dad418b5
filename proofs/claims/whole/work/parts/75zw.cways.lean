/-! ways lead to squares of the law alone -/
theorem shl6_63 (b : Int32) : (b <<< ((6 : Int32) &&& 31)) &&& (63 : Int32) = 0 := by
  apply Int32.toBitVec_inj.mp
  apply BitVec.eq_of_getLsbD_eq
  intro i hi
  show ((b.toBitVec <<< 6) &&& 63#32).getLsbD i = (0#32).getLsbD i
  rw [BitVec.getLsbD_and, BitVec.getLsbD_shiftLeft]
  have a : ∀ j : Fin 32, ¬ j.val < 6 → (63#32).getLsbD j.val = false := by decide
  by_cases z : i < 6
  · simp [z]
  · rw [a ⟨i, hi⟩ z]; simp
theorem shl12_63 (b : Int32) : (b <<< ((12 : Int32) &&& 31)) &&& (63 : Int32) = 0 := by
  apply Int32.toBitVec_inj.mp
  apply BitVec.eq_of_getLsbD_eq
  intro i hi
  show ((b.toBitVec <<< 12) &&& 63#32).getLsbD i = (0#32).getLsbD i
  rw [BitVec.getLsbD_and, BitVec.getLsbD_shiftLeft]
  have a : ∀ j : Fin 32, ¬ j.val < 6 → (63#32).getLsbD j.val = false := by decide
  by_cases z : i < 6
  · have : i < 12 := by omega
    simp [this]
  · rw [a ⟨i, hi⟩ z]; simp
theorem way_63 {t f k : Int32} (i : Rg 0 63 t) : (((t ||| (f <<< ((6 : Int32) &&& 31))) ||| (k <<< ((12 : Int32) &&& 31))) &&& (63 : Int32)).toInt = t.toInt := by
  rw [lo_or, lo_or, shl6_63, shl12_63, or_0, or_0, and63_i i.1]
  have := i.1
  have := i.2
  omega
def WyS (x0 a0 a1 : Nat) (n : Int) (C : Nat) (h : Hp) : Prop := 0 ≤ (hI h x0 8).toInt ∧ (∀ w : Nat, (w : Int) < (hI h x0 8).toInt → ((hI h a1 w) &&& (63 : Int32)).toInt < n) ∧ ∀ i : Nat, i < C → (hI h a0 i).toInt ≤ (hI h x0 8).toInt
section
variable {ρ : Nat → Nat} {h o g : Hp} {x0 a0 a1 a3 L F C : Nat} {n : Int}
theorem wy_e (e8 : hI o x0 8 = hI h x0 8) (e0 : ∀ i, hI o a0 i = hI h a0 i) (e1 : ∀ i, hI o a1 i = hI h a1 i) (W : WyS x0 a0 a1 n C h) : WyS x0 a0 a1 n C o := by
  unfold WyS
  rw [e8]
  exact ⟨W.1, fun w hw => by rw [e1]; exact W.2.1 w hw, fun i hi => by rw [e0]; exact W.2.2 i hi⟩
theorem awx_33 {x1 x2 x3 x4 x5 x8 : Int32} (r0 : ρ x0 = 11) (q0 : ρ a0 = 50) (q1 : ρ a1 = 51) (i3 : Rg 0 63 x3) (l3 : x3.toInt < n) : ∀ (f : Nat) {h o : Hp} {x6 : Int64} {x9 : Int32}, WR ρ x0 h → hR h x0 1 = some a1 → (hI h x0 8).toInt < 172032 → WyS x0 a0 a1 n C h → sX10_addWay_33 F f h x0 x1 x2 x3 x4 x5 x6 x8 x9 = some o → WyS x0 a0 a1 n C o := by
  intro f
  induction f with
  | zero => intro h o x6 x9 _ _ _ _ e; exact absurd e (by rw [sX10_addWay_33]; exact fun z => nomatch z)
  | succ f ih =>
    intro h o x6 x9 w e1 l8 W e
    rw [sX10_addWay_33] at e
    unfold sX10_addWay_144 at e
    simp only [nm] at e
    replace e := br_s e
    rcases e with ⟨_, e⟩ | ⟨_, e⟩
    · replace e := cl_s e
      obtain ⟨r2, e2, e⟩ := e
      have y2 : r2 = a1 := r_eq e1 e2
      subst y2
      replace e := (gd_s e).2
      replace e := cl_s e
      obtain ⟨r5, e5, e⟩ := e
      replace e := (gd_s e).2
      replace e := cl_s e
      obtain ⟨r9, e9, e⟩ := e
      replace e := (gd_s (gd_s e).2).2
      have n1 : ¬ x0 = r2 := ne_r' r0 q1 (by decide)
      have n0 : ¬ a0 = r2 := ne_r' q0 q1 (by decide)
      have n2 : ¬ a0 = x0 := ne_r' q0 r0 (by decide)
      have c8 := clamp_i W.1
      have z1 : (1 : Int32).toInt = 1 := rfl
      have key : ∀ {h12 : Hp}, (∀ a i, hI h12 a i = hI (wI (wI h r2 (hI h x0 8).toNatClampNeg ((x3 ||| (x4 <<< ((6 : Int32) &&& 31))) ||| (x5 <<< ((12 : Int32) &&& 31)))) x0 8 ((hI h x0 8) + (1 : Int32))) a i) → WyS x0 a0 r2 n C h12 := fun {h12} E => by
        have k8 : (hI h12 x0 8).toInt = (hI h x0 8).toInt + 1 := by
          rw [E, r_I, if_pos ⟨rfl, rfl⟩, ta (by rw [z1]; omega), z1]
        have k1 : ∀ i, hI h12 r2 i = if i = (hI h x0 8).toNatClampNeg then ((x3 ||| (x4 <<< ((6 : Int32) &&& 31))) ||| (x5 <<< ((12 : Int32) &&& 31))) else hI h r2 i := fun i => by
          rw [E, r_I, if_neg (fun z => n1 z.1.symm), r_I]
          by_cases z : i = (hI h x0 8).toNatClampNeg
          · rw [if_pos ⟨rfl, z⟩, if_pos z]
          · rw [if_neg (fun y => z y.2), if_neg z]
        have k0 : ∀ i, hI h12 a0 i = hI h a0 i := fun i => by
          rw [E, r_I, if_neg (fun z => n2 z.1), r_I, if_neg (fun z => n0 z.1)]
        refine ⟨by rw [k8]; have := W.1; omega, fun w hw => ?_, fun i hi => ?_⟩
        · rw [k1]
          split
          · rw [way_63 i3]; exact l3
          · exact W.2.1 w (by rw [k8] at hw; omega)
        · rw [k0, k8]
          have := W.2.2 i hi
          omega
      have u8 : hI (wJ (wI h r2 (hI h x0 8).toNatClampNeg ((x3 ||| (x4 <<< ((6 : Int32) &&& 31))) ||| (x5 <<< ((12 : Int32) &&& 31)))) r5 (hI (wI h r2 (hI h x0 8).toNatClampNeg ((x3 ||| (x4 <<< ((6 : Int32) &&& 31))) ||| (x5 <<< ((12 : Int32) &&& 31)))) x0 8).toNatClampNeg x6) x0 8 = hI h x0 8 := by
        show hI (wI h r2 _ _) x0 8 = _
        rw [r_I, if_neg (fun z => n1 z.1)]
      rw [u8] at e
      replace e := br_s e
      rcases e with ⟨_, e⟩ | ⟨_, e⟩
      · replace e := cl_s e
        obtain ⟨r14, e14, e⟩ := e
        replace e := (gd_s (gd_s e).2).2
        rw [← Option.some.inj e]
        exact key (fun _ _ => rfl)
      · rw [← Option.some.inj e]
        exact key (fun _ _ => rfl)
    · exact ih w e1 l8 W e
theorem awx_all {x1 x2 x3 x4 x5 : Int32} (r0 : ρ x0 = 11) (q0 : ρ a0 = 50) (q1 : ρ a1 = 51) (i3 : Rg 0 63 x3) (l3 : x3.toInt < n) (w : WR ρ x0 h) (e1 : hR h x0 1 = some a1) (W : WyS x0 a0 a1 n C h) (e : sX10_addWay F h x0 x1 x2 x3 x4 x5 = some o) : WyS x0 a0 a1 n C o := by
  unfold sX10_addWay sX10_addWay_28 at e
  replace e := br_s e
  rcases e with ⟨l, e⟩ | ⟨_, e⟩
  · have l := Int32.lt_iff_toInt_lt.mp l
    have z : (172032 : Int32).toInt = 172032 := rfl
    rw [z] at l
    replace e := br_s e
    rcases e with ⟨_, e⟩ | ⟨_, e⟩
    · exact awx_33 r0 q0 q1 i3 l3 F w e1 l W e
    · exact awx_33 r0 q0 q1 i3 l3 F w e1 l W (gd_s e).2
  · rw [← Option.some.inj e]; exact W
/-- squares on the board -/
def Bo (ρ : Nat → Nat) (L : Nat) (n : Int) (h : Hp) : Prop := ρ L = 2 ∧ Rg 0 8 (hI h L 0) ∧ Rg 0 8 (hI h L 1) ∧ (hI h L 0).toInt * (hI h L 1).toInt = n
theorem bo_k (k : Ks ρ h o) (B : Bo ρ L n h) : Bo ρ L n o := by
  obtain ⟨rL, a, b, c⟩ := B
  unfold Bo
  rw [k.2 L 0 rL, k.2 L 1 rL]
  exact ⟨rL, a, b, c⟩
theorem bo_sq {x13 x14 : Int32} (B : Bo ρ L n h) (f : 0 ≤ x13.toInt ∧ x13.toInt < (hI h L 0).toInt) (r : 0 ≤ x14.toInt ∧ x14.toInt < (hI h L 1).toInt) : Rg 0 63 ((x14 * (hI h L 0)) + x13) ∧ ((x14 * (hI h L 0)) + x13).toInt < n := by
  obtain ⟨_, a, b, c⟩ := B
  have a2 := a.2
  have b2 := b.2
  have m1 : x14.toInt * (hI h L 0).toInt ≤ 7 * 8 := Int.mul_le_mul (by omega) (by omega) (by omega) (by omega)
  have m0 : 0 ≤ x14.toInt * (hI h L 0).toInt := Int.mul_nonneg (by omega) (by omega)
  have m2 : (x14.toInt + 1) * (hI h L 0).toInt ≤ (hI h L 1).toInt * (hI h L 0).toInt := Int.mul_le_mul_of_nonneg_right (by omega) (by omega)
  rw [Int.add_mul, Int.one_mul, Int.mul_comm (hI h L 1).toInt, c] at m2
  have e1 : (x14 * (hI h L 0)).toInt = x14.toInt * (hI h L 0).toInt := tm (by omega)
  have e2 : ((x14 * (hI h L 0)) + x13).toInt = x14.toInt * (hI h L 0).toInt + x13.toInt := by rw [ta (by rw [e1]; omega), e1]
  exact ⟨⟨by omega, by omega⟩, by omega⟩
theorem bts_or {x y : Int64} (P : BtS n x) (Q : BtS n y) : BtS n (x ||| y) := fun s hs hb => by
  rw [bj_or, Bool.or_eq_true] at hb
  exact hb.elim (P s hs) (Q s hs)
theorem bts_one {x : Int32} (i : Rg 0 63 x) (l : x.toInt < n) : BtS n ((1 : Int64) <<< (x.toInt64 &&& 63)) := fun s _ hb => by
  rw [bj_one i, decide_eq_true_eq] at hb
  have := clamp_i i.1
  omega
theorem bts_0 : BtS n (0 : Int64) := fun s _ hb => by rw [bj_zero] at hb; exact absurd hb (by decide)
theorem ridex_l {x2 x3 x9 x10 : Int32} : ∀ (f : Nat) {h : Hp} {o : Int64 × Hp} {x11 : Int64} {x13 x14 x15 : Int32}, WR ρ x0 h → hR h x0 7 = some L → Bo ρ L n h → BtS n x11 → sX10_ride_158 F f h x0 x2 x3 x9 x10 x11 x13 x14 x15 = some o → BtS n o.1 := by
  intro f
  induction f with
  | zero => intro h o x11 x13 x14 x15 _ _ _ _ e; exact absurd e (by rw [sX10_ride_158]; exact fun z => nomatch z)
  | succ f ih =>
    intro h o x11 x13 x14 x15 w e7 B P e
    rw [sX10_ride_158] at e
    unfold sX10_ride_239 at e
    simp only [nm] at e
    replace e := br_s e
    rcases e with ⟨_, e⟩ | ⟨_, e⟩
    · rw [← Option.some.inj e]; exact P
    replace e := cl_s e
    obtain ⟨o2, e2, e⟩ := e
    have q2 := ison_h e2
    replace e := br_s e
    rcases e with ⟨_, e⟩ | ⟨n0, e⟩
    · rw [← Option.some.inj e]; exact P
    have on := ison_post e2 q2 n0 (by rw [q2]; exact e7)
    rw [q2] at e on
    replace e := cl_s e
    obtain ⟨r4, e4, e⟩ := e
    have y4 : r4 = L := r_eq e7 e4
    subst y4
    replace e := cl_s e
    obtain ⟨r6, e6, e⟩ := e
    replace e := (gd_s e).2
    obtain ⟨iv, lv⟩ := bo_sq B on.1 on.2
    have q6 : ρ r6 = 56 := w 6 r6 (by decide) e6
    have k1 : Ks ρ h (wI h r6 (((x14 * (hI h r4 0)) + x13) * (8 : Int32) + x2).toNatClampNeg x15) := ks_I (by rw [q6]; decide)
    exact ih (wr_k k1 w) (by rw [k1.1]; exact e7) (bo_k k1 B) (bts_or P (bts_one iv lv)) e
theorem ridex {x1 x2 x3 x4 x5 : Int32} {o : Int64 × Hp} (w : WR ρ x0 h) (e7 : hR h x0 7 = some L) (B : Bo ρ L n h) (e : sX10_ride F h x0 x1 x2 x3 x4 x5 = some o) : BtS n o.1 := by
  have b124 : ∀ {a b d u v : Int32} {o : Int64 × Hp}, sX10_ride_124 F h x0 a b d u v = some o → BtS n o.1 := fun e => by
    unfold sX10_ride_124 at e
    replace e := cl_s e
    obtain ⟨_, _, e⟩ := e
    replace e := cl_s e
    obtain ⟨_, _, e⟩ := e
    replace e := (gd_s e).2
    replace e := nm_s e
    obtain ⟨_, _, e⟩ := e
    replace e := cl_s e
    obtain ⟨_, _, e⟩ := e
    replace e := cl_s e
    obtain ⟨_, _, e⟩ := e
    replace e := (gd_s e).2
    exact ridex_l F w e7 B bts_0 e
  have b119 : ∀ {a b d u v : Int32} {o : Int64 × Hp}, sX10_ride_119 F h x0 a b d u v = some o → BtS n o.1 := fun e => by
    unfold sX10_ride_119 at e
    exact b124 e
  have b101 : ∀ {a b d p q r u v : Int32} {o : Int64 × Hp}, sX10_ride_101 F h x0 a b d p q r u v = some o → BtS n o.1 := fun e => by
    unfold sX10_ride_101 at e
    replace e := br_s e
    rcases e with ⟨_, e⟩ | ⟨_, e⟩
    · replace e := br_s e
      rcases e with ⟨_, e⟩ | ⟨_, e⟩
      · exact b124 e
      · replace e := br_s e
        rcases e with ⟨_, e⟩ | ⟨_, e⟩
        · exact b119 e
        · exact b124 e
    · exact b119 e
  have b87 : ∀ {a b d p q r u v : Int32} {o : Int64 × Hp}, sX10_ride_87 F h x0 a b d p q r u v = some o → BtS n o.1 := fun e => by
    unfold sX10_ride_87 at e
    replace e := br_s e
    rcases e with ⟨_, e⟩ | ⟨_, e⟩
    · exact b101 e
    · exact b101 e
  have b61 : ∀ {a b d p q r s u v : Int32} {o : Int64 × Hp}, sX10_ride_61 F h x0 a b d p q r s u v = some o → BtS n o.1 := fun e => by
    unfold sX10_ride_61 at e
    replace e := br_s e
    rcases e with ⟨_, e⟩ | ⟨_, e⟩
    · replace e := br_s e
      rcases e with ⟨_, e⟩ | ⟨_, e⟩
      · exact b87 e
      · exact b87 e
    · exact b87 e
  have b35 : ∀ {a b d p q r s u : Int32} {o : Int64 × Hp}, sX10_ride_35 F h x0 a b d p q r s u = some o → BtS n o.1 := fun e => by
    unfold sX10_ride_35 at e
    replace e := br_s e
    rcases e with ⟨_, e⟩ | ⟨_, e⟩
    · replace e := br_s e
      rcases e with ⟨_, e⟩ | ⟨_, e⟩
      · exact b61 e
      · exact b61 e
    · exact b61 e
  unfold sX10_ride at e
  simp only [nm] at e
  replace e := br_s e
  rcases e with ⟨_, e⟩ | ⟨_, e⟩
  · exact b35 e
  · exact b35 e
theorem reachx_in {x1 x2 x3 x6 x7 x10 : Int32} {K : Hp → Nat → Int32 → Int32 → Int32 → Int64 → Int32 → Option (Int64 × Hp)} (R : ∀ {h : Hp} {o : Int64 × Hp} {y : Int64} {v : Int32}, WR ρ x0 h → hR h x0 7 = some L → Bo ρ L n h → BtS n y → K h x0 x1 x2 x3 y v = some o → BtS n o.1) : ∀ (f : Nat) {h : Hp} {o : Int64 × Hp} {x4 : Int64} {x11 : Int32}, WR ρ x0 h → hR h x0 7 = some L → Bo ρ L n h → BtS n x4 → sX10_reach_123 F K f h x0 x1 x2 x3 x4 x6 x7 x10 x11 = some o → BtS n o.1 := by
  intro f
  induction f with
  | zero => intro h o x4 x11 _ _ _ _ e; exact absurd e (by rw [sX10_reach_123]; exact fun z => nomatch z)
  | succ f ih =>
    intro h o x4 x11 w e7 B P e
    rw [sX10_reach_123] at e
    unfold sX10_reach_155 at e
    simp only [nm] at e
    replace e := br_s e
    rcases e with ⟨_, e⟩ | ⟨_, e⟩
    · exact R w e7 B P e
    replace e := cl_s e
    obtain ⟨o2, e2, e⟩ := e
    have k := ride_h w e2
    exact ih (wr_k k.1 w) (by rw [k.1.1]; exact e7) (bo_k k.1 B) (bts_or P (ridex w e7 B e2)) e
theorem reachx_l {x1 x2 x3 : Int32} : ∀ (f : Nat) {h : Hp} {o : Int64 × Hp} {x4 : Int64} {x6 : Int32}, WR ρ x0 h → hR h x0 7 = some L → Bo ρ L n h → BtS n x4 → sX10_reach_10 F f h x0 x1 x2 x3 x4 x6 = some o → BtS n o.1 := by
  intro f
  induction f with
  | zero => intro h o x4 x6 _ _ _ _ e; exact absurd e (by rw [sX10_reach_10]; exact fun z => nomatch z)
  | succ f ih =>
    intro h o x4 x6 w e7 B P e
    rw [sX10_reach_10] at e
    simp only [nm] at e
    replace e := cl_s e
    obtain ⟨_, _, e⟩ := e
    replace e := cl_s e
    obtain ⟨_, _, e⟩ := e
    replace e := (gd_s e).2
    replace e := br_s e
    rcases e with ⟨_, e⟩ | ⟨_, e⟩
    · rw [← Option.some.inj e]; exact P
    replace e := cl_s e
    obtain ⟨_, _, e⟩ := e
    replace e := cl_s e
    obtain ⟨_, _, e⟩ := e
    replace e := (gd_s e).2
    have b88 : ∀ {p q r : Int32} {o : Int64 × Hp}, sX10_reach_88 F (sX10_reach_10 F f) h x0 x1 x2 x3 x4 x6 p q r = some o → BtS n o.1 := fun e => by
      unfold sX10_reach_88 sX10_reach_105 sX10_reach_118 sX10_reach_155 at e
      have gg : ∀ {p q : Int32} {o : Int64 × Hp}, sX10_reach_123 F (sX10_reach_10 F f) F h x0 x1 x2 x3 x4 x6 p q 0 = some o → BtS n o.1 := fun e => reachx_in (fun w e7 B P e => ih w e7 B P e) F w e7 B P e
      replace e := br_s e
      rcases e with ⟨_, e⟩ | ⟨_, e⟩
      · replace e := br_s e
        rcases e with ⟨_, e⟩ | ⟨_, e⟩
        · exact gg e
        · exact gg e
      replace e := br_s e
      rcases e with ⟨_, e⟩ | ⟨_, e⟩
      · replace e := br_s e
        rcases e with ⟨_, e⟩ | ⟨_, e⟩
        · exact gg e
        · exact gg e
      · exact ih w e7 B P e
    replace e := br_s e
    rcases e with ⟨_, e⟩ | ⟨_, e⟩
    · replace e := cl_s e
      obtain ⟨_, _, e⟩ := e
      replace e := cl_s e
      obtain ⟨_, _, e⟩ := e
      exact b88 (gd_s e).2
    · replace e := cl_s e
      obtain ⟨_, _, e⟩ := e
      replace e := cl_s e
      obtain ⟨_, _, e⟩ := e
      replace e := cl_s e
      obtain ⟨_, _, e⟩ := e
      exact b88 (gd_s e).2
end
