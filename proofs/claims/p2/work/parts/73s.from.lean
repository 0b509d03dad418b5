/-! squares that ways come from are told -/
def wk : Nat → Nat
  | 0 => 50 | 1 => 51 | 2 => 52 | 3 => 53 | 4 => 54 | 5 => 55 | 6 => 56 | 7 => 2
  | _ => 0
def WR (ρ : Nat → Nat) (x0 : Nat) (h : Hp) : Prop := ∀ k r, k < 8 → hR h x0 k = some r → ρ r = wk k
/-- references stay, and laws stay -/
def Ks (ρ : Nat → Nat) (h o : Hp) : Prop := (∀ a i, hR o a i = hR h a i) ∧ ∀ a i, ρ a = 2 → hI o a i = hI h a i
def Bt (a3 : Nat) (P : Nat → Prop) (h o : Hp) : Prop := ∀ i s, bitJ (hJ o a3 i) s = true → bitJ (hJ h a3 i) s = true ∨ P s
section
variable {ρ : Nat → Nat} {h o g : Hp} {x0 a3 F : Nat} {P Q : Nat → Prop}
theorem ks_0 : Ks ρ h h := ⟨fun _ _ => rfl, fun _ _ _ => rfl⟩
theorem ks_t (a : Ks ρ h g) (b : Ks ρ g o) : Ks ρ h o := ⟨fun x i => (b.1 x i).trans (a.1 x i), fun x i hx => (b.2 x i hx).trans (a.2 x i hx)⟩
theorem bt_0 : Bt a3 P h h := fun _ _ b => Or.inl b
theorem bt_t (a : Bt a3 P h g) (b : Bt a3 P g o) : Bt a3 P h o := fun i s hb => by
  rcases b i s hb with z | z
  · exact a i s z
  · exact Or.inr z
theorem bt_m (hp : ∀ s, Q s → P s) (a : Bt a3 Q h o) : Bt a3 P h o := fun i s hb => (a i s hb).imp id (hp s)
theorem wr_k (k : Ks ρ h o) (w : WR ρ x0 h) : WR ρ x0 o := fun j r hj e => w j r hj (by rw [k.1] at e; exact e)
theorem ks_I {a i : Nat} {v : Int32} (n : ρ a ≠ 2) : Ks ρ h (wI h a i v) := ⟨fun _ _ => rfl, fun b j hb => by rw [r_I, if_neg (fun z => n (by rw [← z.1]; exact hb))]⟩
theorem ks_J {a i : Nat} {v : Int64} : Ks ρ h (wJ h a i v) := ⟨fun _ _ => rfl, fun _ _ _ => rfl⟩
theorem bt_I {a i : Nat} {v : Int32} : Bt a3 P h (wI h a i v) := fun _ _ b => Or.inl b
theorem bt_J {a i : Nat} {v : Int64} (n : a3 ≠ a) : Bt a3 P h (wJ h a i v) := fun j s b => by
  rw [r_J, if_neg (fun z => n z.1)] at b; exact Or.inl b
theorem aw_33 {x1 x2 x3 x4 x5 x8 : Int32} (r0 : ρ x0 = 11) (i2 : Rg 0 63 x2) : ∀ (f : Nat) {h o : Hp} {x6 : Int64} {x9 : Int32}, WR ρ x0 h → hR h x0 3 = some a3 → sX10_addWay_33 F f h x0 x1 x2 x3 x4 x5 x6 x8 x9 = some o → Ks ρ h o ∧ Bt a3 (fun s => s = x2.toNatClampNeg) h o := by
  intro f
  induction f with
  | zero => intro h o x6 x9 _ _ e; exact absurd e (by rw [sX10_addWay_33]; exact fun z => nomatch z)
  | succ f ih =>
    intro h o x6 x9 w e3 e
    rw [sX10_addWay_33] at e
    rcases br_s e with ⟨_, e⟩ | ⟨_, e⟩
    · obtain ⟨r2, e2, e⟩ := cl_s e
      replace e := (gd_s e).2
      obtain ⟨r5, e5, e⟩ := cl_s e
      replace e := (gd_s e).2
      obtain ⟨r9, e9, e⟩ := cl_s e
      replace e := (gd_s (gd_s e).2).2
      have q2 : ρ r2 = 51 := w 1 r2 (by decide) e2
      have q5 : ρ r5 = 52 := w 2 r5 (by decide) e5
      have q9 : r9 = a3 := r_eq e3 e9
      have q3 : ρ a3 = 53 := w 3 a3 (by decide) e3
      subst q9
      have n5 : r9 ≠ r5 := fun z => by rw [z, q5] at q3; exact absurd q3 (by decide)
      have stp : ∀ {h' : Hp} {k : Nat}, Bt r9 (fun s => s = x2.toNatClampNeg) h' (wJ h' r9 k (hJ h' r9 k ||| ((1 : Int64) <<< (x2.toInt64 &&& 63)))) := fun {h' k} j s b => by
        rw [r_J] at b
        by_cases z : j = k
        · rw [if_pos ⟨rfl, z⟩, bj_or, bj_one i2, Bool.or_eq_true, decide_eq_true_eq] at b
          rw [z]
          exact b.imp id (fun y => y.symm)
        · rw [if_neg (fun y => z y.2)] at b; exact Or.inl b
      have base : ∀ {h4 h7 h8 h12 : Hp} {v2 : Int32} {v5 : Int64} {v8 : Int32} {k2 k5 k9 : Nat}, h4 = wI h r2 k2 v2 → h7 = wJ h4 r5 k5 v5 → h8 = wI h7 x0 8 v8 → h12 = wJ h8 r9 k9 (hJ h8 r9 k9 ||| ((1 : Int64) <<< (x2.toInt64 &&& 63))) → Ks ρ h h12 ∧ Bt r9 (fun s => s = x2.toNatClampNeg) h h12 := fun a1 a2 a3 a4 => by
        subst a1; subst a2; subst a3; subst a4
        exact ⟨ks_t (ks_t (ks_t (ks_I (by rw [q2]; decide)) ks_J) (ks_I (by rw [r0]; decide))) ks_J, bt_t (bt_t (bt_t bt_I (bt_J n5)) bt_I) stp⟩
      rcases br_s e with ⟨_, e⟩ | ⟨_, e⟩
      · obtain ⟨r14, e14, e⟩ := cl_s e
        replace e := (gd_s (gd_s e).2).2
        have q14 : ρ r14 = 54 := w 4 r14 (by decide) e14
        have n14 : r9 ≠ r14 := fun z => by rw [z, q14] at q3; exact absurd q3 (by decide)
        rw [← Option.some.inj e]
        refine ⟨ks_t ?_ ks_J, bt_t ?_ (bt_J n14)⟩
        · exact And.left (base rfl rfl rfl rfl)
        · exact And.right (base rfl rfl rfl rfl)
      · rw [← Option.some.inj e]
        exact base rfl rfl rfl rfl
    · exact ih w e3 e
theorem aw_all {x1 x2 x3 x4 x5 : Int32} {h o : Hp} (r0 : ρ x0 = 11) (i2 : Rg 0 63 x2) (w : WR ρ x0 h) (e3 : hR h x0 3 = some a3) (e : sX10_addWay F h x0 x1 x2 x3 x4 x5 = some o) : Ks ρ h o ∧ Bt a3 (fun s => s = x2.toNatClampNeg) h o := by
  unfold sX10_addWay sX10_addWay_28 at e
  rcases br_s e with ⟨_, e⟩ | ⟨_, e⟩
  · rcases br_s e with ⟨_, e⟩ | ⟨_, e⟩
    · exact aw_33 r0 i2 F w e3 e
    · exact aw_33 r0 i2 F w e3 (gd_s e).2
  · rw [← Option.some.inj e]; exact ⟨ks_0, bt_0⟩
/-- what only writes ints, not into laws -/
def Ki (ρ : Nat → Nat) (h o : Hp) : Prop := Ks ρ h o ∧ ∀ a i, hJ o a i = hJ h a i
theorem ki_0 : Ki ρ h h := ⟨ks_0, fun _ _ => rfl⟩
theorem ki_t (a : Ki ρ h g) (b : Ki ρ g o) : Ki ρ h o := ⟨ks_t a.1 b.1, fun x i => (b.2 x i).trans (a.2 x i)⟩
theorem ki_I {a i : Nat} {v : Int32} (n : ρ a ≠ 2) : Ki ρ h (wI h a i v) := ⟨ks_I n, fun _ _ => rfl⟩
theorem ki_b (k : Ki ρ h o) : Bt a3 P h o := fun i s b => Or.inl (by rw [k.2] at b; exact b)
theorem ison_h {x1 x2 : Int32} {o : Int32 × Hp} (e : sX10_isOn h x0 x1 x2 = some o) : o.2 = h := by
  unfold sX10_isOn sX10_isOn_34 sX10_isOn_35 at e
  rcases br_s e with ⟨_, e⟩ | ⟨_, e⟩
  · rw [← Option.some.inj (gd_s e).2]
  obtain ⟨_, _, e⟩ := cl_s e
  rcases br_s e with ⟨_, e⟩ | ⟨_, e⟩
  · rw [← Option.some.inj (gd_s e).2]
  rcases br_s e with ⟨_, e⟩ | ⟨_, e⟩
  · rw [← Option.some.inj (gd_s e).2]
  obtain ⟨_, _, e⟩ := cl_s e
  rcases br_s e with ⟨_, e⟩ | ⟨_, e⟩
  · rw [← Option.some.inj (gd_s e).2]
  · rw [← Option.some.inj (gd_s e).2]
theorem ride_l {x2 x3 x9 x10 : Int32} : ∀ (f : Nat) {h : Hp} {o : Int64 × Hp} {x11 : Int64} {x13 x14 x15 : Int32}, WR ρ x0 h → sX10_ride_158 F f h x0 x2 x3 x9 x10 x11 x13 x14 x15 = some o → Ki ρ h o.2 := by
  intro f
  induction f with
  | zero => intro h o x11 x13 x14 x15 _ e; exact absurd e (by rw [sX10_ride_158]; exact fun z => nomatch z)
  | succ f ih =>
    intro h o x11 x13 x14 x15 w e
    rw [sX10_ride_158] at e
    unfold sX10_ride_239 at e
    rcases br_s e with ⟨_, e⟩ | ⟨_, e⟩
    · rw [← Option.some.inj e]; exact ki_0
    obtain ⟨o2, e2, e⟩ := cl_s e
    have q2 := ison_h e2
    rcases br_s e with ⟨_, e⟩ | ⟨_, e⟩
    · rw [← Option.some.inj e]; show Ki ρ h o2.2; rw [q2]; exact ki_0
    obtain ⟨r4, e4, e⟩ := cl_s e
    obtain ⟨r6, e6, e⟩ := cl_s e
    replace e := (gd_s e).2
    have q6 : ρ r6 = 56 := w 6 r6 (by decide) (by rw [q2] at e6; exact e6)
    have k1 : Ki ρ h (wI o2.2 r6 (((x14 * (hI o2.2 r4 0)) + x13) * (8 : Int32) + x2).toNatClampNeg x15) := by rw [q2]; exact ki_I (by rw [q6]; decide)
    exact ki_t k1 (ih (wr_k k1.1 w) e)
theorem ride_h {x1 x2 x3 x4 x5 : Int32} {o : Int64 × Hp} (w : WR ρ x0 h) (e : sX10_ride F h x0 x1 x2 x3 x4 x5 = some o) : Ki ρ h o.2 := by
  have b124 : ∀ {a b d u v : Int32} {o : Int64 × Hp}, sX10_ride_124 F h x0 a b d u v = some o → Ki ρ h o.2 := fun e => by
    unfold sX10_ride_124 at e
    obtain ⟨_, _, e⟩ := cl_s e
    obtain ⟨_, _, e⟩ := cl_s e
    replace e := (gd_s e).2
    obtain ⟨_, _, e⟩ := cl_s e
    obtain ⟨_, _, e⟩ := cl_s e
    replace e := (gd_s e).2
    exact ride_l F w e
  have b119 : ∀ {a b d u v : Int32} {o : Int64 × Hp}, sX10_ride_119 F h x0 a b d u v = some o → Ki ρ h o.2 := fun e => by
    unfold sX10_ride_119 at e
    exact b124 e
  have b101 : ∀ {a b d p q r u v : Int32} {o : Int64 × Hp}, sX10_ride_101 F h x0 a b d p q r u v = some o → Ki ρ h o.2 := fun e => by
    unfold sX10_ride_101 at e
    rcases br_s e with ⟨_, e⟩ | ⟨_, e⟩
    · rcases br_s e with ⟨_, e⟩ | ⟨_, e⟩
      · exact b124 e
      · rcases br_s e with ⟨_, e⟩ | ⟨_, e⟩
        · exact b119 e
        · exact b124 e
    · exact b119 e
  have b87 : ∀ {a b d p q r u v : Int32} {o : Int64 × Hp}, sX10_ride_87 F h x0 a b d p q r u v = some o → Ki ρ h o.2 := fun e => by
    unfold sX10_ride_87 at e
    rcases br_s e with ⟨_, e⟩ | ⟨_, e⟩
    · exact b101 e
    · exact b101 e
  have b61 : ∀ {a b d p q r s u v : Int32} {o : Int64 × Hp}, sX10_ride_61 F h x0 a b d p q r s u v = some o → Ki ρ h o.2 := fun e => by
    unfold sX10_ride_61 at e
    rcases br_s e with ⟨_, e⟩ | ⟨_, e⟩
    · rcases br_s e with ⟨_, e⟩ | ⟨_, e⟩
      · exact b87 e
      · exact b87 e
    · exact b87 e
  have b35 : ∀ {a b d p q r s u : Int32} {o : Int64 × Hp}, sX10_ride_35 F h x0 a b d p q r s u = some o → Ki ρ h o.2 := fun e => by
    unfold sX10_ride_35 at e
    rcases br_s e with ⟨_, e⟩ | ⟨_, e⟩
    · rcases br_s e with ⟨_, e⟩ | ⟨_, e⟩
      · exact b61 e
      · exact b61 e
    · exact b61 e
  unfold sX10_ride at e
  rcases br_s e with ⟨_, e⟩ | ⟨_, e⟩
  · exact b35 e
  · exact b35 e
theorem reach_in {x1 x2 x3 x6 x7 x10 : Int32} {K : Hp → Nat → Int32 → Int32 → Int32 → Int64 → Int32 → Option (Int64 × Hp)} (R : ∀ {h : Hp} {o : Int64 × Hp} {y : Int64} {v : Int32}, WR ρ x0 h → K h x0 x1 x2 x3 y v = some o → Ki ρ h o.2) : ∀ (f : Nat) {h : Hp} {o : Int64 × Hp} {x4 : Int64} {x11 : Int32}, WR ρ x0 h → sX10_reach_123 F K f h x0 x1 x2 x3 x4 x6 x7 x10 x11 = some o → Ki ρ h o.2 := by
  intro f
  induction f with
  | zero => intro h o x4 x11 _ e; exact absurd e (by rw [sX10_reach_123]; exact fun z => nomatch z)
  | succ f ih =>
    intro h o x4 x11 w e
    rw [sX10_reach_123] at e
    unfold sX10_reach_155 at e
    rcases br_s e with ⟨_, e⟩ | ⟨_, e⟩
    · exact R w e
    obtain ⟨o2, e2, e⟩ := cl_s e
    have k := ride_h w e2
    exact ki_t k (ih (wr_k k.1 w) e)
theorem reach_l {x1 x2 x3 : Int32} : ∀ (f : Nat) {h : Hp} {o : Int64 × Hp} {x4 : Int64} {x6 : Int32}, WR ρ x0 h → sX10_reach_10 F f h x0 x1 x2 x3 x4 x6 = some o → Ki ρ h o.2 := by
  intro f
  induction f with
  | zero => intro h o x4 x6 _ e; exact absurd e (by rw [sX10_reach_10]; exact fun z => nomatch z)
  | succ f ih =>
    intro h o x4 x6 w e
    rw [sX10_reach_10] at e
    obtain ⟨_, _, e⟩ := cl_s e
    obtain ⟨_, _, e⟩ := cl_s e
    replace e := (gd_s e).2
    rcases br_s e with ⟨_, e⟩ | ⟨_, e⟩
    · rw [← Option.some.inj e]; exact ki_0
    obtain ⟨_, _, e⟩ := cl_s e
    obtain ⟨_, _, e⟩ := cl_s e
    replace e := (gd_s e).2
    have b88 : ∀ {p q r : Int32} {o : Int64 × Hp}, sX10_reach_88 F (sX10_reach_10 F f) h x0 x1 x2 x3 x4 x6 p q r = some o → Ki ρ h o.2 := fun e => by
      unfold sX10_reach_88 sX10_reach_105 sX10_reach_118 sX10_reach_155 at e
      have gg : ∀ {p q : Int32} {o : Int64 × Hp}, sX10_reach_123 F (sX10_reach_10 F f) F h x0 x1 x2 x3 x4 x6 p q 0 = some o → Ki ρ h o.2 := fun e => reach_in (fun w e => ih w e) F w e
      rcases br_s e with ⟨_, e⟩ | ⟨_, e⟩
      · rcases br_s e with ⟨_, e⟩ | ⟨_, e⟩
        · exact gg e
        · exact gg e
      rcases br_s e with ⟨_, e⟩ | ⟨_, e⟩
      · rcases br_s e with ⟨_, e⟩ | ⟨_, e⟩
        · exact gg e
        · exact gg e
      · exact ih w e
    rcases br_s e with ⟨_, e⟩ | ⟨_, e⟩
    · obtain ⟨_, _, e⟩ := cl_s e
      obtain ⟨_, _, e⟩ := cl_s e
      exact b88 (gd_s e).2
    · obtain ⟨_, _, e⟩ := cl_s e
      obtain ⟨_, _, e⟩ := cl_s e
      obtain ⟨_, _, e⟩ := cl_s e
      exact b88 (gd_s e).2
theorem lf_in {x1 x2 x5 x6 : Int32} {x3 : Int64} {K : Hp → Nat → Int32 → Int32 → Int64 → Int32 → Int32 → Option Hp} (r0 : ρ x0 = 11) (i2 : Rg 0 63 x2) (R : ∀ {h o : Hp} {v : Int32}, WR ρ x0 h → hR h x0 3 = some a3 → K h x0 x1 x2 x3 x5 v = some o → Ks ρ h o ∧ Bt a3 (fun s => s = x2.toNatClampNeg) h o) : ∀ (f : Nat) {h o : Hp} {x7 : Int32}, WR ρ x0 h → hR h x0 3 = some a3 → sX10_layFrom_70 F K f h x0 x1 x2 x3 x5 x6 x7 = some o → Ks ρ h o ∧ Bt a3 (fun s => s = x2.toNatClampNeg) h o := by
  intro f
  induction f with
  | zero => intro h o x7 _ _ e; exact absurd e (by rw [sX10_layFrom_70]; exact fun z => nomatch z)
  | succ f ih =>
    intro h o x7 w e3 e
    rw [sX10_layFrom_70] at e
    unfold sX10_layFrom_154 sX10_layFrom_148 at e
    obtain ⟨_, _, e⟩ := cl_s e
    obtain ⟨_, _, e⟩ := cl_s e
    replace e := (gd_s e).2
    rcases br_s e with ⟨_, e⟩ | ⟨_, e⟩
    · exact R w e3 e
    obtain ⟨r5, e5, e⟩ := cl_s e
    replace e := (gd_s e).2
    rcases br_s e with ⟨_, e⟩ | ⟨_, e⟩
    · exact ih w e3 e
    obtain ⟨_, _, e⟩ := cl_s e
    obtain ⟨_, _, e⟩ := cl_s e
    replace e := (gd_s e).2
    obtain ⟨o12, e12, e⟩ := cl_s e
    obtain ⟨k1, b1⟩ := aw_all r0 i2 w e3 e12
    obtain ⟨r13, e13, e⟩ := cl_s e
    replace e := (gd_s e).2
    have q13 : ρ r13 = 56 := w 6 r13 (by decide) (by rw [k1.1] at e13; exact e13)
    have k2 : Ks ρ o12 (wI o12 r13 ((x6 * (8 : Int32)) + x7).toNatClampNeg (0 : Int32)) := ks_I (by rw [q13]; decide)
    have kk := ks_t k1 k2
    obtain ⟨k3, b3⟩ := ih (wr_k kk w) (by rw [kk.1]; exact e3) e
    exact ⟨ks_t kk k3, bt_t (bt_t b1 bt_I) b3⟩
theorem lf_30 {x1 x2 x5 : Int32} {x3 : Int64} (r0 : ρ x0 = 11) (i2 : Rg 0 63 x2) : ∀ (f : Nat) {h o : Hp} {x6 : Int32}, WR ρ x0 h → hR h x0 3 = some a3 → sX10_layFrom_30 F f h x0 x1 x2 x3 x5 x6 = some o → Ks ρ h o ∧ Bt a3 (fun s => s = x2.toNatClampNeg) h o := by
  intro f
  induction f with
  | zero => intro h o x6 _ _ e; exact absurd e (by rw [sX10_layFrom_30]; exact fun z => nomatch z)
  | succ f ih =>
    intro h o x6 w e3 e
    rw [sX10_layFrom_30] at e
    unfold sX10_layFrom_154 sX10_cell at e
    rcases br_s e with ⟨_, e⟩ | ⟨_, e⟩
    · rw [← Option.some.inj e]; exact ⟨ks_0, bt_0⟩
    obtain ⟨r2, e2, e⟩ := cl_s e
    obtain ⟨o3, eo, e⟩ := cl_s e
    have q3 : o3.2 = h := by rw [← Option.some.inj eo]
    replace e := (gd_s e).2
    have q2 : ρ r2 = 50 := w 0 r2 (by decide) e2
    have k1 : Ks ρ h (wI o3.2 r2 o3.1.toNatClampNeg (hI o3.2 x0 8)) := by rw [q3]; exact ks_I (by rw [q2]; decide)
    have b1 : Bt a3 (fun s => s = x2.toNatClampNeg) h (wI o3.2 r2 o3.1.toNatClampNeg (hI o3.2 x0 8)) := by rw [q3]; exact bt_I
    have w1 := wr_k k1 w
    have e31 : hR (wI o3.2 r2 o3.1.toNatClampNeg (hI o3.2 x0 8)) x0 3 = some a3 := by rw [k1.1]; exact e3
    rcases br_s e with ⟨_, e⟩ | ⟨_, e⟩
    · obtain ⟨k2, b2⟩ := ih w1 e31 e
      exact ⟨ks_t k1 k2, bt_t b1 b2⟩
    · obtain ⟨k2, b2⟩ := lf_in r0 i2 (fun w e3 e => ih w e3 e) F w1 e31 e
      exact ⟨ks_t k1 k2, bt_t b1 b2⟩
/-- with no square to come to nothing is added -/
theorem lf_30z {x1 x2 x5 : Int32} : ∀ (f : Nat) {h o : Hp} {x6 : Int32}, WR ρ x0 h → sX10_layFrom_30 F f h x0 x1 x2 (0 : Int64) x5 x6 = some o → Ki ρ h o := by
  intro f
  induction f with
  | zero => intro h o x6 _ e; exact absurd e (by rw [sX10_layFrom_30]; exact fun z => nomatch z)
  | succ f ih =>
    intro h o x6 w e
    rw [sX10_layFrom_30] at e
    unfold sX10_layFrom_154 sX10_cell at e
    rcases br_s e with ⟨_, e⟩ | ⟨_, e⟩
    · rw [← Option.some.inj e]; exact ki_0
    obtain ⟨r2, e2, e⟩ := cl_s e
    obtain ⟨o3, eo, e⟩ := cl_s e
    have q3 : o3.2 = h := by rw [← Option.some.inj eo]
    replace e := (gd_s e).2
    have q2 : ρ r2 = 50 := w 0 r2 (by decide) e2
    have k1 : Ki ρ h (wI o3.2 r2 o3.1.toNatClampNeg (hI o3.2 x0 8)) := by rw [q3]; exact ki_I (by rw [q2]; decide)
    rcases br_s e with ⟨_, e⟩ | ⟨n, e⟩
    · exact ki_t k1 (ih (wr_k k1.1 w) e)
    · exfalso
      apply n
      have z : (((0 : Int64).toUInt64 >>> (x6.toInt64.toUInt64 &&& Int64.toUInt64 63)).toInt64 &&& (1 : Int64)) = 0 := by
        have a : (0 : Int64).toUInt64 = 0 := rfl
        rw [a, UInt64.zero_shiftRight]
        decide
      rw [z]; rfl
/-- ways of one man from one square -/
theorem lf_all {x1 x2 : Int32} {h o : Hp} (r0 : ρ x0 = 11) (i2 : Rg 0 63 x2) (w : WR ρ x0 h) (e3 : hR h x0 3 = some a3) (e : sX10_layFrom F h x0 x1 x2 = some o) : Ks ρ h o ∧ Bt a3 (fun s => s = x2.toNatClampNeg ∧ ∀ L, hR h x0 7 = some L → x2.toInt < (hI h L 2).toInt) h o := by
  unfold sX10_layFrom sX10_layFrom_21 at e
  obtain ⟨L, eL, e⟩ := cl_s e
  rcases br_s e with ⟨_, e⟩ | ⟨n, e⟩
  · have k := lf_30z F w e
    exact ⟨k.1, ki_b k⟩
  · obtain ⟨o3, eo, e⟩ := cl_s e
    have k := reach_l F w eo
    obtain ⟨k2, b2⟩ := lf_30 r0 i2 F (wr_k k.1 w) (by rw [k.1.1]; exact e3) e
    refine ⟨ks_t k.1 k2, bt_t (ki_b k) (bt_m (fun s hs => ⟨hs, fun L' eL' => ?_⟩) b2)⟩
    rw [r_eq eL eL']
    exact nle_i n
end
