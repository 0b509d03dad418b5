section
/-! squares that ways come from are told -/
def wk : Nat → Nat
  | 0 => 50 | 1 => 51 | 2 => 52 | 3 => 53 | 4 => 54 | 5 => 55 | 6 => 56 | 7 => 2
  | _ => 0
def WR (ρ : Nat → Nat) (x0 : Nat) (h : Hp) : Prop := ∀ k r, k < 8 → hR h x0 k = some r → ρ r = wk k
/-- references stay, and laws stay -/
def Ks (ρ : Nat → Nat) (h o : Hp) : Prop := (∀ a i, hR o a i = hR h a i) ∧ ∀ a i, ρ a = 2 → hI o a i = hI h a i
def Bt (a3 : Nat) (P : Nat → Prop) (h o : Hp) : Prop := ∀ i s, bitJ (hJ o a3 i) s = true → bitJ (hJ h a3 i) s = true ∨ P s
section
variable {ρ : Nat → Nat} {h o g : Hp} {x0 a3 F : Nat} {P Q : Nat → Prop}
theorem ks_0 : Ks ρ h h := ⟨fun _ _ => rfl, fun _ _ _ => rfl⟩
theorem ks_t (a : Ks ρ h g) (b : Ks ρ g o) : Ks ρ h o := ⟨fun x i => (b.1 x i).trans (a.1 x i), fun x i hx => (b.2 x i hx).trans (a.2 x i hx)⟩
theorem bt_0 : Bt a3 P h h := fun _ _ b => Or.inl b
theorem bt_t (a : Bt a3 P h g) (b : Bt a3 P g o) : Bt a3 P h o := fun i s hb => by
  rcases b i s hb with z | z
  · exact a i s z
  · exact Or.inr z
theorem bt_m (hp : ∀ s, Q s → P s) (a : Bt a3 Q h o) : Bt a3 P h o := fun i s hb => (a i s hb).imp id (hp s)
theorem wr_k (k : Ks ρ h o) (w : WR ρ x0 h) : WR ρ x0 o := fun j r hj e => w j r hj (by rw [k.1] at e; exact e)
theorem ks_I {a i : Nat} {v : Int32} (n : ρ a ≠ 2) : Ks ρ h (wI h a i v) := ⟨fun _ _ => rfl, fun b j hb => by rw [r_I, if_neg (fun z => n (by rw [← z.1]; exact hb))]⟩
theorem ks_J {a i : Nat} {v : Int64} : Ks ρ h (wJ h a i v) := ⟨fun _ _ => rfl, fun _ _ _ => rfl⟩
theorem bt_I {a i : Nat} {v : Int32} : Bt a3 P h (wI h a i v) := fun _ _ b => Or.inl b
theorem bt_J {a i : Nat} {v : Int64} (n : a3 ≠ a) : Bt a3 P h (wJ h a i v) := fun j s b => by
  rw [r_J, if_neg (fun z => n z.1)] at b; exact Or.inl b
theorem aw_33 {x1 x2 x3 x4 x5 x8 : Int32} (r0 : ρ x0 = 11) (i2 : Rg 0 63 x2) : ∀ (f : Nat) {h o : Hp} {x6 : Int64} {x9 : Int32}, WR ρ x0 h → hR h x0 3 = some a3 → sX10_addWay_33 F f h x0 x1 x2 x3 x4 x5 x6 x8 x9 = some o → Ks ρ h o ∧ Bt a3 (fun s => s = x2.toNatClampNeg) h o := by
  intro f
  induction f with
  | zero => intro h o x6 x9 _ _ e; exact absurd e (by rw [sX10_addWay_33]; exact fun z => nomatch z)
  | succ f ih =>
    intro h o x6 x9 w e3 e
    rw [sX10_addWay_33] at e
    rcases br_s e with ⟨_, e⟩ | ⟨_, e⟩
    · obtain ⟨r2, e2, e⟩ := cl_s e
      replace e := (gd_s e).2
      obtain ⟨r5, e5, e⟩ := cl_s e
      replace e := (gd_s e).2
      obtain ⟨r9, e9, e⟩ := cl_s e
      replace e := (gd_s (gd_s e).2).2
      have q2 : ρ r2 = 51 := w 1 r2 (by decide) e2
      have q5 : ρ r5 = 52 := w 2 r5 (by decide) e5
      have q9 : r9 = a3 := r_eq e3 e9
      have q3 : ρ a3 = 53 := w 3 a3 (by decide) e3
      subst q9
      have n5 : r9 ≠ r5 := fun z => by rw [z, q5] at q3; exact absurd q3 (by decide)
      have stp : ∀ {h' : Hp} {k : Nat}, Bt r9 (fun s => s = x2.toNatClampNeg) h' (wJ h' r9 k (hJ h' r9 k ||| ((1 : Int64) <<< (x2.toInt64 &&& 63)))) := fun {h' k} j s b => by
        rw [r_J] at b
        by_cases z : j = k
        · rw [if_pos ⟨rfl, z⟩, bj_or, bj_one i2, Bool.or_eq_true, decide_eq_true_eq] at b
          rw [z]
          exact b.imp id (fun y => y.symm)
        · rw [if_neg (fun y => z y.2)] at b; exact Or.inl b
      have base : ∀ {h4 h7 h8 h12 : Hp} {v2 : Int32} {v5 : Int64} {v8 : Int32} {k2 k5 k9 : Nat}, h4 = wI h r2 k2 v2 → h7 = wJ h4 r5 k5 v5 → h8 = wI h7 x0 8 v8 → h12 = wJ h8 r9 k9 (hJ h8 r9 k9 ||| ((1 : Int64) <<< (x2.toInt64 &&& 63))) → Ks ρ h h12 ∧ Bt r9 (fun s => s = x2.toNatClampNeg) h h12 := fun a1 a2 a3 a4 => by
        subst a1; subst a2; subst a3; subst a4
        exact ⟨ks_t (ks_t (ks_t (ks_I (by rw [q2]; decide)) ks_J) (ks_I (by rw [r0]; decide))) ks_J, bt_t (bt_t (bt_t bt_I (bt_J n5)) bt_I) stp⟩
      rcases br_s e with ⟨_, e⟩ | ⟨_, e⟩
      · obtain ⟨r14, e14, e⟩ := cl_s e
        replace e := (gd_s (gd_s e).2).2
        have q14 : ρ r14 = 54 := w 4 r14 (by decide) e14
        have n14 : r9 ≠ r14 := fun z => by rw [z, q14] at q3; exact absurd q3 (by decide)
        rw [← Option.some.inj e]
        refine ⟨ks_t ?_ ks_J, bt_t ?_ (bt_J n14)⟩
        · exact And.left (base rfl rfl rfl rfl)
        · exact And.right (base rfl rfl rfl rfl)
      · rw [← Option.some.inj e]
        exact base rfl rfl rfl rfl
    · exact ih w e3 e
theorem aw_all {x1 x2 x3 x4 x5 : Int32} {h o : Hp} (r0 : ρ x0 = 11) (i2 : Rg 0 63 x2) (w : WR ρ x0 h) (e3 : hR h x0 3 = some a3) (e : sX10_addWay F h x0 x1 x2 x3 x4 x5 = some o) : Ks ρ h o ∧ Bt a3 (fun s => s = x2.toNatClampNeg) h o := by
  unfold sX10_addWay sX10_addWay_28 at e
  rcases br_s e with ⟨_, e⟩ | ⟨_, e⟩
  · rcases br_s e with ⟨_, e⟩ | ⟨_, e⟩
    · exact aw_33 r0 i2 F w e3 e
    · exact aw_33 r0 i2 F w e3 (gd_s e).2
  · rw [← Option.some.inj e]; exact ⟨ks_0, bt_0⟩
/-- what only writes ints, not into laws -/
def Ki (ρ : Nat → Nat) (h o : Hp) : Prop := Ks ρ h o ∧ ∀ a i, hJ o a i = hJ h a i
theorem ki_0 : Ki ρ h h := ⟨ks_0, fun _ _ => rfl⟩
theorem ki_t (a : Ki ρ h g) (b : Ki ρ g o) : Ki ρ h o := ⟨ks_t a.1 b.1, fun x i => (b.2 x i).trans (a.2 x i)⟩
theorem ki_I {a i : Nat} {v : Int32} (n : ρ a ≠ 2) : Ki ρ h (wI h a i v) := ⟨ks_I n, fun _ _ => rfl⟩
theorem ki_b (k : Ki ρ h o) : Bt a3 P h o := fun i s b => Or.inl (by rw [k.2] at b; exact b)
theorem ison_h {x1 x2 : Int32} {o : Int32 × Hp} (e : sX10_isOn h x0 x1 x2 = some o) : o.2 = h := by
  unfold sX10_isOn sX10_isOn_34 sX10_isOn_35 at e
  rcases br_s e with ⟨_, e⟩ | ⟨_, e⟩
  · rw [← Option.some.inj (gd_s e).2]
  obtain ⟨_, _, e⟩ := cl_s e
  rcases br_s e with ⟨_, e⟩ | ⟨_, e⟩
  · rw [← Option.some.inj (gd_s e).2]
  rcases br_s e with ⟨_, e⟩ | ⟨_, e⟩
  · rw [← Option.some.inj (gd_s e).2]
  obtain ⟨_, _, e⟩ := cl_s e
  rcases br_s e with ⟨_, e⟩ | ⟨_, e⟩
  · rw [← Option.some.inj (gd_s e).2]
  · rw [← Option.some.inj (gd_s e).2]
theorem ride_l {x2 x3 x9 x10 : Int32} : ∀ (f : Nat) {h : Hp} {o : Int64 × Hp} {x11 : Int64} {x13 x14 x15 : Int32}, WR ρ x0 h → sX10_ride_158 F f h x0 x2 x3 x9 x10 x11 x13 x14 x15 = some o → Ki ρ h o.2 := by
  intro f
  induction f with
  | zero => intro h o x11 x13 x14 x15 _ e; exact absurd e (by rw [sX10_ride_158]; exact fun z => nomatch z)
  | succ f ih =>
    intro h o x11 x13 x14 x15 w e
    rw [sX10_ride_158] at e
    unfold sX10_ride_239 at e
    rcases br_s e with ⟨_, e⟩ | ⟨_, e⟩
    · rw [← Option.some.inj e]; exact ki_0
    obtain ⟨o2, e2, e⟩ := cl_s e
    have q2 := ison_h e2
    rcases br_s e with ⟨_, e⟩ | ⟨_, e⟩
    · rw [← Option.some.inj e]; show Ki ρ h o2.2; rw [q2]; exact ki_0
    obtain ⟨r4, e4, e⟩ := cl_s e
    obtain ⟨r6, e6, e⟩ := cl_s e
    replace e := (gd_s e).2
    have q6 : ρ r6 = 56 := w 6 r6 (by decide) (by rw [q2] at e6; exact e6)
    have k1 : Ki ρ h (wI o2.2 r6 (((x14 * (hI o2.2 r4 0)) + x13) * (8 : Int32) + x2).toNatClampNeg x15) := by rw [q2]; exact ki_I (by rw [q6]; decide)
    exact ki_t k1 (ih (wr_k k1.1 w) e)
theorem ride_h {x1 x2 x3 x4 x5 : Int32} {o : Int64 × Hp} (w : WR ρ x0 h) (e : sX10_ride F h x0 x1 x2 x3 x4 x5 = some o) : Ki ρ h o.2 := by
  have b124 : ∀ {a b d u v : Int32} {o : Int64 × Hp}, sX10_ride_124 F h x0 a b d u v = some o → Ki ρ h o.2 := fun e => by
    unfold sX10_ride_124 at e
    obtain ⟨_, _, e⟩ := cl_s e
    obtain ⟨_, _, e⟩ := cl_s e
    replace e := (gd_s e).2
    obtain ⟨_, _, e⟩ := cl_s e
    obtain ⟨_, _, e⟩ := cl_s e
    replace e := (gd_s e).2
    exact ride_l F w e
  have b119 : ∀ {a b d u v : Int32} {o : Int64 × Hp}, sX10_ride_119 F h x0 a b d u v = some o → Ki ρ h o.2 := fun e => by
    unfold sX10_ride_119 at e
    exact b124 e
  have b101 : ∀ {a b d p q r u v : Int32} {o : Int64 × Hp}, sX10_ride_101 F h x0 a b d p q r u v = some o → Ki ρ h o.2 := fun e => by
    unfold sX10_ride_101 at e
    rcases br_s e with ⟨_, e⟩ | ⟨_, e⟩
    · rcases br_s e with ⟨_, e⟩ | ⟨_, e⟩
      · exact b124 e
      · rcases br_s e with ⟨_, e⟩ | ⟨_, e⟩
        · exact b119 e
        · exact b124 e
    · exact b119 e
  have b87 : ∀ {a b d p q r u v : Int32} {o : Int64 × Hp}, sX10_ride_87 F h x0 a b d p q r u v = some o → Ki ρ h o.2 := fun e => by
    unfold sX10_ride_87 at e
    rcases br_s e with ⟨_, e⟩ | ⟨_, e⟩
    · exact b101 e
    · exact b101 e
  have b61 : ∀ {a b d p q r s u v : Int32} {o : Int64 × Hp}, sX10_ride_61 F h x0 a b d p q r s u v = some o → Ki ρ h o.2 := fun e => by
    unfold sX10_ride_61 at e
    rcases br_s e with ⟨_, e⟩ | ⟨_, e⟩
    · rcases br_s e with ⟨_, e⟩ | ⟨_, e⟩
      · exact b87 e
      · exact b87 e
    · exact b87 e
  have b35 : ∀ {a b d p q r s u : Int32} {o : Int64 × Hp}, sX10_ride_35 F h x0 a b d p q r s u = some o → Ki ρ h o.2 := fun e => by
    unfold sX10_ride_35 at e
    rcases br_s e with ⟨_, e⟩ | ⟨_, e⟩
    · rcases br_s e with ⟨_, e⟩ | ⟨_, e⟩
      · exact b61 e
      · exact b61 e
    · exact b61 e
  unfold sX10_ride at e
  rcases br_s e with ⟨_, e⟩ | ⟨_, e⟩
  · exact b35 e
  · exact b35 e
theorem reach_in {x1 x2 x3 x6 x7 x10 : Int32} {K : Hp → Nat → Int32 → Int32 → Int32 → Int64 → Int32 → Option (Int64 × Hp)} (R : ∀ {h : Hp} {o : Int64 × Hp} {y : Int64} {v : Int32}, WR ρ x0 h → K h x0 x1 x2 x3 y v = some o → Ki ρ h o.2) : ∀ (f : Nat) {h : Hp} {o : Int64 × Hp} {x4 : Int64} {x11 : Int32}, WR ρ x0 h → sX10_reach_123 F K f h x0 x1 x2 x3 x4 x6 x7 x10 x11 = some o → Ki ρ h o.2 := by
  intro f
  induction f with
  | zero => intro h o x4 x11 _ e; exact absurd e (by rw [sX10_reach_123]; exact fun z => nomatch z)
  | succ f ih =>
    intro h o x4 x11 w e
    rw [sX10_reach_123] at e
    unfold sX10_reach_155 at e
    rcases br_s e with ⟨_, e⟩ | ⟨_, e⟩
    · exact R w e
    obtain ⟨o2, e2, e⟩ := cl_s e
    have k := ride_h w e2
    exact ki_t k (ih (wr_k k.1 w) e)
theorem reach_l {x1 x2 x3 : Int32} : ∀ (f : Nat) {h : Hp} {o : Int64 × Hp} {x4 : Int64} {x6 : Int32}, WR ρ x0 h → sX10_reach_10 F f h x0 x1 x2 x3 x4 x6 = some o → Ki ρ h o.2 := by
  intro f
  induction f with
  | zero => intro h o x4 x6 _ e; exact absurd e (by rw [sX10_reach_10]; exact fun z => nomatch z)
  | succ f ih =>
    intro h o x4 x6 w e
    rw [sX10_reach_10] at e
    obtain ⟨_, _, e⟩ := cl_s e
    obtain ⟨_, _, e⟩ := cl_s e
    replace e := (gd_s e).2
    rcases br_s e with ⟨_, e⟩ | ⟨_, e⟩
    · rw [← Option.some.inj e]; exact ki_0
    obtain ⟨_, _, e⟩ := cl_s e
    obtain ⟨_, _, e⟩ := cl_s e
    replace e := (gd_s e).2
    have b88 : ∀ {p q r : Int32} {o : Int64 × Hp}, sX10_reach_88 F (sX10_reach_10 F f) h x0 x1 x2 x3 x4 x6 p q r = some o → Ki ρ h o.2 := fun e => by
      unfold sX10_reach_88 sX10_reach_105 sX10_reach_118 sX10_reach_155 at e
      have gg : ∀ {p q : Int32} {o : Int64 × Hp}, sX10_reach_123 F (sX10_reach_10 F f) F h x0 x1 x2 x3 x4 x6 p q 0 = some o → Ki ρ h o.2 := fun e => reach_in (fun w e => ih w e) F w e
      rcases br_s e with ⟨_, e⟩ | ⟨_, e⟩
      · rcases br_s e with ⟨_, e⟩ | ⟨_, e⟩
        · exact gg e
        · exact gg e
      rcases br_s e with ⟨_, e⟩ | ⟨_, e⟩
      · rcases br_s e with ⟨_, e⟩ | ⟨_, e⟩
        · exact gg e
        · exact gg e
      · exact ih w e
    rcases br_s e with ⟨_, e⟩ | ⟨_, e⟩
    · obtain ⟨_, _, e⟩ := cl_s e
      obtain ⟨_, _, e⟩ := cl_s e
      exact b88 (gd_s e).2
    · obtain ⟨_, _, e⟩ := cl_s e
      obtain ⟨_, _, e⟩ := cl_s e
      obtain ⟨_, _, e⟩ := cl_s e
      exact b88 (gd_s e).2
theorem lf_in {x1 x2 x5 x6 : Int32} {x3 : Int64} {K : Hp → Nat → Int32 → Int32 → Int64 → Int32 → Int32 → Option Hp} (r0 : ρ x0 = 11) (i2 : Rg 0 63 x2) (R : ∀ {h o : Hp} {v : Int32}, WR ρ x0 h → hR h x0 3 = some a3 → K h x0 x1 x2 x3 x5 v = some o → Ks ρ h o ∧ Bt a3 (fun s => s = x2.toNatClampNeg) h o) : ∀ (f : Nat) {h o : Hp} {x7 : Int32}, WR ρ x0 h → hR h x0 3 = some a3 → sX10_layFrom_70 F K f h x0 x1 x2 x3 x5 x6 x7 = some o → Ks ρ h o ∧ Bt a3 (fun s => s = x2.toNatClampNeg) h o := by
  intro f
  induction f with
  | zero => intro h o x7 _ _ e; exact absurd e (by rw [sX10_layFrom_70]; exact fun z => nomatch z)
  | succ f ih =>
    intro h o x7 w e3 e
    rw [sX10_layFrom_70] at e
    unfold sX10_layFrom_154 sX10_layFrom_148 at e
    obtain ⟨_, _, e⟩ := cl_s e
    obtain ⟨_, _, e⟩ := cl_s e
    replace e := (gd_s e).2
    rcases br_s e with ⟨_, e⟩ | ⟨_, e⟩
    · exact R w e3 e
    obtain ⟨r5, e5, e⟩ := cl_s e
    replace e := (gd_s e).2
    rcases br_s e with ⟨_, e⟩ | ⟨_, e⟩
    · exact ih w e3 e
    obtain ⟨_, _, e⟩ := cl_s e
    obtain ⟨_, _, e⟩ := cl_s e
    replace e := (gd_s e).2
    obtain ⟨o12, e12, e⟩ := cl_s e
    obtain ⟨k1, b1⟩ := aw_all r0 i2 w e3 e12
    obtain ⟨r13, e13, e⟩ := cl_s e
    replace e := (gd_s e).2
    have q13 : ρ r13 = 56 := w 6 r13 (by decide) (by rw [k1.1] at e13; exact e13)
    have k2 : Ks ρ o12 (wI o12 r13 ((x6 * (8 : Int32)) + x7).toNatClampNeg (0 : Int32)) := ks_I (by rw [q13]; decide)
    have kk := ks_t k1 k2
    obtain ⟨k3, b3⟩ := ih (wr_k kk w) (by rw [kk.1]; exact e3) e
    exact ⟨ks_t kk k3, bt_t (bt_t b1 bt_I) b3⟩
theorem lf_30 {x1 x2 x5 : Int32} {x3 : Int64} (r0 : ρ x0 = 11) (i2 : Rg 0 63 x2) : ∀ (f : Nat) {h o : Hp} {x6 : Int32}, WR ρ x0 h → hR h x0 3 = some a3 → sX10_layFrom_30 F f h x0 x1 x2 x3 x5 x6 = some o → Ks ρ h o ∧ Bt a3 (fun s => s = x2.toNatClampNeg) h o := by
  intro f
  induction f with
  | zero => intro h o x6 _ _ e; exact absurd e (by rw [sX10_layFrom_30]; exact fun z => nomatch z)
  | succ f ih =>
    intro h o x6 w e3 e
    rw [sX10_layFrom_30] at e
    unfold sX10_layFrom_154 sX10_cell at e
    rcases br_s e with ⟨_, e⟩ | ⟨_, e⟩
    · rw [← Option.some.inj e]; exact ⟨ks_0, bt_0⟩
    obtain ⟨r2, e2, e⟩ := cl_s e
    obtain ⟨o3, eo, e⟩ := cl_s e
    have q3 : o3.2 = h := by rw [← Option.some.inj eo]
    replace e := (gd_s e).2
    have q2 : ρ r2 = 50 := w 0 r2 (by decide) e2
    have k1 : Ks ρ h (wI o3.2 r2 o3.1.toNatClampNeg (hI o3.2 x0 8)) := by rw [q3]; exact ks_I (by rw [q2]; decide)
    have b1 : Bt a3 (fun s => s = x2.toNatClampNeg) h (wI o3.2 r2 o3.1.toNatClampNeg (hI o3.2 x0 8)) := by rw [q3]; exact bt_I
    have w1 := wr_k k1 w
    have e31 : hR (wI o3.2 r2 o3.1.toNatClampNeg (hI o3.2 x0 8)) x0 3 = some a3 := by rw [k1.1]; exact e3
    rcases br_s e with ⟨_, e⟩ | ⟨_, e⟩
    · obtain ⟨k2, b2⟩ := ih w1 e31 e
      exact ⟨ks_t k1 k2, bt_t b1 b2⟩
    · obtain ⟨k2, b2⟩ := lf_in r0 i2 (fun w e3 e => ih w e3 e) F w1 e31 e
      exact ⟨ks_t k1 k2, bt_t b1 b2⟩
/-- with no square to come to nothing is added -/
theorem lf_30z {x1 x2 x5 : Int32} : ∀ (f : Nat) {h o : Hp} {x6 : Int32}, WR ρ x0 h → sX10_layFrom_30 F f h x0 x1 x2 (0 : Int64) x5 x6 = some o → Ki ρ h o := by
  intro f
  induction f with
  | zero => intro h o x6 _ e; exact absurd e (by rw [sX10_layFrom_30]; exact fun z => nomatch z)
  | succ f ih =>
    intro h o x6 w e
    rw [sX10_layFrom_30] at e
    unfold sX10_layFrom_154 sX10_cell at e
    rcases br_s e with ⟨_, e⟩ | ⟨_, e⟩
    · rw [← Option.some.inj e]; exact ki_0
    obtain ⟨r2, e2, e⟩ := cl_s e
    obtain ⟨o3, eo, e⟩ := cl_s e
    have q3 : o3.2 = h := by rw [← Option.some.inj eo]
    replace e := (gd_s e).2
    have q2 : ρ r2 = 50 := w 0 r2 (by decide) e2
    have k1 : Ki ρ h (wI o3.2 r2 o3.1.toNatClampNeg (hI o3.2 x0 8)) := by rw [q3]; exact ki_I (by rw [q2]; decide)
    rcases br_s e with ⟨_, e⟩ | ⟨n, e⟩
    · exact ki_t k1 (ih (wr_k k1.1 w) e)
    · exfalso
      apply n
      have z : (((0 : Int64).toUInt64 >>> (x6.toInt64.toUInt64 &&& Int64.toUInt64 63)).toInt64 &&& (1 : Int64)) = 0 := by
        have a : (0 : Int64).toUInt64 = 0 := rfl
        rw [a, UInt64.zero_shiftRight]
        decide
      rw [z]; rfl
/-- ways of one man from one square -/
theorem lf_all {x1 x2 : Int32} {h o : Hp} (r0 : ρ x0 = 11) (i2 : Rg 0 63 x2) (w : WR ρ x0 h) (e3 : hR h x0 3 = some a3) (e : sX10_layFrom F h x0 x1 x2 = some o) : Ks ρ h o ∧ Bt a3 (fun s => s = x2.toNatClampNeg ∧ ∀ L, hR h x0 7 = some L → x2.toInt < (hI h L 2).toInt) h o := by
  unfold sX10_layFrom sX10_layFrom_21 at e
  obtain ⟨L, eL, e⟩ := cl_s e
  rcases br_s e with ⟨_, e⟩ | ⟨n, e⟩
  · have k := lf_30z F w e
    exact ⟨k.1, ki_b k⟩
  · obtain ⟨o3, eo, e⟩ := cl_s e
    have k := reach_l F w eo
    obtain ⟨k2, b2⟩ := lf_30 r0 i2 F (wr_k k.1 w) (by rw [k.1.1]; exact e3) e
    refine ⟨ks_t k.1 k2, bt_t (ki_b k) (bt_m (fun s hs => ⟨hs, fun L' eL' => ?_⟩) b2)⟩
    rw [r_eq eL eL']
    exact nle_i n
end
end
section
section
variable {ρ : Nat → Nat} {c : Cm} {h o g : Hp} {x0 a3 F : Nat} {P Q : Nat → Prop}
theorem la_18 {K : Hp → Nat → Int32 → Option Hp} {x1 : Int32} (n5 : ∀ {h : Hp} {r : Nat}, WR ρ x0 h → hR h x0 3 = some a3 → hR h x0 5 = some r → a3 ≠ r) (R : ∀ {h o : Hp} {v : Int32}, WR ρ x0 h → hR h x0 3 = some a3 → K h x0 v = some o → Ks ρ h o ∧ Bt a3 (fun _ => False) h o) : ∀ (f : Nat) {h o : Hp} {x2 : Int64} {x4 : Int32}, WR ρ x0 h → hR h x0 3 = some a3 → sX10_layAround_18 F K f h x0 x1 x2 x4 = some o → Ks ρ h o ∧ Bt a3 (fun _ => False) h o := by
  intro f
  induction f with
  | zero => intro h o x2 x4 _ _ e; exact absurd e (by rw [sX10_layAround_18]; exact fun z => nomatch z)
  | succ f ih =>
    intro h o x2 x4 w e3 e
    rw [sX10_layAround_18] at e
    unfold sX10_layAround_96 at e
    rcases br_s e with ⟨_, e⟩ | ⟨_, e⟩
    · obtain ⟨r2, e2, e⟩ := cl_s e
      replace e := (gd_s e).2
      have k1 : Ks ρ h (wJ h r2 x1.toNatClampNeg x2) := ks_J
      obtain ⟨k2, b2⟩ := R (wr_k k1 w) e3 e
      exact ⟨ks_t k1 k2, bt_t (bt_J (n5 w e3 e2)) b2⟩
    obtain ⟨_, _, e⟩ := cl_s e
    obtain ⟨_, _, e⟩ := cl_s e
    replace e := (gd_s e).2
    obtain ⟨_, _, e⟩ := cl_s e
    obtain ⟨_, _, e⟩ := cl_s e
    replace e := (gd_s e).2
    rcases br_s e with ⟨_, e⟩ | ⟨_, e⟩
    · exact ih w e3 e
    obtain ⟨o15, e15, e⟩ := cl_s e
    have q := ison_h e15
    rcases br_s e with ⟨_, e⟩ | ⟨_, e⟩
    · rw [q] at e; exact ih w e3 e
    obtain ⟨_, _, e⟩ := cl_s e
    rw [q] at e
    exact ih w e3 e
theorem la_2 (n5 : ∀ {h : Hp} {r : Nat}, WR ρ x0 h → hR h x0 3 = some a3 → hR h x0 5 = some r → a3 ≠ r) : ∀ (f : Nat) {h o : Hp} {x1 : Int32}, WR ρ x0 h → hR h x0 3 = some a3 → sX10_layAround_2 F f h x0 x1 = some o → Ks ρ h o ∧ Bt a3 (fun _ => False) h o := by
  intro f
  induction f with
  | zero => intro h o x1 _ _ e; exact absurd e (by rw [sX10_layAround_2]; exact fun z => nomatch z)
  | succ f ih =>
    intro h o x1 w e3 e
    rw [sX10_layAround_2] at e
    obtain ⟨_, _, e⟩ := cl_s e
    rcases br_s e with ⟨_, e⟩ | ⟨_, e⟩
    · rw [← Option.some.inj e]; exact ⟨ks_0, bt_0⟩
    · exact la_18 n5 (fun w e3 e => ih w e3 e) F w e3 e
theorem wr_n5 {h : Hp} {r : Nat} (w : WR ρ x0 h) (e3 : hR h x0 3 = some a3) (e : hR h x0 5 = some r) : a3 ≠ r := fun z => by
  have q3 : ρ a3 = 53 := w 3 a3 (by decide) e3
  have q5 : ρ r = 55 := w 5 r (by decide) e
  rw [z, q5] at q3; exact absurd q3 (by decide)
/-- the squares of the law that is laid -/
def Told (ρ : Nat → Nat) (L : Nat) (n : Int32) (s : Nat) : Prop := (s : Int) < n.toInt
theorem lay_43 {K : Hp → Nat → Int32 → Option Hp} {x2 n : Int32} {L : Nat} (r0 : ρ x0 = 11) (rL : ρ L = 2) (R : ∀ {h o : Hp} {v : Int32}, WR ρ x0 h → hR h x0 3 = some a3 → hR h x0 7 = some L → hI h L 2 = n → K h x0 v = some o → Ks ρ h o ∧ Bt a3 (fun s => (s : Int) < n.toInt) h o) : ∀ (f : Nat) {h o : Hp} {x3 : Int32}, 0 ≤ x3.toInt → WR ρ x0 h → hR h x0 3 = some a3 → hR h x0 7 = some L → hI h L 2 = n → sX10_lay_43 F K f h x0 x2 x3 = some o → Ks ρ h o ∧ Bt a3 (fun s => (s : Int) < n.toInt) h o := by
  intro f
  induction f with
  | zero => intro h o x3 _ _ _ _ _ e; exact absurd e (by rw [sX10_lay_43]; exact fun z => nomatch z)
  | succ f ih =>
    intro h o x3 i0 w e3 e7 en e
    rw [sX10_lay_43] at e
    rcases br_s e with ⟨_, e⟩ | ⟨n1, e⟩
    · exact R w e3 e7 en e
    have l64 : x3.toInt < 64 := nle_i n1
    have i3 : Rg 0 63 x3 := ⟨i0, by omega⟩
    obtain ⟨o3, eo, e⟩ := cl_s e
    obtain ⟨k1, b1⟩ := lf_all r0 i3 w e3 eo
    have b1' : Bt a3 (fun s => (s : Int) < n.toInt) h o3 := bt_m (fun s hs => by
      have := hs.2 L e7
      rw [en] at this
      have := nc_i i0
      rw [hs.1]; omega) b1
    have e7' : hR o3 x0 7 = some L := by rw [k1.1]; exact e7
    have en' : hI o3 L 2 = n := by rw [k1.2 L 2 rL]; exact en
    obtain ⟨k2, b2⟩ := ih (by rw [(nc_s i3 (by decide)).2]; omega) (wr_k k1 w) (by rw [k1.1]; exact e3) e7' en' e
    exact ⟨ks_t k1 k2, bt_t b1' b2⟩
theorem lay_28 {n : Int32} {L : Nat} (r0 : ρ x0 = 11) (rL : ρ L = 2) : ∀ (f : Nat) {h o : Hp} {x2 : Int32}, WR ρ x0 h → hR h x0 3 = some a3 → hR h x0 7 = some L → hI h L 2 = n → sX10_lay_28 F f h x0 x2 = some o → Ks ρ h o ∧ Bt a3 (fun s => (s : Int) < n.toInt) h o := by
  intro f
  induction f with
  | zero => intro h o x2 _ _ _ _ e; exact absurd e (by rw [sX10_lay_28]; exact fun z => nomatch z)
  | succ f ih =>
    intro h o x2 w e3 e7 en e
    rw [sX10_lay_28] at e
    obtain ⟨_, _, e⟩ := cl_s e
    rcases br_s e with ⟨_, e⟩ | ⟨_, e⟩
    · obtain ⟨r3, er3, e⟩ := cl_s e
      obtain ⟨r4, _, e⟩ := cl_s e
      replace e := (gd_s e).2
      obtain ⟨o7, e7', e⟩ := cl_s e
      have q3 : ρ r3 = 50 := w 0 r3 (by decide) er3
      have k1 : Ks ρ h (wI h r3 ((((2 : Int32) * (hI h r4 3)) * (64 : Int32)) * (64 : Int32)).toNatClampNeg (hI h x0 8)) := ks_I (by rw [q3]; decide)
      unfold sX10_layAround at e7'
      obtain ⟨k2, b2⟩ := la_2 (fun w e3 e => wr_n5 w e3 e) F (wr_k k1 w) e3 e7'
      rw [← Option.some.inj e]
      exact ⟨ks_t k1 k2, bt_t bt_I (bt_m (fun _ z => z.elim) b2)⟩
    · exact lay_43 r0 rL (fun w e3 e7 en e => ih w e3 e7 en e) F (by decide) w e3 e7 en e
theorem fJv {F r : Nat} {v : Int64} {n : Nat} (hn : n < 2 ^ 31) : ∀ (f : Nat) {h o : Hp} {x3 : Int32}, 0 ≤ x3.toInt → sJ7_fill_d0a16_6 F f h r v x3 (nI n) = some o → (∀ a i, ¬ a = r → hJ o a i = hJ h a i) ∧ (∀ s : Nat, (s : Int) < x3.toInt → hJ o r s = hJ h r s) ∧ ∀ s : Nat, x3.toInt ≤ s → s < n → hJ o r s = v := by
  intro f
  induction f with
  | zero => intro h o x3 _ e; exact absurd e (by rw [sJ7_fill_d0a16_6]; exact fun z => nomatch z)
  | succ f ih =>
    intro h o x3 l0 e
    rw [sJ7_fill_d0a16_6] at e
    have tn : (nI n).toInt = (n : Int) := z_toInt hn
    rcases br_s e with ⟨c1, e⟩ | ⟨c1, e⟩
    · rw [← Option.some.inj e]
      have := le_i c1
      exact ⟨fun _ _ _ => rfl, fun _ _ => rfl, fun s h1 h2 => by omega⟩
    · have l1 := nle_i c1
      replace e := (gd_s e).2
      have m : (x3 + (1 : Int32)).toInt = x3.toInt + 1 := rg_inc (a := 0) (b := (n : Int) - 1) ⟨l0, by omega⟩ (by omega)
      obtain ⟨a1, a2, a3⟩ := ih (x3 := x3 + (1 : Int32)) (by omega) e
      have nx := nc_i l0
      refine ⟨fun a i ha => ?_, fun s hs => ?_, fun s h1 h2 => ?_⟩
      · rw [a1 a i ha, r_J, if_neg (fun z => ha z.1)]
      · rw [a2 s (by omega), r_J, if_neg (fun z => by omega)]
      · by_cases z : (s : Int) = x3.toInt
        · rw [a2 s (by omega), r_J, if_pos ⟨rfl, by omega⟩]
        · exact a3 s (by omega) h2
/-- squares that ways come from are told -/
def FmT (q : Bool) (x0 : Nat) (h : Hp) : Prop := ∀ r, hR h x0 3 = some r → ∀ i, i < 1536 → ∀ s, bitJ (hJ h r i) s = true → SqN q s
theorem fm_fr {S : Nat → Nat → Nat → Bool} {q : Bool} (T : TH ρ c h) (r0 : ρ x0 = 11) (f : Fr ρ (cat c S h) h o) (s1 : ∀ w, S 11 w 3 = false) (s2 : ∀ w i, S 53 w i = false) (P : FmT q x0 h) : FmT q x0 o := fun r er i hi s hb => by
  rw [(fr_RI f r0 (by decide) s1).2.2] at er
  obtain ⟨q1, f1, g1⟩ := thR T r0 (i := 3) (k2 := 53) rfl (by decide)
  rw [(fr_RI f (show ρ r = 53 by rw [r_eq f1 er]; exact g1) (by decide) (fun _ => s2 _ _)).2.1] at hb
  exact P r er i hi s hb
theorem lay_fm {L : Nat} (hF : 700000 ≤ F) (T : TH ρ c h) (r0 : ρ x0 = 11) (rL : ρ L = 2) (wL : cw c L = 2102) (lw : LwR ρ c h) (e : sX10_lay F h x0 L = some o) : FmT (c.2.1 50) x0 o := by
  unfold sX10_lay at e
  obtain ⟨r3, e3, e⟩ := cl_s e
  obtain ⟨o4, e4, e⟩ := cl_s e
  obtain ⟨r5, e5, e⟩ := cl_s e
  obtain ⟨o6, e6, e⟩ := cl_s e
  have w0 : WR ρ x0 (wI (wR h x0 7 (some L)) x0 8 (0 : Int32)) := fun k r hk er => by
    have er' : (if x0 = x0 ∧ k = 7 then some L else hR h x0 k) = some r := by rw [← r_R]; exact er
    by_cases z : k = 7
    · rw [if_pos ⟨rfl, z⟩] at er'
      rw [← Option.some.inj er', z]; exact rL
    · rw [if_neg (fun y => z y.2)] at er'
      have q : ∀ j m, rfK 11 j = m → m ≠ 0 → hR h x0 j = some r → ρ r = m := fun j m h1 h2 h3 => by
        obtain ⟨q1, f1, g1⟩ := thR T r0 (i := j) (k2 := m) h1 h2
        rw [r_eq f1 h3]; exact g1
      have hk7 : k < 7 := by omega
      match k, hk7, er' with
      | 0, _, er' => exact q 0 50 rfl (by decide) er'
      | 1, _, er' => exact q 1 51 rfl (by decide) er'
      | 2, _, er' => exact q 2 52 rfl (by decide) er'
      | 3, _, er' => exact q 3 53 rfl (by decide) er'
      | 4, _, er' => exact q 4 54 rfl (by decide) er'
      | 5, _, er' => exact q 5 55 rfl (by decide) er'
      | 6, _, er' => exact q 6 56 rfl (by decide) er'
  have q3 : ρ r3 = 53 := w0 3 r3 (by decide) e3
  have n3 : hN (wI (wR h x0 7 (some L)) x0 8 (0 : Int32)) r3 = 1536 := thN T q3 (k := 53) (n := 1536) rfl (by decide)
  unfold sJ7_fill_d0a16 at e4 e6
  have e4' : sJ7_fill_d0a16_6 F F (wI (wR h x0 7 (some L)) x0 8 (0 : Int32)) r3 (0 : Int64) (0 : Int32) (nI 1536) = some o4 := by rw [← n3]; exact e4
  obtain ⟨⟨g4, m4⟩, i4⟩ := fJ F e4'
  obtain ⟨_, _, v4⟩ := fJv (by decide) F (by decide) e4'
  have q5 : ρ r5 = 54 := w0 4 r5 (by decide) (by rw [g4] at e5; exact e5)
  have n5 : hN o4 r5 = 1536 := by rw [m4]; exact thN T q5 (k := 54) (n := 1536) rfl (by decide)
  have e6' : sJ7_fill_d0a16_6 F F o4 r5 (0 : Int64) (0 : Int32) (nI 1536) = some o6 := by rw [← n5]; exact e6
  obtain ⟨⟨g6, m6⟩, i6⟩ := fJ F e6'
  obtain ⟨u6, _, _⟩ := fJv (by decide) F (by decide) e6'
  have k6 : ∀ a i, hR o6 a i = hR (wI (wR h x0 7 (some L)) x0 8 (0 : Int32)) a i := fun a i => by rw [g6, g4]
  have w6 : WR ρ x0 o6 := fun k r hk er => w0 k r hk (by rw [← k6]; exact er)
  have e36 : hR o6 x0 3 = some r3 := by rw [k6]; exact e3
  have e76 : hR o6 x0 7 = some L := by
    rw [k6]
    show hR (wR h x0 7 (some L)) x0 7 = some L
    rw [r_R, if_pos ⟨rfl, rfl⟩]
  have nL : hI o6 L 2 = hI h L 2 := by
    rw [i6, i4, r_I, if_neg (ne_r rL r0 (by decide))]; rfl
  obtain ⟨k7, b7⟩ := lay_28 (n := hI h L 2) r0 rL F w6 e36 e76 nL e
  intro r er i hi s hb
  rw [k7.1, e36] at er
  have : r = r3 := (Option.some.inj er).symm
  subst this
  rcases b7 i s hb with z | z
  · have n35 : ¬ r = r5 := fun y => by rw [y, q5] at q3; exact absurd q3 (by decide)
    rw [u6 r i n35, v4 i (by show (0 : Int) ≤ _; omega) hi, bj_zero] at z
    exact absurd z (by decide)
  · have iL := thI T rL (k := 2) (i := 2) (lo := 0) (hi := 64) rfl
    have i64 : (s : Int) < 64 := by have := iL.2; omega
    have sx : (nI s).toInt = (s : Int) := z_toInt (by omega)
    have := lw_sq lw rL wL (x := nI s) (by rw [sx]; exact z)
    exact this.imp id (fun y => by rw [sx] at y; omega)
end
end
section
/-! positions a move before (class) -/
theorem gq_one {q : Bool} {s t m k : Int32} (is' : Rg 0 63 s) (it : Rg 0 63 t) (im : Rg 0 11 m) (ik : Rg 0 11 k ∨ k = 15) (qs : SqB q s) (qt : SqB q t) : GMq q (((s ||| (t <<< ((6 : Int32) &&& 31))) ||| (m <<< ((12 : Int32) &&& 31))) ||| (k <<< ((16 : Int32) &&& 31))) := by
  have ik15 : Rg 0 15 k := by
    rcases ik with z | z
    · exact rg_m z (by decide)
    · rw [z]; exact rg_b rfl
  have a : (fd 12 s = 0 ∧ fd 16 s = 0 ∧ fd 20 s = 0) ∧ s &&& (63 : Int32) = s ∧ (s >>> ((6 : Int32) &&& 31)) &&& (63 : Int32) = 0 := small (P := fun s => (fd 12 s = 0 ∧ fd 16 s = 0 ∧ fd 20 s = 0) ∧ s &&& (63 : Int32) = s ∧ (s >>> ((6 : Int32) &&& 31)) &&& (63 : Int32) = 0) (n := 63) is' (by decide) (by decide +kernel)
  have b : (fd 12 (t <<< ((6 : Int32) &&& 31)) = 0 ∧ fd 16 (t <<< ((6 : Int32) &&& 31)) = 0 ∧ fd 20 (t <<< ((6 : Int32) &&& 31)) = 0) ∧ (t <<< ((6 : Int32) &&& 31)) &&& (63 : Int32) = 0 ∧ ((t <<< ((6 : Int32) &&& 31)) >>> ((6 : Int32) &&& 31)) &&& (63 : Int32) = t := small (P := fun t => (fd 12 (t <<< ((6 : Int32) &&& 31)) = 0 ∧ fd 16 (t <<< ((6 : Int32) &&& 31)) = 0 ∧ fd 20 (t <<< ((6 : Int32) &&& 31)) = 0) ∧ (t <<< ((6 : Int32) &&& 31)) &&& (63 : Int32) = 0 ∧ ((t <<< ((6 : Int32) &&& 31)) >>> ((6 : Int32) &&& 31)) &&& (63 : Int32) = t) (n := 63) it (by decide) (by decide +kernel)
  have c : (fd 12 (m <<< ((12 : Int32) &&& 31)) = m ∧ fd 16 (m <<< ((12 : Int32) &&& 31)) = 0 ∧ fd 20 (m <<< ((12 : Int32) &&& 31)) = 0) ∧ (m <<< ((12 : Int32) &&& 31)) &&& (63 : Int32) = 0 ∧ ((m <<< ((12 : Int32) &&& 31)) >>> ((6 : Int32) &&& 31)) &&& (63 : Int32) = 0 := small (P := fun m => (fd 12 (m <<< ((12 : Int32) &&& 31)) = m ∧ fd 16 (m <<< ((12 : Int32) &&& 31)) = 0 ∧ fd 20 (m <<< ((12 : Int32) &&& 31)) = 0) ∧ (m <<< ((12 : Int32) &&& 31)) &&& (63 : Int32) = 0 ∧ ((m <<< ((12 : Int32) &&& 31)) >>> ((6 : Int32) &&& 31)) &&& (63 : Int32) = 0) (n := 11) im (by decide) (by decide +kernel)
  have d : (fd 12 (k <<< ((16 : Int32) &&& 31)) = 0 ∧ fd 16 (k <<< ((16 : Int32) &&& 31)) = k ∧ fd 20 (k <<< ((16 : Int32) &&& 31)) = 0) ∧ (k <<< ((16 : Int32) &&& 31)) &&& (63 : Int32) = 0 ∧ ((k <<< ((16 : Int32) &&& 31)) >>> ((6 : Int32) &&& 31)) &&& (63 : Int32) = 0 := small (P := fun k => (fd 12 (k <<< ((16 : Int32) &&& 31)) = 0 ∧ fd 16 (k <<< ((16 : Int32) &&& 31)) = k ∧ fd 20 (k <<< ((16 : Int32) &&& 31)) = 0) ∧ (k <<< ((16 : Int32) &&& 31)) &&& (63 : Int32) = 0 ∧ ((k <<< ((16 : Int32) &&& 31)) >>> ((6 : Int32) &&& 31)) &&& (63 : Int32) = 0) (n := 15) ik15 (by decide) (by decide +kernel)
  have o0 : (0 : Int32) ||| 0 = 0 := by decide
  refine ⟨⟨?_, ?_, ?_⟩, ?_, ?_⟩
  · rw [fd_or, fd_or, fd_or, a.1.1, b.1.1, c.1.1, d.1.1, o0, or_l, or_0]; exact im
  · rw [fd_or, fd_or, fd_or, a.1.2.1, b.1.2.1, c.1.2.1, d.1.2.1, o0, o0, or_l]; exact ik
  · rw [fd_or, fd_or, fd_or, a.1.2.2, b.1.2.2, c.1.2.2, d.1.2.2, o0, o0, o0]; exact Or.inl (rg_b rfl)
  · rw [lo_or, lo_or, lo_or, a.2.1, b.2.1, c.2.1, d.2.1, or_0, or_0, or_0]; exact qs
  · rw [sh_or, sh_or, sh_or, lo_or, lo_or, lo_or, a.2.2, b.2.2, c.2.2, d.2.2, or_l, or_0, or_0]; exact qt
/-- copying brings PASS along -/
theorem cf9_17 {ρ : Nat → Nat} {F x0 x1 : Nat} (r0 : ρ x0 = 4) (r1 : ρ x1 = 4) : ∀ (f : Nat) {h o : Hp} {x2 : Int32}, (∀ r, hR h x0 1 = some r → ρ r = 35) → (∀ r, hR h x0 3 = some r → ρ r = 37) → sX3_copyFrom_17 F f h x0 x1 x2 = some o → hJ o x0 9 = hJ h x1 9 := by
  intro f
  induction f with
  | zero => intro h o x2 _ _ e; exact absurd e (by rw [sX3_copyFrom_17]; exact fun z => nomatch z)
  | succ f ih =>
    intro h o x2 k1 k3 e
    rw [sX3_copyFrom_17] at e
    rcases br_s e with ⟨_, e⟩ | ⟨_, e⟩
    · rw [← Option.some.inj e]
      rw [r_J, if_neg (fun z => absurd z.2 (by decide)), r_J, if_pos ⟨rfl, rfl⟩, r_J, if_neg (fun z => absurd z.2 (by decide))]
      rfl
    · obtain ⟨r7, e7, e⟩ := cl_s e
      obtain ⟨r8, e8, e⟩ := cl_s e
      replace e := (gd_s (gd_s e).2).2
      obtain ⟨r12, e12, e⟩ := cl_s e
      obtain ⟨r13, e13, e⟩ := cl_s e
      replace e := (gd_s (gd_s e).2).2
      obtain ⟨r17, e17, e⟩ := cl_s e
      obtain ⟨r18, e18, e⟩ := cl_s e
      replace e := (gd_s (gd_s e).2).2
      obtain ⟨r22, e22, e⟩ := cl_s e
      obtain ⟨r23, e23, e⟩ := cl_s e
      replace e := (gd_s (gd_s e).2).2
      have q7 := k1 r7 e7
      have q17 := k3 r17 e17
      have n7 : ∀ j, ¬ (x1 = r7 ∧ (9 : Nat) = j) := fun j z => by rw [← z.1, r1] at q7; exact absurd q7 (by decide)
      have n17 : ∀ j, ¬ (x1 = r17 ∧ (9 : Nat) = j) := fun j z => by rw [← z.1, r1] at q17; exact absurd q17 (by decide)
      refine (ih (fun r er => ?_) (fun r er => ?_) e).trans ?_
      · exact k1 r er
      · exact k3 r er
      show hJ (wJ _ r17 _ _) x1 9 = _
      rw [r_J, if_neg (n17 _)]
      show hJ (wJ _ r7 _ _) x1 9 = _
      rw [r_J, if_neg (n7 _)]
theorem cf9 {ρ : Nat → Nat} {c : Cm} {F : Nat} {h o : Hp} {x0 x1 : Nat} (T : TH ρ c h) (r0 : ρ x0 = 4) (r1 : ρ x1 = 4) (e : sX3_copyFrom F h x0 x1 = some o) : hJ o x0 9 = hJ h x1 9 := by
  unfold sX3_copyFrom at e
  obtain ⟨r1', e1, e⟩ := cl_s e
  obtain ⟨r2, e2, e⟩ := cl_s e
  replace e := (gd_s (gd_s (gd_s (gd_s (gd_s (gd_s e).2).2).2).2).2).2
  refine (cf9_17 (ρ := ρ) r0 r1 F (fun r er => ?_) (fun r er => ?_) e).trans ?_
  · exact rr T (thR T r0 (i := 1) (k2 := 35) rfl (by decide)) er
  · exact rr T (thR T r0 (i := 3) (k2 := 37) rfl (by decide)) er
  · rfl
theorem st9 {ρ : Nat → Nat} {c : Cm} {F : Nat} {h o : Hp} {x0 : Nat} (T : TH ρ c h) (r0 : ρ x0 = 4) (e : sX3_strip F h x0 = some o) : hJ o x0 9 = 0 := by
  unfold sX3_strip at e
  obtain ⟨r4, e4, e⟩ := cl_s e
  obtain ⟨o5, e5, e⟩ := cl_s e
  obtain ⟨r6, e6, e⟩ := cl_s e
  obtain ⟨o7, e7, e⟩ := cl_s e
  have q4 : ρ r4 = 37 := rr T (thR T r0 (i := 3) (k2 := 37) rfl (by decide)) e4
  unfold sJ7_fill_d0a16 at e5
  unfold sJ7_fill_53178 at e7
  have n4 : hN (wJ (wJ (wJ h x0 10 (0 : Int64)) x0 9 (0 : Int64)) x0 8 (0 : Int64)) r4 = 2 := thN T q4 (k := 37) (n := 2) rfl (by decide)
  have e5' : sJ7_fill_d0a16_6 F F (wJ (wJ (wJ h x0 10 (0 : Int64)) x0 9 (0 : Int64)) x0 8 (0 : Int64)) r4 (0 : Int64) (0 : Int32) (nI 2) = some o5 := by rw [← n4]; exact e5
  obtain ⟨u5, _, _⟩ := fJv (by decide) F (by decide) e5'
  rw [← Option.some.inj e]
  show hJ o7 x0 9 = 0
  rw [fI_J F e7, u5 x0 9 (fun z => by rw [← z, r0] at q4; exact absurd q4 (by decide)), r_J, if_neg (fun z => absurd z.2 (by decide)), r_J, if_pos ⟨rfl, rfl⟩]
theorem nm_s {α β : Type} {x : α} {k : α → Option β} {o : β} (e : nm x k = some o) : ∃ y, y = x ∧ k y = some o := ⟨x, rfl, e⟩
/-- origins are squares of the row -/
theorem or_in {B : Int64} {F x0 : Nat} {x4 x9 x13 : Int64} {x8 x11 x12 x16 : Int32} {K : Hp → Nat → Int64 → Int64 → Int32 → Int64 → Int32 → Int32 → Option (Int64 × Hp)} (b13 : ∀ s, bitJ x13 s = true → bitJ B s = true) (R : ∀ {h : Hp} {o : Int64 × Hp} {y : Int64} {v : Int32}, (∀ s, bitJ y s = true → bitJ B s = true) → K h x0 x4 y x8 x9 x11 v = some o → ∀ s, bitJ o.1 s = true → bitJ B s = true) : ∀ (f : Nat) {h : Hp} {o : Int64 × Hp} {x6 : Int64} {x17 : Int32}, (∀ s, bitJ x6 s = true → bitJ B s = true) → sX10_origins_116 F K f h x0 x4 x6 x8 x9 x11 x12 x13 x16 x17 = some o → ∀ s, bitJ o.1 s = true → bitJ B s = true := by
  intro f
  induction f with
  | zero => intro h o x6 x17 _ e; exact absurd e (by rw [sX10_origins_116]; exact fun z => nomatch z)
  | succ f ih =>
    intro h o x6 x17 b6 e
    rw [sX10_origins_116] at e
    unfold sX10_origins_157 at e
    rcases br_s e with ⟨_, e⟩ | ⟨_, e⟩
    · exact R b6 e
    obtain ⟨_, _, e⟩ := cl_s e
    replace e := (gd_s e).2
    rcases br_s e with ⟨_, e⟩ | ⟨_, e⟩
    · obtain ⟨o6, _, e⟩ := cl_s e
      rcases br_s e with ⟨_, e⟩ | ⟨_, e⟩
      · exact ih b6 e
      · exact ih (x6 := x6 ||| x13) (fun s hs => by
          rw [bj_or, Bool.or_eq_true] at hs
          exact hs.elim (b6 s) (b13 s)) e
    · exact ih b6 e
theorem or_45 {B : Int64} {F x0 : Nat} {x4 : Int64} {x8 x11 : Int32} : ∀ (f : Nat) {h : Hp} {o : Int64 × Hp} {x6 x9 : Int64} {x12 : Int32}, (∀ s, bitJ x6 s = true → bitJ B s = true) → (∀ s, bitJ x9 s = true → bitJ B s = true) → sX10_origins_45 F f h x0 x4 x6 x8 x9 x11 x12 = some o → ∀ s, bitJ o.1 s = true → bitJ B s = true := by
  intro f
  induction f with
  | zero => intro h o x6 x9 x12 _ _ e; exact absurd e (by rw [sX10_origins_45]; exact fun z => nomatch z)
  | succ f ih =>
    intro h o x6 x9 x12 b6 b9 e
    rw [sX10_origins_45] at e
    unfold sX10_origins_169 at e
    rcases br_s e with ⟨_, e⟩ | ⟨_, e⟩
    · rw [← Option.some.inj e]; exact b6
    rcases br_s e with ⟨_, e⟩ | ⟨_, e⟩
    · rw [← Option.some.inj e]; exact b6
    obtain ⟨v3, e3, e⟩ := nm_s e
    obtain ⟨v4, e4, e⟩ := nm_s e
    replace e := (gd_s e).2
    obtain ⟨v6, e6, e⟩ := nm_s e
    obtain ⟨_, _, e⟩ := cl_s e
    replace e := (gd_s e).2
    obtain ⟨v9, e9, e⟩ := nm_s e
    obtain ⟨_, _, e⟩ := cl_s e
    replace e := (gd_s e).2
    obtain ⟨v12, e12, e⟩ := nm_s e
    clear e6
    have b3 : ∀ s, bitJ (x9 &&& (-x9)) s = true → bitJ x9 s = true := fun s hs => by
      rw [bj_and, Bool.and_eq_true] at hs; exact hs.1
    have b4 : ∀ s, bitJ (x9 ^^^ (x9 &&& (-x9))) s = true → bitJ x9 s = true := fun s hs => by
      rw [bj_xor] at hs
      cases q : bitJ x9 s with
      | true => rfl
      | false =>
        have : bitJ (x9 &&& (-x9)) s = false := by rw [bj_and, q, Bool.false_and]
        rw [q, this] at hs
        exact absurd hs (by decide)
    exact or_in (fun s hs => b9 s (b3 s (by rw [← e3]; exact hs))) (fun b6 e => ih b6 (fun s hs => b9 s (b4 s (by rw [← e3, ← e4]; exact hs))) e) F b6 e
theorem or_sub {F x0 a3 : Nat} {h : Hp} {o : Int64 × Hp} {x1 x2 x3 : Int32} {x4 : Int64} (e3 : hR h x0 3 = some a3) (e : sX10_origins F h x0 x1 x2 x3 x4 = some o) : ∀ s, bitJ o.1 s = true → bitJ (hJ h a3 ((x1 * (64 : Int32)) + x2).toNatClampNeg) s = true := by
  have b12 : ∀ {t : Int32}, sX10_origins_12 F h x0 x1 x2 x4 (0 : Int64) t = some o → ∀ s, bitJ o.1 s = true → bitJ (hJ h a3 ((x1 * (64 : Int32)) + x2).toNatClampNeg) s = true := fun e => by
    unfold sX10_origins_12 at e
    obtain ⟨r1, e1, e⟩ := cl_s e
    replace e := (gd_s e).2
    obtain ⟨o4, _, e⟩ := cl_s e
    have : r1 = a3 := r_eq e3 e1
    subst this
    exact or_45 F (fun s hs => by rw [bj_zero] at hs; exact absurd hs (by decide)) (fun s hs => by
      rw [bj_and, Bool.and_eq_true] at hs; exact hs.1) e
  unfold sX10_origins at e
  rcases br_s e with ⟨_, e⟩ | ⟨_, e⟩
  · exact b12 e
  · exact b12 e
/-- the lowest square of a row is one of it -/
theorem low_in {h : Hp} {x : Int64} {o : Int32 × Hp} (e : sX11_lowest h x = some o) (nz : ¬ lg_cmp x (0 : Int64) = 0) : bitJ x o.1.toNatClampNeg = true := by
  unfold sX11_lowest at e
  rw [← Option.some.inj (gd_s e).2]
  exact sq_bit (cmp0 nz)
end
section
section
variable {ρ : Nat → Nat} {c : Cm} {h o : Hp} {E : Nat → Nat → Bool} {wp : Nat → Bool} {x0 x1 b3 W w i F : Nat} {x2 : Int32}
theorem zX6_layP {wx : Nat} (hF : 700000 ≤ F) (hO : pmO c wx ppL) (T : TH ρ c h) (r0 : ρ x0 = 7) (r1 : ρ x1 = 4) (w1 : cw c x1 = wx) (n1 : ¬ wx = 1603) (gx : GMq (c.2.1 50) x2) (eb : hR h x0 3 = some b3) (P : RyP ρ c b3 h) : Sat (sX6_lay F h x0 x1 x2) (fun o => TH ρ c o ∧ RyP ρ c x1 o ∧ hJ o x1 9 = hJ h b3 9 ∧ (∀ b, ρ b = 4 → ¬ b = x1 → RyP ρ c b h → RyP ρ c b o) ∧ ∀ a i, hR o a i = hR h a i) := by
  unfold sX6_lay
  refine s_ref eb ?_
  have rb : ρ b3 = 4 := rr T (thR T r0 (i := 3) (k2 := 4) rfl (by decide)) eb
  have wb : cw c b3 = 1603 := th_id T r0 (w := 1603) eb rfl (by decide)
  obtain ⟨o2, e2, T2⟩ := zX3_copyFrom (x0 := x1) (x1 := b3) hF (by rw [w1]; exact pmO_s hO rfl) T r1 rb
  refine s_val e2 ?_
  have P2 := ry_copy T r1 rb e2 P
  have J2 := cf9 T r1 rb e2
  obtain ⟨a0, f0, ra0⟩ := thR T r1 (i := 2) (k2 := 36) rfl (by decide)
  obtain ⟨a1, f1, ra1⟩ := thR T rb (i := 2) (k2 := 36) rfl (by decide)
  have R2 := (cf_all T r1 rb f0 f1 e2).1
  refine s_cI0 (zX6_takenIn hF T2 r0 (rg_top _) gx) (fun o3 e3 i3 => ?_)
  rw [e3]
  obtain ⟨L, eL, rL⟩ := thR T2 r0 (i := 0) (k2 := 2) rfl (by decide)
  have wL : cw c L = 2102 := th_id T2 r0 (w := 2102) eL rfl (by decide)
  refine s_ref eL ?_
  have hO' : pmO c wx [(34, 999), (35, 999), (36, 999), (4, 7)] := pmO_s hO rfl
  have e9 : fS [] [(wx, [(34, 999), (35, 999), (36, 999), (4, 7)])] 4 (cw c x1) 9 = false := by rw [w1]; rfl
  have put : ∀ {g : Hp} {s k : Int32}, TH ρ c g → RyP ρ c x1 g → Rg (-2) 23 k → (0 ≤ k.toInt → SqB (c.2.1 50) s) → ∃ o, sX3_put g x1 s k (hI g L 4) = some o ∧ TH ρ c o ∧ RyC ρ c g o ∧ hJ o x1 9 = hJ g x1 9 ∧ ∀ a i, hR o a i = hR g a i := fun {g s k} Tg Pg ik sq => by
    obtain ⟨og, eg, Tg'⟩ := zX3_put (c := cat c (fS [] [(wx, [(34, 999), (35, 999), (36, 999), (4, 7)])]) g) (x0 := x1) (x1 := s) (x2 := k) (x3 := hI g L 4) hF (by rw [show cw (cat c (fS [] [(wx, [(34, 999), (35, 999), (36, 999), (4, 7)])]) g) x1 = wx from w1]; exact fs_o (.head _)) (th_in _ Tg) r1 (rg_top _) ik (rg_top _) sq
    have fg := fr_u Tg Tg'.2.2
    obtain ⟨on, fo, ron⟩ := thR Tg r1 (i := 0) (k2 := 34) rfl (by decide)
    obtain ⟨ra, fra, rra⟩ := thR Tg r1 (i := 2) (k2 := 36) rfl (by decide)
    refine ⟨og, eg, th_out Tg (fs_sub pmA_n (fs_c hO' fs_n)) Tg', rc_put Tg r1 rL wL ik eg, (fg.1 x1 9 (by rw [r1]; decide) (by rw [r1]; exact e9)).2.1, (pu_all ron rra fo fra eg).1⟩
  obtain ⟨o5, e5, T5, C5, J5, R5⟩ := put (s := (x2 >>> ((6 : Int32) &&& 31)) &&& (63 : Int32)) (k := o3.1) T2 P2 (rg_m i3 (by decide)) (fun _ => gx.2.2)
  refine s_val e5 ?_
  have P5 := C5 x1 r1 P2
  have eb5 : hR o5 x0 3 = some b3 := by rw [R5, R2]; exact eb
  have eL5 : hR o5 x0 0 = some L := by rw [R5]; exact eL
  refine s_ref eb5 ?_
  refine s_ref eL5 ?_
  have im : Rg 0 11 ((x2 >>> ((12 : Int32) &&& 31)) &&& (15 : Int32)) := gx.1.1
  have ic : Rg 0 23 (((2 : Int32) * ((x2 >>> ((12 : Int32) &&& 31)) &&& (15 : Int32))) + (hI o5 b3 5)) := rg_add (rg_mulc' (rg_b rfl : Rg 2 2 (2 : Int32)) im (by decide) : Rg 0 22 _) (thI T5 rb (k := 4) (i := 5) (lo := 0) (hi := 1) rfl) (by decide)
  obtain ⟨o8, e8, T8, C8, J8, R8⟩ := put (s := x2 &&& (63 : Int32)) T5 P5 (rg_m ic (by decide)) (fun _ => gx.2.1)
  refine s_val e8 ?_
  refine s_some ⟨T8, C8 x1 r1 P5, by rw [J8, J5, J2], fun b rb' nb Pb => C8 b rb' (C5 b rb' (ry_copyo T r1 rb rb' nb e2 Pb)), fun a i => by rw [R8, R5, R2]⟩
/-- what the search for positions before keeps -/
def RI (ρ : Nat → Nat) (c : Cm) (x0 W b3 : Nat) (h : Hp) : Prop := hR h x0 3 = some b3 ∧ RyP ρ c b3 h ∧ hJ h b3 9 = 0 ∧ hR h x0 1 = some W ∧ FmT (c.2.1 50) W h ∧ LwR ρ c h
def rE : Nat → Nat → Bool := fun k i => k == 48 || (k == 7 && (i == 6 || i == 7))
theorem niceC_r : niceC rE := by
  refine ⟨fun k i hk => ?_, rfl, rfl, rfl, rfl, rfl, rfl, fun _ => rfl⟩
  unfold rE
  rw [bq_ne (show k ≠ 48 by omega), bq_ne (show k ≠ 7 by omega)]; rfl
theorem ri_sz (n : niceC E) (n1 : E 7 1 = false) (n3 : E 7 3 = false) (n11 : E 11 3 = false) (n53 : ∀ i, E 53 i = false) (hb : wp 1603 = false) (T : TH ρ c h) (r0 : ρ x0 = 7) (f : Fr ρ (cat c (SZ E wp) h) h o) (P : RI ρ c x0 W b3 h) : RI ρ c x0 W b3 o := by
  obtain ⟨e3, P3, J3, eW, fm, lw⟩ := P
  have rb : ρ b3 = 4 := rr T (thR T r0 (i := 3) (k2 := 4) rfl (by decide)) e3
  have wb : cw c b3 = 1603 := th_id T r0 (w := 1603) e3 rfl (by decide)
  have rW : ρ W = 11 := rr T (thR T r0 (i := 1) (k2 := 11) rfl (by decide)) eW
  refine ⟨?_, ry_sz n T rb wb hb f P3, ?_, ?_, fm_fr T rW f (fun _ => sz_f n11 rfl (Or.inl rfl)) (fun _ i => sz_f (n53 i) rfl (Or.inl rfl)) fm, lw_sz n T f lw⟩
  · rw [(fr_RI f r0 (by decide) (fun _ => sz_f n3 rfl (Or.inl rfl))).2.2]; exact e3
  · rw [(f.1 b3 9 (by rw [rb]; decide) (by rw [rb]; show SZ E wp 4 (cw c b3) 9 = false; rw [wb]; exact sz_f (n.1 _ _ (by omega)) rfl (Or.inr hb))).2.1]; exact J3
  · rw [(fr_RI f r0 (by decide) (fun _ => sz_f n1 rfl (Or.inl rfl))).2.2]; exact eW
def rW : Nat → Bool := fun w => w == 1503 || w == 1604
theorem tb_142 {one taken : Int32} {k : Hp → Option Hp} {Q : Hp → Prop} (hF : 700000 ≤ F) (hp : ∀ k w i, SZ rE rW k w i = true → cPm c k w i = true) (T : TH ρ c h) (r0 : ρ x0 = 7) (I : RI ρ c x0 W b3 h) (it : Rg (-1) 11 taken) (gx : GMq (c.2.1 50) one) (H : ∀ g, TH ρ c g → RI ρ c x0 W b3 g → Sat (k g) Q) : Sat (cl (hR h x0 4) fun r_2 => cl (sX6_lay F h x0 r_2 one) fun o_3 => cl (sX6_isBefore F o_3 x0 taken) fun o_4 => br (o_4.1 = 0) (k o_4.2) (cl (sX6_keep F o_4.2 x0 one) fun o_6 => k o_6)) Q := by
  obtain ⟨bd, ebd, rbd⟩ := thR T r0 (i := 4) (k2 := 4) rfl (by decide)
  have wbd : cw c bd = 1604 := th_id T r0 (w := 1604) ebd rfl (by decide)
  refine s_ref ebd ?_
  have hs : ∀ k w i, SZ noE (is 1604) k w i = true → cPm c k w i = true := fun k w i m => hp k w i (sz_sub (fun _ _ z => noE_f z) (fun w z => by rw [is_e z]; rfl) m)
  obtain ⟨o3, e3, T3', P3, J3, _, R3⟩ := zX6_layP (c := cat c (SZ noE (is 1604)) h) (x2 := one) (wx := 1604) hF (szP (sx_c _) is_s) (th_in _ T) r0 rbd wbd (by decide) gx I.1 I.2.1
  have T3 := th_out T hs T3'
  have f3 := fr_u T T3'.2.2
  have I3 := ri_sz niceC_0 rfl rfl rfl (fun _ => rfl) rfl T r0 f3 I
  refine s_val e3 ?_
  have bk : BkP ρ c x0 o3 := fun b eb' => by
    rw [R3] at eb'
    have : b = bd := r_eq ebd eb'
    subst this
    exact ⟨by rw [J3, I.2.2.1]; rfl, P3⟩
  have hs4 : ∀ k w i, SZ noE (is 1503) k w i = true → cPm c k w i = true := fun k w i m => hp k w i (sz_sub (fun _ _ z => noE_f z) (fun w z => by rw [is_e z]; rfl) m)
  refine s_cIf T3 hs4 (zX6_isBefore hF (pmA_s (szA (sx_c _)) rfl) (pmO_s (szP (sx_c _) is_s) rfl) (th_in _ T3) r0 it I3.2.2.2.2.2 bk) (fun o4 T4 i4 f4 => ?_)
  have I4 := ri_sz niceC_0 rfl rfl rfl (fun _ => rfl) rfl T3 r0 f4 I3
  refine s_br (fun _ => H _ T4 I4) (fun _ => ?_)
  have hs5 : ∀ k w i, SZ rE no k w i = true → cPm c k w i = true := fun k w i m => hp k w i (sz_sub (fun _ _ z => z) (fun _ z => no_f z) m)
  refine s_cVf T4 hs5 (zX6_keep hF (fun w k i m => sx_c _ k w i (by
      have : ((48 == k && (999 == 999 || 999 == i)) || ((7 == k && (6 == 999 || 6 == i)) || ((7 == k && (7 == 999 || 7 == i)) || false))) = true := m
      have q : rE k i = true := by
        unfold rE
        rw [Bool.or_eq_true, Bool.or_eq_true, Bool.or_false, Bool.and_eq_true, Bool.and_eq_true, Bool.and_eq_true, beq_iff_eq, beq_iff_eq] at this
        rcases this with ⟨a, _⟩ | ⟨a, b⟩ | ⟨a, b⟩
        · rw [← a]; rfl
        · rw [← a]
          have : (6 == i) = true := b
          rw [beq_iff_eq] at this
          rw [← this]; rfl
        · rw [← a]
          have : (7 == i) = true := b
          rw [beq_iff_eq] at this
          rw [← this]; rfl
      unfold SZ; rw [q]; rfl)) (th_in _ T4) r0 (rg_top _) gx) (fun o6 T6 f6 => ?_)
  exact H _ T6 (ri_sz niceC_r rfl rfl rfl (fun _ => rfl) rfl T4 r0 f6 I4)
theorem tb_in {x1 x3 : Int32} {x2 x4 : Int32} {K : Hp → Nat → Int32 → Int32 → Int32 → Int32 → Option Hp} (hF : 700000 ≤ F) (hp : ∀ k w i, SZ rE rW k w i = true → cPm c k w i = true) (r0 : ρ x0 = 7) (i1 : Rg 0 63 x1) (q1 : SqB (c.2.1 50) x1) (i2 : Rg 0 11 x2) (i4 : Rg (-1) 11 x4) (R : ∀ {h : Hp} {v : Int32}, TH ρ c h → RI ρ c x0 W b3 h → v.toInt = x4.toInt + 1 → Sat (K h x0 x1 x2 x3 v) (fun o => TH ρ c o ∧ RI ρ c x0 W b3 o)) : ∀ (f : Nat) {h : Hp} {x5 : Int64} {x7 : Int32}, TH ρ c h → RI ρ c x0 W b3 h → (∀ s, bitJ x5 s = true → SqN (c.2.1 50) s) → 0 ≤ x7.toInt → (64 - x7.toInt).toNat < f → Sat (sX6_takeBack_80 F K f h x0 x1 x2 x3 x4 x5 x7) (fun o => TH ρ c o ∧ RI ρ c x0 W b3 o) := by
  intro f
  induction f with
  | zero => intros; omega
  | succ f ih =>
    intro h x5 x7 T I b5 a7 hf
    rw [sX6_takeBack_80]
    unfold sX6_takeBack_179 sX6_takeBack_142 sX6_takeBack_173
    have up : Sat (nm (x4 + (1 : Int32)) fun v_1 => K h x0 x1 x2 x3 v_1) (fun o => TH ρ c o ∧ RI ρ c x0 W b3 o) := s_q (fun v ev => R T I (by
      rw [ev, ti_add i4 (rg_b rfl : Rg 1 1 (1 : Int32)) (by decide)]; rfl))
    refine s_br (fun _ => up) (fun n1 => ?_)
    refine s_br (fun _ => up) (fun n2 => ?_)
    refine s_br (fun _ => ?_) (fun _ => up)
    have l7 : x7.toInt < 64 := nle_i n1
    have i7 : Rg 0 63 x7 := ⟨a7, by omega⟩
    refine s_dI0 (zX11_lowest hF T) (fun o4 e4 q4 j4 => ?_)
    rw [q4]
    have lb := b5 _ (low_in e4 n2)
    have qs : SqB (c.2.1 50) o4.1 := sq_n lb (by have := nc_i j4.1; omega)
    refine s_q (fun v5 e5 => ?_)
    have b5' : ∀ s, bitJ v5 s = true → SqN (c.2.1 50) s := fun s hs => b5 s (by rw [e5, bj_and, Bool.and_eq_true] at hs; exact hs.1)
    have nx : ∀ g, TH ρ c g → RI ρ c x0 W b3 g → Sat (nm (x7 + (1 : Int32)) fun v_1 => sX6_takeBack_80 F K f g x0 x1 x2 x3 x4 v5 v_1) (fun o => TH ρ c o ∧ RI ρ c x0 W b3 o) := fun g Tg Ig => s_q (fun v ev => ih Tg Ig b5' (by rw [ev, (nc_s i7 (by decide)).2]; omega) (by rw [ev, (nc_s i7 (by decide)).2]; omega))
    refine s_br (fun _ => ?_) (fun n => ?_)
    · refine s_q (fun v1 e1 => ?_)
      exact tb_142 hF hp T r0 I i4 (by rw [e1]; exact gq_one j4 i1 i2 (Or.inr rfl) qs q1) nx
    · refine s_q (fun v1 e1 => ?_)
      exact tb_142 hF hp T r0 I i4 (by rw [e1]; exact gq_one j4 i1 i2 (Or.inl (rg_nlo n i4 (rg_b rfl : Rg (-1) (-1) (-1 : Int32)))) qs q1) nx
theorem tb_out {x1 x2 x3 : Int32} (hF : 700000 ≤ F) (hp : ∀ k w i, SZ rE rW k w i = true → cPm c k w i = true) (r0 : ρ x0 = 7) (i1 : Rg 0 63 x1) (q1 : SqB (c.2.1 50) x1) (i2 : Rg 0 11 x2) (i3 : Rg 0 23 x3) : ∀ (f : Nat) {h : Hp} {x4 : Int32}, TH ρ c h → RI ρ c x0 W b3 h → -1 ≤ x4.toInt → (13 - x4.toInt).toNat < f → Sat (sX6_takeBack_15 F f h x0 x1 x2 x3 x4) (fun o => TH ρ c o ∧ RI ρ c x0 W b3 o) := by
  intro f
  induction f with
  | zero => intros; omega
  | succ f ih =>
    intro h x4 T I a4 hf
    rw [sX6_takeBack_15]
    obtain ⟨L, eL, rL⟩ := thR T r0 (i := 0) (k2 := 2) rfl (by decide)
    have mL := thI T rL (k := 2) (i := 3) (lo := 0) (hi := 12) rfl
    refine s_ref eL ?_
    refine s_br (fun _ => s_some ⟨T, I⟩) (fun n1 => ?_)
    have l4 := nle_i n1
    have i4 : Rg (-1) 11 x4 := ⟨a4, by have := mL.2; omega⟩
    have ev1 : (x4 + (1 : Int32)).toInt = x4.toInt + 1 := by
      rw [ti_add i4 (rg_b rfl : Rg 1 1 (1 : Int32)) (by decide)]; rfl
    have b65 : ∀ {t : Int32}, Rg 0 1 t → Sat (sX6_takeBack_65 F (sX6_takeBack_15 F f) h x0 x1 x2 x3 x4 t x1 x3 W) (fun o => TH ρ c o ∧ RI ρ c x0 W b3 o) := fun {t} it => by
      unfold sX6_takeBack_65
      refine s_ref I.1 ?_
      have rb : ρ b3 = 4 := rr T (thR T r0 (i := 3) (k2 := 4) rfl (by decide)) I.1
      have rW' : ρ W = 11 := rr T (thR T r0 (i := 1) (k2 := 11) rfl (by decide)) I.2.2.2.1
      refine s_dJ0 (zX3_occupied hF T rb) (fun o2 _ q2 => ?_)
      rw [q2]
      refine s_dJ0 (zX10_origins hF T rW' i3 i1 it) (fun o3 e3 q3 => ?_)
      rw [q3]
      obtain ⟨a3, ea3, qa3⟩ := thR T rW' (i := 3) (k2 := 53) rfl (by decide)
      have sub := or_sub ea3 e3
      have lx : ((x3 * (64 : Int32)) + x1).toNatClampNeg < 1536 := by
        have := rg_clamp (n := 1535) (rg_add (rg_mulc i3 (rg_b rfl : Rg 64 64 (64 : Int32)) (by decide) : Rg 0 1472 (x3 * (64 : Int32))) i1 (by decide) : Rg 0 1535 _) (by decide)
        omega
      exact tb_in hF hp r0 i1 q1 i2 i4 (fun T I ev => ih T I (by omega) (by have := i4.2; omega)) F T I (fun s hs => I.2.2.2.2.1 a3 ea3 _ lx s (sub s hs)) (by decide) (by show (64 - (0 : Int)).toNat < F; omega)
    have b48 : Sat (sX6_takeBack_48 F (sX6_takeBack_15 F f) h x0 x1 x2 x3 x4) (fun o => TH ρ c o ∧ RI ρ c x0 W b3 o) := by
      unfold sX6_takeBack_48
      refine s_ref I.2.2.2.1 ?_
      exact s_br (fun _ => b65 (rg_b rfl)) (fun _ => b65 (rg_b rfl))
    refine s_br (fun _ => b48) (fun _ => ?_)
    refine s_ref eL ?_
    refine s_br (fun _ => ?_) (fun _ => b48)
    unfold sX6_takeBack_179
    exact s_q (fun v ev => ih T I (by rw [ev]; omega) (by rw [ev]; have := i4.2; omega))
theorem zX6_takeBack {x1 x2 : Int32} (hF : 700000 ≤ F) (hp : ∀ k w i, SZ rE rW k w i = true → cPm c k w i = true) (T : TH ρ c h) (r0 : ρ x0 = 7) (i1 : Rg 0 63 x1) (q1 : SqB (c.2.1 50) x1) (i2 : Rg 0 11 x2) (I : RI ρ c x0 W b3 h) : Sat (sX6_takeBack F h x0 x1 x2) (fun o => TH ρ c o ∧ RI ρ c x0 W b3 o) := by
  unfold sX6_takeBack
  refine s_ref I.1 ?_
  have rb : ρ b3 = 4 := rr T (thR T r0 (i := 3) (k2 := 4) rfl (by decide)) I.1
  refine s_q (fun v ev => ?_)
  have iv : Rg 0 23 v := by
    rw [ev]
    exact rg_add (rg_mulc' (rg_b rfl : Rg 2 2 (2 : Int32)) i2 (by decide) : Rg 0 22 _) (thI T rb (k := 4) (i := 5) (lo := 0) (hi := 1) rfl) (by decide)
  exact tb_out hF hp r0 i1 q1 i2 iv F T I (by decide) (by show (13 - (-1 : Int)).toNat < F; omega)
end
end
