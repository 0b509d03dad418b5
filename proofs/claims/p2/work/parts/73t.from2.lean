section
variable {ρ : Nat → Nat} {c : Cm} {h o g : Hp} {x0 a3 F : Nat} {P Q : Nat → Prop}
theorem la_18 {K : Hp → Nat → Int32 → Option Hp} {x1 : Int32} (n5 : ∀ {h : Hp} {r : Nat}, WR ρ x0 h → hR h x0 3 = some a3 → hR h x0 5 = some r → a3 ≠ r) (R : ∀ {h o : Hp} {v : Int32}, WR ρ x0 h → hR h x0 3 = some a3 → K h x0 v = some o → Ks ρ h o ∧ Bt a3 (fun _ => False) h o) : ∀ (f : Nat) {h o : Hp} {x2 : Int64} {x4 : Int32}, WR ρ x0 h → hR h x0 3 = some a3 → sX10_layAround_18 F K f h x0 x1 x2 x4 = some o → Ks ρ h o ∧ Bt a3 (fun _ => False) h o := by
  intro f
  induction f with
  | zero => intro h o x2 x4 _ _ e; exact absurd e (by rw [sX10_layAround_18]; exact fun z => nomatch z)
  | succ f ih =>
    intro h o x2 x4 w e3 e
    rw [sX10_layAround_18] at e
    unfold sX10_layAround_96 at e
    rcases br_s e with ⟨_, e⟩ | ⟨_, e⟩
    · obtain ⟨r2, e2, e⟩ := cl_s e
      replace e := (gd_s e).2
      have k1 : Ks ρ h (wJ h r2 x1.toNatClampNeg x2) := ks_J
      obtain ⟨k2, b2⟩ := R (wr_k k1 w) e3 e
      exact ⟨ks_t k1 k2, bt_t (bt_J (n5 w e3 e2)) b2⟩
    obtain ⟨_, _, e⟩ := cl_s e
    obtain ⟨_, _, e⟩ := cl_s e
    replace e := (gd_s e).2
    obtain ⟨_, _, e⟩ := cl_s e
    obtain ⟨_, _, e⟩ := cl_s e
    replace e := (gd_s e).2
    rcases br_s e with ⟨_, e⟩ | ⟨_, e⟩
    · exact ih w e3 e
    obtain ⟨o15, e15, e⟩ := cl_s e
    have q := ison_h e15
    rcases br_s e with ⟨_, e⟩ | ⟨_, e⟩
    · rw [q] at e; exact ih w e3 e
    obtain ⟨_, _, e⟩ := cl_s e
    rw [q] at e
    exact ih w e3 e
theorem la_2 (n5 : ∀ {h : Hp} {r : Nat}, WR ρ x0 h → hR h x0 3 = some a3 → hR h x0 5 = some r → a3 ≠ r) : ∀ (f : Nat) {h o : Hp} {x1 : Int32}, WR ρ x0 h → hR h x0 3 = some a3 → sX10_layAround_2 F f h x0 x1 = some o → Ks ρ h o ∧ Bt a3 (fun _ => False) h o := by
  intro f
  induction f with
  | zero => intro h o x1 _ _ e; exact absurd e (by rw [sX10_layAround_2]; exact fun z => nomatch z)
  | succ f ih =>
    intro h o x1 w e3 e
    rw [sX10_layAround_2] at e
    obtain ⟨_, _, e⟩ := cl_s e
    rcases br_s e with ⟨_, e⟩ | ⟨_, e⟩
    · rw [← Option.some.inj e]; exact ⟨ks_0, bt_0⟩
    · exact la_18 n5 (fun w e3 e => ih w e3 e) F w e3 e
theorem wr_n5 {h : Hp} {r : Nat} (w : WR ρ x0 h) (e3 : hR h x0 3 = some a3) (e : hR h x0 5 = some r) : a3 ≠ r := fun z => by
  have q3 : ρ a3 = 53 := w 3 a3 (by decide) e3
  have q5 : ρ r = 55 := w 5 r (by decide) e
  rw [z, q5] at q3; exact absurd q3 (by decide)
/-- the squares of the law that is laid -/
def Told (ρ : Nat → Nat) (L : Nat) (n : Int32) (s : Nat) : Prop := (s : Int) < n.toInt
theorem lay_43 {K : Hp → Nat → Int32 → Option Hp} {x2 n : Int32} {L : Nat} (r0 : ρ x0 = 11) (rL : ρ L = 2) (R : ∀ {h o : Hp} {v : Int32}, WR ρ x0 h → hR h x0 3 = some a3 → hR h x0 7 = some L → hI h L 2 = n → K h x0 v = some o → Ks ρ h o ∧ Bt a3 (fun s => (s : Int) < n.toInt) h o) : ∀ (f : Nat) {h o : Hp} {x3 : Int32}, 0 ≤ x3.toInt → WR ρ x0 h → hR h x0 3 = some a3 → hR h x0 7 = some L → hI h L 2 = n → sX10_lay_43 F K f h x0 x2 x3 = some o → Ks ρ h o ∧ Bt a3 (fun s => (s : Int) < n.toInt) h o := by
  intro f
  induction f with
  | zero => intro h o x3 _ _ _ _ _ e; exact absurd e (by rw [sX10_lay_43]; exact fun z => nomatch z)
  | succ f ih =>
    intro h o x3 i0 w e3 e7 en e
    rw [sX10_lay_43] at e
    rcases br_s e with ⟨_, e⟩ | ⟨n1, e⟩
    · exact R w e3 e7 en e
    have l64 : x3.toInt < 64 := nle_i n1
    have i3 : Rg 0 63 x3 := ⟨i0, by omega⟩
    obtain ⟨o3, eo, e⟩ := cl_s e
    obtain ⟨k1, b1⟩ := lf_all r0 i3 w e3 eo
    have b1' : Bt a3 (fun s => (s : Int) < n.toInt) h o3 := bt_m (fun s hs => by
      have := hs.2 L e7
      rw [en] at this
      have := nc_i i0
      rw [hs.1]; omega) b1
    have e7' : hR o3 x0 7 = some L := by rw [k1.1]; exact e7
    have en' : hI o3 L 2 = n := by rw [k1.2 L 2 rL]; exact en
    obtain ⟨k2, b2⟩ := ih (by rw [(nc_s i3 (by decide)).2]; omega) (wr_k k1 w) (by rw [k1.1]; exact e3) e7' en' e
    exact ⟨ks_t k1 k2, bt_t b1' b2⟩
theorem lay_28 {n : Int32} {L : Nat} (r0 : ρ x0 = 11) (rL : ρ L = 2) : ∀ (f : Nat) {h o : Hp} {x2 : Int32}, WR ρ x0 h → hR h x0 3 = some a3 → hR h x0 7 = some L → hI h L 2 = n → sX10_lay_28 F f h x0 x2 = some o → Ks ρ h o ∧ Bt a3 (fun s => (s : Int) < n.toInt) h o := by
  intro f
  induction f with
  | zero => intro h o x2 _ _ _ _ e; exact absurd e (by rw [sX10_lay_28]; exact fun z => nomatch z)
  | succ f ih =>
    intro h o x2 w e3 e7 en e
    rw [sX10_lay_28] at e
    obtain ⟨_, _, e⟩ := cl_s e
    rcases br_s e with ⟨_, e⟩ | ⟨_, e⟩
    · obtain ⟨r3, er3, e⟩ := cl_s e
      obtain ⟨r4, _, e⟩ := cl_s e
      replace e := (gd_s e).2
      obtain ⟨o7, e7', e⟩ := cl_s e
      have q3 : ρ r3 = 50 := w 0 r3 (by decide) er3
      have k1 : Ks ρ h (wI h r3 ((((2 : Int32) * (hI h r4 3)) * (64 : Int32)) * (64 : Int32)).toNatClampNeg (hI h x0 8)) := ks_I (by rw [q3]; decide)
      unfold sX10_layAround at e7'
      obtain ⟨k2, b2⟩ := la_2 (fun w e3 e => wr_n5 w e3 e) F (wr_k k1 w) e3 e7'
      rw [← Option.some.inj e]
      exact ⟨ks_t k1 k2, bt_t bt_I (bt_m (fun _ z => z.elim) b2)⟩
    · exact lay_43 r0 rL (fun w e3 e7 en e => ih w e3 e7 en e) F (by decide) w e3 e7 en e
theorem fJv {F r : Nat} {v : Int64} {n : Nat} (hn : n < 2 ^ 31) : ∀ (f : Nat) {h o : Hp} {x3 : Int32}, 0 ≤ x3.toInt → sJ7_fill_d0a16_6 F f h r v x3 (nI n) = some o → (∀ a i, ¬ a = r → hJ o a i = hJ h a i) ∧ (∀ s : Nat, (s : Int) < x3.toInt → hJ o r s = hJ h r s) ∧ ∀ s : Nat, x3.toInt ≤ s → s < n → hJ o r s = v := by
  intro f
  induction f with
  | zero => intro h o x3 _ e; exact absurd e (by rw [sJ7_fill_d0a16_6]; exact fun z => nomatch z)
  | succ f ih =>
    intro h o x3 l0 e
    rw [sJ7_fill_d0a16_6] at e
    have tn : (nI n).toInt = (n : Int) := z_toInt hn
    rcases br_s e with ⟨c1, e⟩ | ⟨c1, e⟩
    · rw [← Option.some.inj e]
      have := le_i c1
      exact ⟨fun _ _ _ => rfl, fun _ _ => rfl, fun s h1 h2 => by omega⟩
    · have l1 := nle_i c1
      replace e := (gd_s e).2
      have m : (x3 + (1 : Int32)).toInt = x3.toInt + 1 := rg_inc (a := 0) (b := (n : Int) - 1) ⟨l0, by omega⟩ (by omega)
      obtain ⟨a1, a2, a3⟩ := ih (x3 := x3 + (1 : Int32)) (by omega) e
      have nx := nc_i l0
      refine ⟨fun a i ha => ?_, fun s hs => ?_, fun s h1 h2 => ?_⟩
      · rw [a1 a i ha, r_J, if_neg (fun z => ha z.1)]
      · rw [a2 s (by omega), r_J, if_neg (fun z => by omega)]
      · by_cases z : (s : Int) = x3.toInt
        · rw [a2 s (by omega), r_J, if_pos ⟨rfl, by omega⟩]
        · exact a3 s (by omega) h2
/-- squares that ways come from are told -/
def FmT (q : Bool) (x0 : Nat) (h : Hp) : Prop := ∀ r, hR h x0 3 = some r → ∀ i, i < 1536 → ∀ s, bitJ (hJ h r i) s = true → SqN q s
theorem fm_fr {S : Nat → Nat → Nat → Bool} {q : Bool} (T : TH ρ c h) (r0 : ρ x0 = 11) (f : Fr ρ (cat c S h) h o) (s1 : ∀ w, S 11 w 3 = false) (s2 : ∀ w i, S 53 w i = false) (P : FmT q x0 h) : FmT q x0 o := fun r er i hi s hb => by
  rw [(fr_RI f r0 (by decide) s1).2.2] at er
  obtain ⟨q1, f1, g1⟩ := thR T r0 (i := 3) (k2 := 53) rfl (by decide)
  rw [(fr_RI f (show ρ r = 53 by rw [r_eq f1 er]; exact g1) (by decide) (fun _ => s2 _ _)).2.1] at hb
  exact P r er i hi s hb
theorem lay_fm {L : Nat} (hF : 700000 ≤ F) (T : TH ρ c h) (r0 : ρ x0 = 11) (rL : ρ L = 2) (wL : cw c L = 2102) (lw : LwR ρ c h) (e : sX10_lay F h x0 L = some o) : FmT (c.2.1 50) x0 o := by
  unfold sX10_lay at e
  obtain ⟨r3, e3, e⟩ := cl_s e
  obtain ⟨o4, e4, e⟩ := cl_s e
  obtain ⟨r5, e5, e⟩ := cl_s e
  obtain ⟨o6, e6, e⟩ := cl_s e
  have w0 : WR ρ x0 (wI (wR h x0 7 (some L)) x0 8 (0 : Int32)) := fun k r hk er => by
    have er' : (if x0 = x0 ∧ k = 7 then some L else hR h x0 k) = some r := by rw [← r_R]; exact er
    by_cases z : k = 7
    · rw [if_pos ⟨rfl, z⟩] at er'
      rw [← Option.some.inj er', z]; exact rL
    · rw [if_neg (fun y => z y.2)] at er'
      have q : ∀ j m, rfK 11 j = m → m ≠ 0 → hR h x0 j = some r → ρ r = m := fun j m h1 h2 h3 => by
        obtain ⟨q1, f1, g1⟩ := thR T r0 (i := j) (k2 := m) h1 h2
        rw [r_eq f1 h3]; exact g1
      have hk7 : k < 7 := by omega
      match k, hk7, er' with
      | 0, _, er' => exact q 0 50 rfl (by decide) er'
      | 1, _, er' => exact q 1 51 rfl (by decide) er'
      | 2, _, er' => exact q 2 52 rfl (by decide) er'
      | 3, _, er' => exact q 3 53 rfl (by decide) er'
      | 4, _, er' => exact q 4 54 rfl (by decide) er'
      | 5, _, er' => exact q 5 55 rfl (by decide) er'
      | 6, _, er' => exact q 6 56 rfl (by decide) er'
  have q3 : ρ r3 = 53 := w0 3 r3 (by decide) e3
  have n3 : hN (wI (wR h x0 7 (some L)) x0 8 (0 : Int32)) r3 = 1536 := thN T q3 (k := 53) (n := 1536) rfl (by decide)
  unfold sJ7_fill_d0a16 at e4 e6
  have e4' : sJ7_fill_d0a16_6 F F (wI (wR h x0 7 (some L)) x0 8 (0 : Int32)) r3 (0 : Int64) (0 : Int32) (nI 1536) = some o4 := by rw [← n3]; exact e4
  obtain ⟨⟨g4, m4⟩, i4⟩ := fJ F e4'
  obtain ⟨_, _, v4⟩ := fJv (by decide) F (by decide) e4'
  have q5 : ρ r5 = 54 := w0 4 r5 (by decide) (by rw [g4] at e5; exact e5)
  have n5 : hN o4 r5 = 1536 := by rw [m4]; exact thN T q5 (k := 54) (n := 1536) rfl (by decide)
  have e6' : sJ7_fill_d0a16_6 F F o4 r5 (0 : Int64) (0 : Int32) (nI 1536) = some o6 := by rw [← n5]; exact e6
  obtain ⟨⟨g6, m6⟩, i6⟩ := fJ F e6'
  obtain ⟨u6, _, _⟩ := fJv (by decide) F (by decide) e6'
  have k6 : ∀ a i, hR o6 a i = hR (wI (wR h x0 7 (some L)) x0 8 (0 : Int32)) a i := fun a i => by rw [g6, g4]
  have w6 : WR ρ x0 o6 := fun k r hk er => w0 k r hk (by rw [← k6]; exact er)
  have e36 : hR o6 x0 3 = some r3 := by rw [k6]; exact e3
  have e76 : hR o6 x0 7 = some L := by
    rw [k6]
    show hR (wR h x0 7 (some L)) x0 7 = some L
    rw [r_R, if_pos ⟨rfl, rfl⟩]
  have nL : hI o6 L 2 = hI h L 2 := by
    rw [i6, i4, r_I, if_neg (ne_r rL r0 (by decide))]; rfl
  obtain ⟨k7, b7⟩ := lay_28 (n := hI h L 2) r0 rL F w6 e36 e76 nL e
  intro r er i hi s hb
  rw [k7.1, e36] at er
  have : r = r3 := (Option.some.inj er).symm
  subst this
  rcases b7 i s hb with z | z
  · have n35 : ¬ r = r5 := fun y => by rw [y, q5] at q3; exact absurd q3 (by decide)
    rw [u6 r i n35, v4 i (by show (0 : Int) ≤ _; omega) hi, bj_zero] at z
    exact absurd z (by decide)
  · have iL := thI T rL (k := 2) (i := 2) (lo := 0) (hi := 64) rfl
    have i64 : (s : Int) < 64 := by have := iL.2; omega
    have sx : (nI s).toInt = (s : Int) := z_toInt (by omega)
    have := lw_sq lw rL wL (x := nI s) (by rw [sx]; exact z)
    exact this.imp id (fun y => by rw [sx] at y; omega)
end
