/-! the class: all vectors of a STEP, all STEPS of a man -/
def htV (L : Nat → Nat → Int) (j : Nat) (sd : Int) (s e : Nat) (k : Int) (t : Nat) : Prop := 1 ≤ k ∧ k ≤ L 78 j ∧ onK (L 0 0) (L 1 0) s (vXi (L 76 j) (L 77 j) (fbt (L 75 j) 2) e) (vYi (L 76 j) (L 77 j) sd (fbt (L 75 j) 2) e) k ∧ (t : Int) = tgt (L 0 0) s (vXi (L 76 j) (L 77 j) (fbt (L 75 j) 2) e) (vYi (L 76 j) (L 77 j) sd (fbt (L 75 j) 2) e) k
def TmD (L : Nat → Nat → Int) (j : Nat) (sd : Int) (s d : Nat) (x : Int) (t : Nat) : Prop := (x = 0 ∧ ∀ (e : Nat) (k : Int), e < d → ¬ htV L j sd s e k t) ∨ ∃ e, e < d ∧ htV L j sd s e x t
def TmS (L : Nat → Nat → Int) (j : Nat) (sd : Int) (s t : Nat) (x : Int) : Prop := (x = 0 ∧ ∀ k, ¬ RchL L j sd s t k) ∨ RchL L j sd s t x
def RcS (L : Nat → Nat → Int) (V : Nat → Nat) (m : Nat) (sd : Int) (s n : Nat) (h : Hp) : Prop := ∀ t i : Nat, t < 64 → i < 8 → (i < n → TmS L (8 * m + i) sd s t (hI h (V 56) (t * 8 + i)).toInt) ∧ (n ≤ i → hI h (V 56) (t * 8 + i) = 0)
theorem rch_h {L : Nat → Nat → Int} {j : Nat} {sd : Int} {s t : Nat} {k : Int} : RchL L j sd s t k ↔ (L 79 j = 0 ∨ L 79 j = rkF L s sd) ∧ ∃ e, e < 8 ∧ htV L j sd s e k t := by
  constructor
  · rintro ⟨f, k1, k2, d, hd, a, b⟩
    exact ⟨f, d, hd, k1, k2, a, b⟩
  · rintro ⟨f, d, hd, k1, k2, a, b⟩
    exact ⟨f, k1, k2, d, hd, a, b⟩
theorem ht_fo {L : Nat → Nat → Int} {j : Nat} {sd : Int} {s e e' : Nat} {k : Int} {t : Nat} (fo : fbt (L 75 j) 2 = true) (h : htV L j sd s e k t) : htV L j sd s e' k t := by
  unfold htV at h ⊢
  unfold vXi vYi at h ⊢
  rw [if_pos fo, if_pos fo] at h ⊢
  exact h
section
variable {F : Nat} {V : Nat → Nat} {L : Nat → Nat → Int} {o : Int64 × Hp}
theorem rc_123 (D : VD V) {K : Hp → Nat → Int32 → Int32 → Int32 → Int64 → Int32 → Option (Int64 × Hp)} {x1 x2 x3 x6 x7 x10 : Int32} {j : Nat} {Q : Nat → Prop} (H : LOk L) (J : StR L j) (ew : x7.toInt = wrdI L j) (i2 : 0 ≤ x2.toInt) (sL : x2.toInt < L 0 0 * L 1 0) (i6 : 0 ≤ x6.toInt ∧ x6.toInt < 8) (i1 : 0 ≤ x1.toInt) (ix : x10.toInt = if fbt (L 75 j) 2 = true then 1 else 8) : ∀ (f : Nat) {h : Hp} {x4 : Int64} {x11 : Int32}, WLf V h → CLq V h L → 0 ≤ x11.toInt → x11.toInt ≤ x10.toInt → (∀ t, t < 64 → TmD L j (x1.toInt % 2) x2.toNatClampNeg x11.toNatClampNeg (hI h (V 56) (t * 8 + x6.toNatClampNeg)).toInt t) → (∀ t, t < 64 → (bitJ x4 t = true ↔ Q t ∨ ∃ (e : Nat) (k : Int), e < x11.toNatClampNeg ∧ htV L j (x1.toInt % 2) x2.toNatClampNeg e k t)) → sX10_reach_123 F K f h (V 11) x1 x2 x3 x4 x6 x7 x10 x11 = some o → ∃ (g : Hp) (y4 : Int64), FrV V (wl [(56, 999)]) h g ∧ (∀ x : Nat, (∀ t, t < 64 → ¬ x = t * 8 + x6.toNatClampNeg) → hI g (V 56) x = hI h (V 56) x) ∧ (∀ t, t < 64 → TmD L j (x1.toInt % 2) x2.toNatClampNeg x10.toNatClampNeg (hI g (V 56) (t * 8 + x6.toNatClampNeg)).toInt t) ∧ (∀ t, t < 64 → (bitJ y4 t = true ↔ Q t ∨ ∃ (e : Nat) (k : Int), e < x10.toNatClampNeg ∧ htV L j (x1.toInt % 2) x2.toNatClampNeg e k t)) ∧ sX10_reach_155 F K g (V 11) x1 x2 x3 y4 x6 = some o := by
  have z1 : (1 : Int32).toInt = 1 := rfl
  have z8 : (8 : Int32).toInt = 8 := rfl
  have sq := sq_64 H
  have fi := H.1
  have c2 := nc_i i2
  have c6 := nc_i i6.1
  have b10 : 0 ≤ x10.toInt ∧ x10.toInt ≤ 8 := by rw [ix]; split <;> omega
  have sdv : (x1 &&& (1 : Int32)).toInt = x1.toInt % 2 := and1_i i1
  intro f
  induction f with
  | zero => intro h x4 x11 _ _ _ _ _ _ e; exact absurd e (by rw [sX10_reach_123]; exact fun z => nomatch z)
  | succ f ih =>
    intro h x4 x11 W P a11 b11 tm' bits e
    have c11 := nc_i a11
    rw [sX10_reach_123] at e
    rcases br_s e with ⟨l, e⟩ | ⟨l, e⟩
    · have l := le_i l
      have ee : x10 = x11 := Int32.toInt_inj.mp (by omega)
      rw [ee]
      exact ⟨h, x4, fv_0, fun _ _ => rfl, tm', bits, e⟩
    have l := nle_i l
    replace e := cl_s e; obtain ⟨o2, eo2, e⟩ := e
    obtain ⟨X, Y, vx, vy, eo2⟩ := rd_val J ew ⟨a11, by omega⟩ ⟨by rw [sdv]; omega, by rw [sdv]; omega⟩ (fun fo => Int32.toInt_inj.mp (by
      rw [if_pos fo] at ix
      show x11.toInt = 0
      omega)) W eo2
    rw [sdv] at vy
    have vr := v_rg (a := L 76 j) (b := L 77 j) (sd := x1.toInt % 2) (fo := fbt (L 75 j) 2) (d := x11.toNatClampNeg) J.2.1 J.2.2.1
    have nz := v_nz (sd := x1.toInt % 2) (fo := fbt (L 75 j) 2) (d := x11.toNatClampNeg) J.2.2.2.1
    rw [← vx, ← vy] at vr nz
    have ff := P.2.2.2.2.2 x2.toNatClampNeg (by omega)
    have m0 : 0 ≤ (x2.toNatClampNeg : Int) % L 0 0 := Int.emod_nonneg _ (by omega)
    have m1 : (x2.toNatClampNeg : Int) % L 0 0 < L 0 0 := Int.emod_lt_of_pos _ (by omega)
    have d0 : 0 ≤ (x2.toNatClampNeg : Int) / L 0 0 := Int.ediv_nonneg (by omega) (by omega)
    have d1 : (x2.toNatClampNeg : Int) / L 0 0 ≤ 64 := Int.le_trans (Int.ediv_le_self _ (by omega)) (by omega)
    obtain ⟨r1, r2, r3, r4⟩ := rd_158 (s := x2.toNatClampNeg) D H J ew (by omega) i6 vr.1 vr.2 nz F W P (by decide) (by decide) (by rw [ta (by rw [ff.1]; omega), ff.1, z1, Int.one_mul]) (by rw [ta (by rw [ff.2]; omega), ff.2, z1, Int.one_mul]) eo2
    rw [z1] at r2 r3 r4
    have ht : ∀ (k : Int) (t : Nat), htV L j (x1.toInt % 2) x2.toNatClampNeg x11.toNatClampNeg k t ↔ 1 ≤ k ∧ k ≤ L 78 j ∧ onK (L 0 0) (L 1 0) x2.toNatClampNeg X.toInt Y.toInt k ∧ (t : Int) = tgt (L 0 0) x2.toNatClampNeg X.toInt Y.toInt k := fun k t => by
      unfold htV
      rw [vx, vy]
    replace e := nm_s e; obtain ⟨v3, u3, e⟩ := e
    replace e := nm_s e; obtain ⟨v4, u4, e⟩ := e
    have t4 : v4.toInt = x11.toInt + 1 := by rw [u4, ta (by rw [z1]; omega), z1]
    have c4 : v4.toNatClampNeg = x11.toNatClampNeg + 1 := by
      have := nc_i (x := v4) (by omega)
      omega
    obtain ⟨g, y4, q1, q2, q3, q4, q5⟩ := ih (wlf_f W r1) (clw_f D P r1 (by decide)) (x4 := v3) (by omega) (by omega) (fun t ht' => by
      rw [c4]
      by_cases c : ∃ k, htV L j (x1.toInt % 2) x2.toNatClampNeg x11.toNatClampNeg k t
      · obtain ⟨k, hk⟩ := c
        have hk' := hk
        obtain ⟨a, b, c, d⟩ := (ht k t).mp hk'
        have v := r2 k a b c
        rw [← d, show ((t : Int) * 8 + x6.toInt).toNat = t * 8 + x6.toNatClampNeg by omega] at v
        exact Or.inr ⟨x11.toNatClampNeg, by omega, by rw [v]; exact hk⟩
      · have v := r3 (t * 8 + x6.toNatClampNeg) (fun k a b d z => c ⟨k, (ht k t).mpr ⟨a, b, d, by omega⟩⟩)
        rw [v]
        rcases tm' t ht' with ⟨a, b⟩ | ⟨e', a, b⟩
        · refine Or.inl ⟨a, fun e' k he hh => ?_⟩
          by_cases y : e' = x11.toNatClampNeg
          · rw [y] at hh; exact c ⟨k, hh⟩
          · exact b e' k (by omega) hh
        · exact Or.inr ⟨e', by omega, b⟩) (fun t ht' => by
      rw [u3, bj_or, Bool.or_eq_true, bits t ht', r4 t ht', bj_zero, c4]
      constructor
      · rintro ((z | ⟨e', k, a, b⟩) | (z | ⟨k, a, b, d, g⟩))
        · exact Or.inl z
        · exact Or.inr ⟨e', k, by omega, b⟩
        · exact absurd z (by decide)
        · exact Or.inr ⟨x11.toNatClampNeg, k, by omega, (ht k t).mpr ⟨a, b, d, g⟩⟩
      · rintro (z | ⟨e', k, a, b⟩)
        · exact Or.inl (Or.inl z)
        · by_cases y : e' = x11.toNatClampNeg
          · rw [y] at b
            exact Or.inr (Or.inr ⟨k, (ht k t).mp b⟩)
          · exact Or.inl (Or.inr ⟨e', k, by omega, b⟩)) e
    refine ⟨g, y4, fv_t r1 q1, fun x hx => ?_, q3, q4, q5⟩
    rw [q2 x hx, r3 x (fun k a b c z => ?_)]
    obtain ⟨p0, p1, _⟩ := tgt_on (show 0 < L 0 0 by omega) c
    exact hx (tgt (L 0 0) x2.toNatClampNeg X.toInt Y.toInt k).toNat (by omega) (by omega)
/-- all STEPS of a man -/
theorem rc_10 (D : VD V) {x1 x2 x3 : Int32} {m : Nat} (H : LOk L) (i2 : 0 ≤ x2.toInt) (sL : x2.toInt < L 0 0 * L 1 0) (i1 : 0 ≤ x1.toInt) (mL : (m : Int) < L 2 0) (em : x3.toInt = m) : ∀ (f : Nat) {h : Hp} {x4 : Int64} {x6 : Int32}, WLf V h → CLq V h L → 0 ≤ x6.toInt → x6.toInt ≤ L 74 m → RcS L V m (x1.toInt % 2) x2.toNatClampNeg x6.toNatClampNeg h → (∀ t, t < 64 → (bitJ x4 t = true ↔ ∃ (i : Nat) (k : Int), i < x6.toNatClampNeg ∧ RchL L (8 * m + i) (x1.toInt % 2) x2.toNatClampNeg t k)) → sX10_reach_10 F f h (V 11) x1 x2 x3 x4 x6 = some o → FrV V (wl [(56, 999)]) h o.2 ∧ RcS L V m (x1.toInt % 2) x2.toNatClampNeg (L 74 m).toNat o.2 ∧ ∀ t, t < 64 → (bitJ o.1 t = true ↔ ∃ (i : Nat) (k : Int), (i : Int) < L 74 m ∧ RchL L (8 * m + i) (x1.toInt % 2) x2.toNatClampNeg t k) := by
  have z1 : (1 : Int32).toInt = 1 := rfl
  have z0 : (0 : Int32).toInt = 0 := rfl
  have z8 : (8 : Int32).toInt = 8 := rfl
  have sq := sq_64 H
  have fi := H.1
  have ra := H.2.1
  have L2 := H.2.2.1
  obtain ⟨H74, Hst⟩ := H.2.2.2 _ mL
  have c2 := nc_i i2
  have c3 : x3.toNatClampNeg = m := by
    have := nc_i (x := x3) (by omega)
    omega
  have sdv : (x1 &&& (1 : Int32)).toInt = x1.toInt % 2 := and1_i i1
  intro f
  induction f with
  | zero => intro h x4 x6 _ _ _ _ _ _ e; exact absurd e (by rw [sX10_reach_10]; exact fun z => nomatch z)
  | succ f ih =>
    intro h x4 x6 W P a6 b6 R bits e
    have c6 := nc_i a6
    rw [sX10_reach_10] at e
    have l74 := (P.2.2.2.2.1 m mL).1
    replace e := ce_e W.2.1 e
    replace e := ce_e W.2.2.2.1 e
    replace e := gg_e e
    rw [c3] at e
    rcases br_s e with ⟨l, e⟩ | ⟨l, e⟩
    · have l := le_i l
      rw [l74] at l
      have n6 : x6.toNatClampNeg = (L 74 m).toNat := by omega
      rw [so_e e]
      refine ⟨fv_0, by rw [← n6]; exact R, fun t ht => ?_⟩
      rw [bits t ht]
      constructor
      · rintro ⟨i, k, a, b⟩
        exact ⟨i, k, by omega, b⟩
      · rintro ⟨i, k, a, b⟩
        exact ⟨i, k, by omega, b⟩
    have l := nle_i l
    rw [l74] at l
    have m8 : (x3 * (8 : Int32)).toInt = x3.toInt * 8 := by rw [tm (by rw [z8]; omega), z8]
    have ix : ((x3 * (8 : Int32)) + x6).toNatClampNeg = 8 * m + x6.toNatClampNeg := by
      have a : ((x3 * (8 : Int32)) + x6).toInt = x3.toInt * 8 + x6.toInt := by rw [ta (by rw [m8]; omega), m8]
      have := nc_i (x := (x3 * (8 : Int32)) + x6) (by omega)
      omega
    have J : StR L (8 * m + x6.toNatClampNeg) := Hst _ (by omega)
    replace e := ce_e W.2.1 e
    replace e := ce_e W.2.2.1 e
    replace e := gg_e e
    replace e := nm_s e; obtain ⟨v8, u8, e⟩ := e
    rw [ix] at u8
    have ew : v8.toInt = wrdI L (8 * m + x6.toNatClampNeg) := by rw [u8]; exact (P.2.2.2.2.1 m mL).2 _ (by omega)
    obtain ⟨_, _, _, w79, _, w4⟩ := wrd_e J ew
    replace e := nm_s e; obtain ⟨v9, u9, e⟩ := e
    rw [← u9] at w79
    have t6 : (x6 + (1 : Int32)).toInt = x6.toInt + 1 := by rw [ta (by rw [z1]; omega), z1]
    have n6 : (x6 + (1 : Int32)).toNatClampNeg = x6.toNatClampNeg + 1 := by
      have := nc_i (x := x6 + (1 : Int32)) (by omega)
      omega
    -- on to the next STEP
    have nxt : ∀ {g : Hp} {y4 : Int64}, FrV V (wl [(56, 999)]) h g → (∀ x : Nat, (∀ t, t < 64 → ¬ x = t * 8 + x6.toNatClampNeg) → hI g (V 56) x = hI h (V 56) x) → (∀ t, t < 64 → TmS L (8 * m + x6.toNatClampNeg) (x1.toInt % 2) x2.toNatClampNeg t (hI g (V 56) (t * 8 + x6.toNatClampNeg)).toInt) → (∀ t, t < 64 → (bitJ y4 t = true ↔ bitJ x4 t = true ∨ ∃ k, RchL L (8 * m + x6.toNatClampNeg) (x1.toInt % 2) x2.toNatClampNeg t k)) → sX10_reach_155 F (sX10_reach_10 F f) g (V 11) x1 x2 x3 y4 x6 = some o → FrV V (wl [(56, 999)]) h o.2 ∧ RcS L V m (x1.toInt % 2) x2.toNatClampNeg (L 74 m).toNat o.2 ∧ ∀ t, t < 64 → (bitJ o.1 t = true ↔ ∃ (i : Nat) (k : Int), (i : Int) < L 74 m ∧ RchL L (8 * m + i) (x1.toInt % 2) x2.toNatClampNeg t k) := fun {g y4} G oth new bq u => by
      unfold sX10_reach_155 at u
      obtain ⟨r1, r2, r3⟩ := ih (wlf_f W G) (clw_f D P G (by decide)) (by omega) (by omega) (fun t i ht hi => by
        rw [n6]
        obtain ⟨p, q⟩ := R t i ht hi
        by_cases c : i = x6.toNatClampNeg
        · rw [c]
          exact ⟨fun _ => new t ht, fun z => absurd z (by omega)⟩
        · have same : hI g (V 56) (t * 8 + i) = hI h (V 56) (t * 8 + i) := oth _ (fun t' _ z => c (by omega))
          rw [same]
          exact ⟨fun z => p (by omega), fun z => q (by omega)⟩) (fun t ht => by
        rw [bq t ht, bits t ht, n6]
        constructor
        · rintro (⟨i, k, a, b⟩ | ⟨k, b⟩)
          · exact ⟨i, k, by omega, b⟩
          · exact ⟨x6.toNatClampNeg, k, by omega, b⟩
        · rintro ⟨i, k, a, b⟩
          by_cases c : i = x6.toNatClampNeg
          · rw [c] at b; exact Or.inr ⟨k, b⟩
          · exact Or.inl ⟨i, k, by omega, b⟩) (nx_e u)
      exact ⟨fv_t G r1, r2, r3⟩
    -- the STEP is not for this rank
    have skip : ¬ (L 79 (8 * m + x6.toNatClampNeg) = 0 ∨ L 79 (8 * m + x6.toNatClampNeg) = rkF L x2.toNatClampNeg (x1.toInt % 2)) → sX10_reach_155 F (sX10_reach_10 F f) h (V 11) x1 x2 x3 x4 x6 = some o → FrV V (wl [(56, 999)]) h o.2 ∧ RcS L V m (x1.toInt % 2) x2.toNatClampNeg (L 74 m).toNat o.2 ∧ ∀ t, t < 64 → (bitJ o.1 t = true ↔ ∃ (i : Nat) (k : Int), (i : Int) < L 74 m ∧ RchL L (8 * m + i) (x1.toInt % 2) x2.toNatClampNeg t k) := fun nf u => by
      refine nxt fv_0 (fun _ _ => rfl) (fun t ht => Or.inl ⟨?_, fun k z => nf z.1⟩) (fun t ht => ⟨fun z => Or.inl z, ?_⟩) u
      · rw [(R t x6.toNatClampNeg ht (by omega)).2 (Nat.le_refl _)]; rfl
      · rintro (z | ⟨k, z⟩)
        · exact z
        · exact absurd z.1 nf
    -- it is
    have go : (L 79 (8 * m + x6.toNatClampNeg) = 0 ∨ L 79 (8 * m + x6.toNatClampNeg) = rkF L x2.toNatClampNeg (x1.toInt % 2)) → sX10_reach_105 F (sX10_reach_10 F f) h (V 11) x1 x2 x3 x4 x6 v8 = some o → FrV V (wl [(56, 999)]) h o.2 ∧ RcS L V m (x1.toInt % 2) x2.toNatClampNeg (L 74 m).toNat o.2 ∧ ∀ t, t < 64 → (bitJ o.1 t = true ↔ ∃ (i : Nat) (k : Int), (i : Int) < L 74 m ∧ RchL L (8 * m + i) (x1.toInt % 2) x2.toNatClampNeg t k) := fun yf u => by
      unfold sX10_reach_105 sX10_reach_118 at u
      have all : ∀ {x10 : Int32}, (x10.toInt = if fbt (L 75 (8 * m + x6.toNatClampNeg)) 2 = true then 1 else 8) → sX10_reach_123 F (sX10_reach_10 F f) F h (V 11) x1 x2 x3 x4 x6 v8 x10 (0 : Int32) = some o → FrV V (wl [(56, 999)]) h o.2 ∧ RcS L V m (x1.toInt % 2) x2.toNatClampNeg (L 74 m).toNat o.2 ∧ ∀ t, t < 64 → (bitJ o.1 t = true ↔ ∃ (i : Nat) (k : Int), (i : Int) < L 74 m ∧ RchL L (8 * m + i) (x1.toInt % 2) x2.toNatClampNeg t k) := fun {x10} hx y => by
        have b10 : 0 ≤ x10.toInt ∧ x10.toInt ≤ 8 := by rw [hx]; split <;> omega
        have c10 := nc_i b10.1
        have n0 : (0 : Int32).toNatClampNeg = 0 := rfl
        obtain ⟨g, y4, q1, q2, q3, q4, q5⟩ := rc_123 (Q := fun t => bitJ x4 t = true) D H J ew i2 sL ⟨a6, by omega⟩ i1 hx F W P (by decide) (by rw [z0]; omega) (fun t ht => Or.inl ⟨by rw [(R t x6.toNatClampNeg ht (by omega)).2 (Nat.le_refl _)]; rfl, fun e' k he => by rw [n0] at he; omega⟩) (fun t ht => ⟨fun z => Or.inl z, fun z => by
          rcases z with z | ⟨e', k, he, _⟩
          · exact z
          · rw [n0] at he; omega⟩) y
        have all8 : ∀ (k : Int) (t : Nat), (∃ e', e' < 8 ∧ htV L (8 * m + x6.toNatClampNeg) (x1.toInt % 2) x2.toNatClampNeg e' k t) ↔ ∃ e', e' < x10.toNatClampNeg ∧ htV L (8 * m + x6.toNatClampNeg) (x1.toInt % 2) x2.toNatClampNeg e' k t := fun k t => by
          by_cases fo : fbt (L 75 (8 * m + x6.toNatClampNeg)) 2 = true
          · rw [if_pos fo] at hx
            constructor
            · rintro ⟨e', _, z⟩
              exact ⟨0, by omega, ht_fo fo z⟩
            · rintro ⟨e', he, z⟩
              exact ⟨e', by omega, z⟩
          · rw [if_neg fo] at hx
            rw [show x10.toNatClampNeg = 8 by omega]
        refine nxt q1 q2 (fun t ht => ?_) (fun t ht => ?_) q5
        · rcases q3 t ht with ⟨a, b⟩ | ⟨e', a, b⟩
          · refine Or.inl ⟨a, fun k z => ?_⟩
            obtain ⟨e', he, z⟩ := (all8 k t).mp (rch_h.mp z).2
            exact b e' k he z
          · exact Or.inr (rch_h.mpr ⟨yf, (all8 _ t).mpr ⟨e', a, b⟩⟩)
        · rw [q4 t ht]
          constructor
          · rintro (z | ⟨e', k, a, b⟩)
            · exact Or.inl z
            · exact Or.inr ⟨k, rch_h.mpr ⟨yf, (all8 k t).mpr ⟨e', a, b⟩⟩⟩
          · rintro (z | ⟨k, z⟩)
            · exact Or.inl z
            · obtain ⟨e', he, z⟩ := (all8 k t).mp (rch_h.mp z).2
              exact Or.inr ⟨e', k, he, z⟩
      rcases br_s u with ⟨c, u⟩ | ⟨c, u⟩
      · exact all (by rw [if_neg (by rw [w4.mp c]; decide)]; rfl) u
      · refine all ?_ u
        rw [if_pos]
        · rfl
        · cases q : fbt (L 75 (8 * m + x6.toNatClampNeg)) 2 with
          | true => rfl
          | false => exact absurd (w4.mpr q) c
    -- which rank it is
    have ff := (P.2.2.2.2.2 x2.toNatClampNeg (by omega)).2
    have d0 : 0 ≤ (x2.toNatClampNeg : Int) / L 0 0 := Int.ediv_nonneg (by omega) (by omega)
    have d1 : (x2.toNatClampNeg : Int) / L 0 0 ≤ 64 := Int.le_trans (Int.ediv_le_self _ (by omega)) (by omega)
    have k88 : ∀ {r : Int32}, r.toInt = rkF L x2.toNatClampNeg (x1.toInt % 2) → sX10_reach_88 F (sX10_reach_10 F f) h (V 11) x1 x2 x3 x4 x6 v8 v9 r = some o → FrV V (wl [(56, 999)]) h o.2 ∧ RcS L V m (x1.toInt % 2) x2.toNatClampNeg (L 74 m).toNat o.2 ∧ ∀ t, t < 64 → (bitJ o.1 t = true ↔ ∃ (i : Nat) (k : Int), (i : Int) < L 74 m ∧ RchL L (8 * m + i) (x1.toInt % 2) x2.toNatClampNeg t k) := fun {r} hr u => by
      unfold sX10_reach_88 at u
      rcases br_s u with ⟨c, u⟩ | ⟨c, u⟩
      · exact go (Or.inl (by rw [← w79, c]; rfl)) u
      rcases br_s u with ⟨d, u⟩ | ⟨d, u⟩
      · exact go (Or.inr (by rw [← w79, d, hr])) u
      · refine skip ?_ u
        rintro (z | z)
        · exact c (Int32.toInt_inj.mp (by rw [w79, z]; rfl))
        · exact d (Int32.toInt_inj.mp (by rw [w79, z, hr]))
    rcases br_s e with ⟨c, e⟩ | ⟨c, e⟩
    · replace e := ce_e W.2.1 e
      replace e := ce_e W.2.2.2.2.2 e
      replace e := gg_e e
      refine k88 ?_ e
      have s0 : x1.toInt % 2 = 0 := by rw [← sdv, c]; rfl
      unfold rkF
      rw [if_pos s0, ta (by rw [ff, z1]; omega), ff, z1]
    · replace e := ce_e W.2.1 e
      replace e := ce_e W.2.1 e
      replace e := ce_e W.2.2.2.2.2 e
      replace e := gg_e e
      refine k88 ?_ e
      have s0 : ¬ x1.toInt % 2 = 0 := fun z => c (Int32.toInt_inj.mp (by rw [sdv, z]; rfl))
      unfold rkF
      rw [if_neg s0, ts (by rw [ff, P.2.1]; omega), ff, P.2.1]
end
