section
variable {ρ : Nat → Nat} {c : Cm} {h o : Hp} {x0 b g M rm re F : Nat} {x1 x2 x3 x4 x5 : Int32} {q sq : Int}
/-- the men that are laid so far -/
def LSD (M re base : Nat) (q sq : Int) (n : Nat) (h : Hp) : Prop := ∀ s : Nat, s < 64 → 0 < (hI h M s).toInt → ∃ j, j < n ∧ (s : Int) = rsD q sq j % sq ∧ hI h M s = hI h re (base + j)
/-- each man of the set is laid -/
def LSC (M re base : Nat) (q sq : Int) (n : Nat) (h : Hp) : Prop := ∀ i, i < n → hI h M (rsD q sq i % sq).toNat = hI h re (base + i)
/-- what laying a state reads stays -/
def LSR (x0 g M rm re : Nat) (many : Int32) (x1 : Int32) (sq : Int) (h0 h : Hp) : Prop := hR h x0 60 = some g ∧ hR h g 0 = some M ∧ hR h x0 46 = some rm ∧ hR h x0 47 = some re ∧ (hI h x0 13).toInt = sq ∧ hI h rm x1.toNatClampNeg = many ∧ ∀ i, hI h re i = hI h0 re i
/-- no two men on one square -/
def LSX (q sq : Int) (n : Nat) : Prop := ∀ i i', i < n → i' < i → ¬ rsD q sq i' % sq = rsD q sq i % sq
theorem lay_27 {many : Int32} {h0 : Hp} {oo : Int32 × Hp} (r0 : ρ x0 = 16) (rM : ρ M = 62) (qm : ρ rm = 99) (qe : ρ re = 100) (i1 : Rg 0 4095 x1) (im : Rg 0 5 many) (s9 : 9 ≤ sq) (s64 : sq ≤ 64) (q0 : 0 ≤ q) (pos : ∀ i, i < many.toNatClampNeg → 1 ≤ (hI h0 re (5 * x1.toNatClampNeg + i)).toInt) : ∀ (f : Nat) {h : Hp} {x3 x4 x5 : Int32}, LSR x0 g M rm re many x1 sq h0 h → 0 ≤ x5.toInt → x5.toInt ≤ many.toInt → x3.toInt = rsD q sq x5.toNatClampNeg → 0 ≤ x3.toInt → LSD M re (5 * x1.toNatClampNeg) q sq x5.toNatClampNeg h → LSC M re (5 * x1.toNatClampNeg) q sq x5.toNatClampNeg h → LSX q sq x5.toNatClampNeg → sX15_layState_27 F f h x0 x1 x3 x4 x5 = some oo → ¬ oo.1 = 0 → LSR x0 g M rm re many x1 sq h0 oo.2 ∧ LSD M re (5 * x1.toNatClampNeg) q sq many.toNatClampNeg oo.2 ∧ LSC M re (5 * x1.toNatClampNeg) q sq many.toNatClampNeg oo.2 ∧ LSX q sq many.toNatClampNeg := by
  intro f
  induction f with
  | zero => intro h x3 x4 x5 _ _ _ _ _ _ _ _ e; exact absurd e (by rw [sX15_layState_27]; simp)
  | succ f ih =>
    intro h x3 x4 x5 L a5 b5 e3 a3 D DC DX e nz
    rw [sX15_layState_27] at e
    have L' := L
    obtain ⟨l1, l2, l3, l4, l5, l6, l7⟩ := L
    obtain ⟨r1, f1, e1⟩ := cl_s e
    have hz := r_eq l3 f1
    subst hz
    obtain ⟨_, e2⟩ := gd_s e1
    have bm := im.2
    rcases br_s e2 with ⟨l, e3'⟩ | ⟨l, e3'⟩
    · have l' := le_i l
      rw [l6] at l'
      have eo := Option.some.inj e3'
      have en : x5.toNatClampNeg = many.toNatClampNeg := by have := clamp_i a5; have := clamp_i im.1; omega
      rw [← eo]
      exact ⟨L', by rw [← en]; exact D, by rw [← en]; exact DC, by rw [← en]; exact DX⟩
    · have l' := nle_i l
      rw [l6] at l'
      have i5 : Rg 0 4 x5 := ⟨a5, by omega⟩
      obtain ⟨ix, ex⟩ := ix5 i1 i5
      have isq : Rg 9 64 (hI h x0 13) := ⟨by omega, by omega⟩
      have i3 : Rg 0 2147483647 x3 := ⟨a3, (rg_top x3).2⟩
      obtain ⟨_, e4⟩ := gd_s e3'
      obtain ⟨v5, w5, e5⟩ := nm_s e4
      obtain ⟨_, e6⟩ := gd_s e5
      obtain ⟨v7, w7, e7⟩ := nm_s e6
      obtain ⟨r8, f8, e8⟩ := cl_s e7
      have hz := r_eq l4 f8
      subst hz
      obtain ⟨_, e9⟩ := gd_s e8
      obtain ⟨v10, w10, e10⟩ := nm_s e9
      obtain ⟨r11, f11, e11⟩ := cl_s e10
      have hz := r_eq l1 f11
      subst hz
      obtain ⟨r12, f12, e12⟩ := cl_s e11
      have hz := r_eq l2 f12
      subst hz
      obtain ⟨_, e13⟩ := gd_s e12
      have v5e : v5.toInt = x3.toInt % sq := by rw [w5, tr i3 isq (by decide), l5]
      have v7e : v7.toInt = x3.toInt / sq := by rw [w7, td i3 isq (by decide), l5]
      have m0 : 0 ≤ x3.toInt % sq := Int.emod_nonneg _ (by omega)
      have m1 : x3.toInt % sq < sq := Int.emod_lt_of_pos _ (by omega)
      have d0 : 0 ≤ x3.toInt / sq := Int.ediv_nonneg a3 (by omega)
      have v5r : Rg 0 63 v5 := ⟨by omega, by omega⟩
      have c5' := clamp_i v5r.1
      have put : ¬ 0 < hI h r12 v5.toNatClampNeg → sX15_layState_111 F (sX15_layState_27 F f) h x0 x1 v7 x5 v5 v10 = some oo → LSR x0 r11 r12 r1 r8 many x1 sq h0 oo.2 ∧ LSD r12 r8 (5 * x1.toNatClampNeg) q sq many.toNatClampNeg oo.2 ∧ LSC r12 r8 (5 * x1.toNatClampNeg) q sq many.toNatClampNeg oo.2 ∧ LSX q sq many.toNatClampNeg := fun nn e => by
        have nn' : (hI h r12 v5.toNatClampNeg).toInt ≤ 0 := nlt_i nn
        unfold sX15_layState_111 at e
        obtain ⟨ra, fa, ea⟩ := cl_s e
        have hz := r_eq l1 fa
        subst hz
        obtain ⟨rb, fb', eb⟩ := cl_s ea
        have hz := r_eq l2 fb'
        subst hz
        obtain ⟨_, ec⟩ := gd_s eb
        obtain ⟨h4, w4, ed⟩ := nm_s ec
        obtain ⟨y, ey, ee⟩ := nm_s ed
        have ny := nc_s i5 (by decide)
        have ey2 : y.toInt = x5.toInt + 1 := by rw [ey]; exact ny.2
        have ey3 : y.toNatClampNeg = x5.toNatClampNeg + 1 := by rw [ey]; exact ny.1
        clear ey
        have g4 : ∀ {a k : Nat}, ρ a = k → k ≠ 62 → ∀ i, hI h4 a i = hI h a i := fun {a k} ea hk i => by rw [w4, r_I, if_neg (ne_r ea rM hk)]
        have L4 : LSR x0 ra rb r1 r8 many x1 sq h0 h4 := ⟨by rw [w4]; exact l1, by rw [w4]; exact l2, by rw [w4]; exact l3, by rw [w4]; exact l4, by rw [g4 r0 (by decide)]; exact l5, by rw [g4 qm (by decide)]; exact l6, fun i => by rw [g4 qe (by decide)]; exact l7 i⟩
        refine ih L4 (by omega) (by omega) ?_ (by omega) ?_ ?_ ?_ ee nz
        · rw [ey3, v7e, e3]; rfl
        · rw [ey3]
          intro s hs p
          by_cases z : s = v5.toNatClampNeg
          · refine ⟨x5.toNatClampNeg, by omega, ?_, ?_⟩
            · rw [← e3]; omega
            · rw [g4 qe (by decide), z, he_s w4, w10, ex]
          · have es : hI h4 rb s = hI h rb s := by rw [w4, r_I, if_neg (fun y => z y.2)]
            rw [es] at p
            obtain ⟨j, j1, j2, j3⟩ := D s hs p
            exact ⟨j, by omega, j2, by rw [es, g4 qe (by decide)]; exact j3⟩
        · rw [ey3]
          intro i hi
          rw [g4 qe (by decide)]
          by_cases z : i = x5.toNatClampNeg
          · have ez : (rsD q sq i % sq).toNat = v5.toNatClampNeg := by rw [z, ← e3]; omega
            rw [ez, he_s w4, w10, ex, z]
          · have li : i < x5.toNatClampNeg := by omega
            have ci := DC i li
            have c5'' := clamp_i a5
            have cmm := clamp_i im.1
            have pi := pos i (by omega)
            rw [← l7] at pi
            have ne : (rsD q sq i % sq).toNat ≠ v5.toNatClampNeg := fun zz => by
              rw [zz] at ci
              rw [ci] at nn'
              omega
            rw [w4, r_I, if_neg (fun y => ne y.2)]
            exact ci
        · rw [ey3]
          intro i i' hi li
          by_cases z : i = x5.toNatClampNeg
          · have ez : (rsD q sq i % sq).toNat = v5.toNatClampNeg := by rw [z, ← e3]; omega
            intro zz
            have ci := DC i' (by omega)
            have c5'' := clamp_i a5
            have cmm := clamp_i im.1
            have pi := pos i' (by omega)
            rw [← l7] at pi
            rw [zz, ez] at ci
            rw [ci] at nn'
            omega
          · exact DX i i' (by omega) li
      have no : ∀ {g : Hp} {P : Prop}, some ((0 : Int32), g) = some oo → P := fun {g P} e => by
        have := Option.some.inj e
        rw [← this] at nz
        exact absurd rfl nz
      rcases br_s e13 with ⟨_, e14⟩ | ⟨nn, e14⟩
      · exact no e14
      rcases br_s e14 with ⟨_, e15⟩ | ⟨_, e15⟩
      · exact put nn e15
      obtain ⟨_, _, e16⟩ := cl_s e15
      obtain ⟨_, e17⟩ := gd_s e16
      rcases br_s e17 with ⟨_, e18⟩ | ⟨_, e18⟩
      · rcases br_s e18 with ⟨_, e19⟩ | ⟨_, e19⟩
        · exact put nn e19
        · exact no e19
      · exact put nn e18
/-- a state that is laid: each man stands on a digit of its number -/
theorem lay_q {oo : Int32 × Hp} (T : TH ρ c h) (r0 : ρ x0 = 16) (i1 : Rg 0 4095 x1) (a2 : 0 ≤ x2.toInt) (l1 : hR h x0 60 = some g) (l2 : hR h g 0 = some M) (l3 : hR h x0 46 = some rm) (l4 : hR h x0 47 = some re) (pos : ∀ i, i < (hI h rm x1.toNatClampNeg).toNatClampNeg → 1 ≤ (hI h re (5 * x1.toNatClampNeg + i)).toInt) (e : sX15_layState F h x0 x1 x2 = some oo) (nz : ¬ oo.1 = 0) : LSR x0 g M rm re (hI h rm x1.toNatClampNeg) x1 (hI h x0 13).toInt h oo.2 ∧ LSD M re (5 * x1.toNatClampNeg) (x2.toInt / 2) (hI h x0 13).toInt (hI h rm x1.toNatClampNeg).toNatClampNeg oo.2 ∧ LSC M re (5 * x1.toNatClampNeg) (x2.toInt / 2) (hI h x0 13).toInt (hI h rm x1.toNatClampNeg).toNatClampNeg oo.2 ∧ LSX (x2.toInt / 2) (hI h x0 13).toInt (hI h rm x1.toNatClampNeg).toNatClampNeg := by
  have rg : ρ g = 13 := rr T (thR T r0 (i := 60) (k2 := 13) rfl (by decide)) l1
  have rM : ρ M = 62 := rr T (thR T rg (i := 0) (k2 := 62) rfl (by decide)) l2
  have qm : ρ rm = 99 := rr T (thR T r0 (i := 46) (k2 := 99) rfl (by decide)) l3
  have qe : ρ re = 100 := rr T (thR T r0 (i := 47) (k2 := 100) rfl (by decide)) l4
  unfold sX15_layState at e
  obtain ⟨ra, fa, e1⟩ := cl_s e
  have hz := r_eq l1 fa
  subst hz
  obtain ⟨h2, f2, e2⟩ := cl_s e1
  obtain ⟨p1, p2, p3⟩ := clear_q T rg l2 f2
  obtain ⟨rc, fc, e3⟩ := cl_s e2
  have fc' : hR h x0 60 = some rc := by rw [← p1]; exact fc
  have hz := r_eq l1 fc'
  subst hz
  obtain ⟨h4, w4, e4⟩ := nm_s e3
  obtain ⟨v5, w5, e5⟩ := nm_s e4
  have R4 : ∀ a i, hR h4 a i = hR h a i := fun a i => by rw [w4]; exact p1 a i
  have I4 : ∀ a i, OB ρ a → hI h4 a i = hI h a i := fun a i q => by rw [w4, r_I, if_neg (fun y => q.1 (by rw [y.1]; exact rg)), p2 a i q]
  have o16 : OB ρ x0 := by unfold OB; rw [r0]; decide
  have o99 : OB ρ rm := by unfold OB; rw [qm]; decide
  have o100 : OB ρ re := by unfold OB; rw [qe]; decide
  have s := thI T r0 (k := 16) (i := 13) (lo := 9) (hi := 64) rfl
  have v5e : v5.toInt = x2.toInt / 2 := by rw [w5]; exact ti_shr1
  have z0 : (0 : Int32).toNatClampNeg = 0 := rfl
  refine lay_27 (h := h4) r0 rM qm qe i1 (thI T qm (k := 99) (lo := 0) (hi := 5) rfl) s.1 s.2 (by omega) pos F ⟨by rw [R4]; exact l1, by rw [R4]; exact l2, by rw [R4]; exact l3, by rw [R4]; exact l4, by rw [I4 x0 13 o16], I4 rm _ o99, fun i => I4 re i o100⟩ (by decide) ?_ (by rw [z0]; exact v5e) (by omega) (fun s hs p => ?_) (fun i hi => absurd hi (by rw [z0]; exact Nat.not_lt_zero i)) (fun i i' hi => absurd hi (by rw [z0]; exact Nat.not_lt_zero i)) e5 nz
  · exact (thI T qm (k := 99) (i := x1.toNatClampNeg) (lo := 0) (hi := 5) rfl).1
  · rw [w4, r_I, if_neg (ne_r rM rg (by decide)), p3 s hs] at p
    exact absurd p (by decide)
end
