/-! the state behind a step is found -/
section
variable {ρ : Nat → Nat} {c : Cm} {x0 rm re rb rk rs ro rp rt F : Nat} {h0 : Hp} {x1 x2 x3 x4 x5 : Int32} {q : Nat}
theorem be2_6 (hF : 700000 ≤ F) (hA : pmA c rwpL) (Q : SlR ρ x0 rm re rb rk rs ro h0) (T0 : TH ρ c h0) (e58 : hR h0 x0 58 = some rp) (e61 : hR h0 x0 61 = some rt) (i1 : Rg 0 4095 x1) (i2 : Rg 0 4 x2) (i3 : Rg 0 63 x3) (l3 : x3.toInt < (hI h0 x0 13).toInt) (i4 : Rg 0 24 x4) (i5 : Rg 0 1 x5) (st : ∀ i : Nat, (i : Int) < (hI h0 rm x1.toNatClampNeg).toInt → (hI h0 rt i).toInt < (hI h0 x0 13).toInt)
    (cap : ∀ i : Nat, (i : Int) < (hI h0 rm x1.toNatClampNeg).toInt → ¬ (i : Int) = x2.toInt → (hI h0 rt i = x3 ↔ i = q)) (nq : ¬ (q : Int) = x2.toInt) : ∀ (f : Nat) {h : Hp} {x6 x7 : Int32}, TH ρ c h → SE x0 h → Jp ro rp h0 h → PL x0 x6.toInt h → 0 ≤ x7.toInt → x7.toInt ≤ (hI h0 rm x1.toNatClampNeg).toInt → (x6.toInt = if x7.toInt ≤ (q : Int) then x7.toInt else x7.toInt - 1) → (∀ p : Nat, (p : Int) < x6.toInt → hI h ro p = sk (up (fun p => hI h0 re (5 * x1.toNatClampNeg + p)) x2.toNatClampNeg x4) q p) → (6 - x7.toInt).toNat < f → Sat (sX15_stateBehind_6 F f h x0 x1 x2 x3 x4 x5 x6 x7) (fun o => SQ2 ρ c x0 o ∧ Jp ro rp h0 o.2 ∧ (FdS rs rk h0 (if (q : Int) < (hI h0 rm x1.toNatClampNeg).toInt then (hI h0 rm x1.toNatClampNeg).toNatClampNeg - 1 else (hI h0 rm x1.toNatClampNeg).toNatClampNeg) (fun v => cn (sk (up (fun p => hI h0 re (5 * x1.toNatClampNeg + p)) x2.toNatClampNeg x4) q) v (if (q : Int) < (hI h0 rm x1.toNatClampNeg).toInt then (hI h0 rm x1.toNatClampNeg).toNatClampNeg - 1 else (hI h0 rm x1.toNatClampNeg).toNatClampNeg)) → 0 ≤ o.1.toInt)) := by
  have Q' := Q
  obtain ⟨⟨r0, qm, qe, qb, qk, qs, qo⟩, ⟨e46, e47, e48, e55, e56, e57⟩⟩ := Q'
  have qp : ρ rp = 109 := rr T0 (thR T0 r0 (i := 58) (k2 := 109) rfl (by decide)) e58
  have qt : ρ rt = 110 := rr T0 (thR T0 r0 (i := 61) (k2 := 110) rfl (by decide)) e61
  have nop : ¬ ro = rp := fun w => absurd (w ▸ qo) (by rw [qp]; decide)
  have nn : ∀ {r k : Nat}, ρ r = k → ¬ k = 108 → ¬ k = 109 → ¬ r = ro ∧ ¬ r = rp := fun {r k} e1 n1 n2 => ⟨fun w => n1 (by rw [← e1, w]; exact qo), fun w => n2 (by rw [← e1, w]; exact qp)⟩
  have kk : ∀ {g : Hp} {r k : Nat}, Jp ro rp h0 g → ρ r = k → ¬ k = 108 → ¬ k = 109 → ∀ i, hI g r i = hI h0 r i := fun J e1 n1 n2 i => J.2.2.2 _ i (nn e1 n1 n2).1 (nn e1 n1 n2).2
  have im := thI T0 qm (k := 99) (i := x1.toNatClampNeg) (lo := 0) (hi := 5) rfl
  have cm := clamp_i im.1
  have bm := im.2
  have c2 := clamp_i i2.1
  intro f
  induction f with
  | zero => intros; omega
  | succ f ih =>
    intro h x6 x7 T P J L a7 b7 r6 rows hf
    rw [sX15_stateBehind_6]
    unfold sX15_stateBehind_34
    have c7 := clamp_i a7
    have km := kk J qm (by decide) (by decide) x1.toNatClampNeg
    have a6 : 0 ≤ x6.toInt ∧ x6.toInt ≤ x7.toInt := by rw [r6]; split <;> omega
    have c6 := clamp_i a6.1
    refine s_ref (by rw [J.1]; exact e46) ?_
    refine s_gd (by rw [thN T qm (k := 99) (n := 4096) rfl (by decide)]; exact rg_inB i1 (by decide)) ?_
    rw [km]
    refine s_br (fun l => ?_) (fun n1 => ?_)
    · have l := le_i l
      have e7 : x7.toInt = (hI h0 rm x1.toNatClampNeg).toInt := by omega
      refine s_dd (zX15_stateOf4 hF hA T r0 ⟨a6.1, by omega⟩ (one_sub i5) P L) (fun o e4 w => ?_)
      refine s_some ⟨w.1, ?_, ?_⟩
      · obtain ⟨j1, _, _⟩ := sto_q (ro := ro) (rp := rp) (by rw [J.1]; exact e57) (by rw [J.1]; exact e58) nop ⟨a6.1, by omega⟩ e4
        exact ⟨fun a i => (j1.1 a i).trans (J.1 a i), fun a => (j1.2.1 a).trans (J.2.1 a), fun a i => (j1.2.2.1 a i).trans (J.2.2.1 a i), fun a i n1 n2 => (j1.2.2.2 a i n1 n2).trans (J.2.2.2 a i n1 n2)⟩
      · intro N
        obtain ⟨j1, j2, j3⟩ := sto_q (ro := ro) (rp := rp) (by rw [J.1]; exact e57) (by rw [J.1]; exact e58) nop ⟨a6.1, by omega⟩ e4
        have en : (if (q : Int) < (hI h0 rm x1.toNatClampNeg).toInt then (hI h0 rm x1.toNatClampNeg).toNatClampNeg - 1 else (hI h0 rm x1.toNatClampNeg).toNatClampNeg) = x6.toNatClampNeg := by
          rw [e7] at r6
          split
          · rw [if_neg (by omega)] at r6; omega
          · rw [if_pos (by omega)] at r6; omega
        rw [en] at N
        obtain ⟨fn, f1, f2, f3⟩ := N
        refine Classical.byContradiction fun ng => ?_
        have ng : ¬ 0 ≤ o.1.toInt := ng
        have w1 : -1 ≤ o.1.toInt := w.1.2.1.1
        have om : o.1 = (-1 : Int32) := Int32.toInt_inj.mp (by show o.1.toInt = -1; omega)
        obtain ⟨o3, ro', er', e3, z3⟩ := w.2 om
        rw [j1.1, J.1] at er'
        have := r_eq e57 er'; subst this
        have ks : ∀ j, hI o.2 rs j = hI h0 rs j := fun j => (j1.2.2.2 rs j (nn qs (by decide) (by decide)).1 (nn qs (by decide) (by decide)).2).trans (kk J qs (by decide) (by decide) j)
        have kq : ∀ j, hI o.2 rk j = hI h0 rk j := fun j => (j1.2.2.2 rk j (nn qk (by decide) (by decide)).1 (nn qk (by decide) (by decide)).2).trans (kk J qk (by decide) (by decide) j)
        obtain ⟨_, v, _⟩ := find_q (rs := rs) (rk := rk) hF (by rw [j1.2.1]; exact thN T qo (k := 108) (n := 6) rfl (by decide)) ⟨a6.1, by omega⟩ (fun j => by rw [ks]; have := thI T0 qs (k := 107) (i := j) (lo := 0) (hi := 4096) rfl; exact ⟨this.1, this.2⟩) (by rw [j1.1, J.1]; exact e56) (by rw [j1.1, J.1]; exact e55) e3
        have eqf : ∀ i, i < x6.toNatClampNeg → fn i = hI o.2 ro' i := sd_uni _ f1 j2 (fun v => by
          rw [f2 v, j3 v]
          exact (cn_eq _ (fun p hp => rows p (by omega))).symm)
        have nx : nI x6.toNatClampNeg = x6 := by
          apply Int32.toInt_inj.mp
          rw [z_toInt (by omega)]
          omega
        have key : pkN o.2 ro' 0 x6 x6.toNatClampNeg = pkF fn (nI x6.toNatClampNeg) x6.toNatClampNeg := by
          rw [pkN_F, nx]
          exact pkF_eq _ (fun i hi => by rw [Nat.zero_add]; exact (eqf i hi).symm)
        have := v (by
          rw [key]
          obtain ⟨m, B1, B2, B3⟩ := f3
          exact ⟨m, fun m' hm => by rw [ks]; exact B1 m' hm, by rw [ks]; exact B2, by rw [kq]; exact B3⟩)
        rw [z3] at this
        exact absurd this (by decide)
    · have l7 := nle_i n1
      have i7 : Rg 0 4 x7 := ⟨by omega, by omega⟩
      have i6 : Rg 0 4 x6 := ⟨a6.1, by omega⟩
      have ny := nc_s i7 (by decide)
      have gt : inB x7 (hN h rt) := by rw [thN T qt (k := 110) (n := 5) rfl (by decide)]; exact rg_inB i7 (by decide)
      obtain ⟨ix, ixn⟩ := ix5 i1 i7
      -- a man into the row
      have put : ∀ {v : Int32}, v = up (fun p => hI h0 re (5 * x1.toNatClampNeg + p)) x2.toNatClampNeg x4 x7.toNatClampNeg → Rg 0 24 v → ¬ x7.toNatClampNeg = q → Sat (sX15_stateBehind_62 F (sX15_stateBehind_6 F f) h x0 x1 x2 x3 x4 x5 x6 x7 v x6 ro) _ := fun {v} ev iv nq7 => by
        unfold sX15_stateBehind_62 sX15_stateBehind_86
        refine s_gd (by rw [thN T qo (k := 108) (n := 6) rfl (by decide)]; exact rg_inB (rg_m i6 (by decide) : Rg 0 5 x6) (by decide)) ?_
        refine s_hq (th_wI T qo (k := 108) (lo := 0) (hi := 24) rfl iv (by decide) (by decide) (pm_a hA rfl)) (fun h3 T3 w3 => ?_)
        obtain ⟨P3, L3⟩ := man_w T r0 qo w3 P L
        have J3 : Jp ro rp h0 h3 := by rw [w3]; exact jp_w J (Or.inl rfl)
        refine s_ref (by rw [J3.1]; exact e58) ?_
        have ep3 : hR h3 x0 58 = some rp := by rw [J3.1]; exact e58
        have fin : ∀ {s : Int32}, Rg 0 63 s → s.toInt < (hI h0 x0 13).toInt → Sat (gd (inB x6 (hN h3 rp)) <| nm (wI h3 rp x6.toNatClampNeg s) fun h_2 => nm (x6 + (1 : Int32)) fun v_3 => sX15_stateBehind_90 F (sX15_stateBehind_6 F f) h_2 x0 x1 x2 x3 x4 x5 v_3 x7) _ := fun {s} is ls => by
          refine s_gd (by rw [thN T3 qp (k := 109) (n := 6) rfl (by decide)]; exact rg_inB (rg_m i6 (by decide) : Rg 0 5 x6) (by decide)) ?_
          refine s_hq (th_wI T3 qp (k := 109) (lo := 0) (hi := 63) rfl is (by decide) (by decide) (pm_a hA rfl)) (fun h5 T5 w5 => ?_)
          have e13 : hI h3 x0 13 = hI h0 x0 13 := kk J3 r0 (by decide) (by decide) 13
          obtain ⟨P5, _, L5⟩ := pla_w T3 r0 ep3 qp w5 (by rw [e13]; exact ls) P3 L3
          rw [if_pos c6] at L5
          have J5 : Jp ro rp h0 h5 := by rw [w5]; exact jp_w J3 (Or.inr rfl)
          refine s_q (fun y ey => ?_)
          have n6 := nc_s i6 (by decide)
          have ey2 : y.toInt = x6.toInt + 1 := by rw [ey]; exact n6.2
          clear ey
          unfold sX15_stateBehind_90
          refine s_q (fun z ez => ?_)
          have ez2 : z.toInt = x7.toInt + 1 := by rw [ez]; exact ny.2
          clear ez
          refine ih T5 P5 J5 (by rw [ey2]; exact L5) (by omega) (by omega) ?_ (fun p hp => ?_) (by omega)
          · rw [ey2, ez2, r6]
            split <;> split <;> omega
          · rw [w5, r_I, if_neg (fun w => nop w.1), w3, r_I]
            by_cases w : p = x6.toNatClampNeg
            · rw [if_pos ⟨rfl, w⟩, ev, w]
              unfold sk
              by_cases z7 : x7.toInt ≤ (q : Int)
              · rw [if_pos z7] at r6
                rw [if_pos (by omega)]
                congr 1
                omega
              · rw [if_neg z7] at r6
                rw [if_neg (by omega)]
                congr 1
                omega
            · rw [if_neg (fun z => w z.2)]
              exact rows p (by omega)
        refine s_br (fun _ => fin i3 l3) (fun _ => ?_)
        refine s_ref (by rw [J3.1]; exact e61) (s_gd (by rw [thN T3 qt (k := 110) (n := 5) rfl (by decide)]; exact rg_inB i7 (by decide)) ?_)
        refine fin (thI T3 qt (k := 110) (lo := 0) (hi := 63) rfl) ?_
        rw [kk J3 qt (by decide) (by decide)]
        exact st _ (by omega)
      refine s_br (fun e7 => ?_) (fun n7 => ?_)
      · refine s_ref (by rw [J.1]; exact e57) ?_
        refine s_br (fun _ => ?_) (fun n => absurd e7 n)
        refine put ?_ i4 (fun w => nq (by rw [← w, c7, e7]))
        unfold up
        rw [if_pos (by rw [e7])]
      · have n7' : ¬ (x7.toNatClampNeg : Int) = x2.toInt := fun w => n7 (Int32.toInt_inj.mp (by omega))
        refine s_ref (by rw [J.1]; exact e61) (s_gd gt ?_)
        rw [kk J qt (by decide) (by decide)]
        refine s_br (fun et => ?_) (fun nt => ?_)
        · have e7q := (cap x7.toNatClampNeg (by omega) n7').mp et
          unfold sX15_stateBehind_90
          refine s_q (fun z ez => ?_)
          have ez2 : z.toInt = x7.toInt + 1 := by rw [ez]; exact ny.2
          clear ez
          refine ih T P J L (by omega) (by omega) ?_ rows (by omega)
          rw [ez2, r6, if_pos (by omega), if_neg (by omega)]
          omega
        · have n7q : ¬ x7.toNatClampNeg = q := fun w => nt ((cap x7.toNatClampNeg (by omega) n7').mpr w)
          refine s_ref (by rw [J.1]; exact e57) ?_
          refine s_br (fun e7 => absurd e7 n7) (fun _ => ?_)
          refine s_ref (by rw [J.1]; exact e47) ?_
          refine s_gd (by rw [thN T qe (k := 100) (n := 20480) rfl (by decide)]; exact rg_inB ix (by decide)) ?_
          rw [ixn, kk J qe (by decide) (by decide)]
          refine put ?_ (thI T0 qe (k := 100) (lo := 0) (hi := 24) rfl) n7q
          unfold up
          rw [if_neg (fun w => n7' (by omega))]
theorem behind_q (hF : 700000 ≤ F) (hA : pmA c rwpL) (Q : SlR ρ x0 rm re rb rk rs ro h0) (T0 : TH ρ c h0) (P0 : SE x0 h0) (e58 : hR h0 x0 58 = some rp) (e61 : hR h0 x0 61 = some rt) (i1 : Rg 0 4095 x1) (i2 : Rg 0 4 x2) (i3 : Rg 0 63 x3) (l3 : x3.toInt < (hI h0 x0 13).toInt) (i4 : Rg 0 24 x4) (i5 : Rg 0 1 x5) (st : ∀ i : Nat, (i : Int) < (hI h0 rm x1.toNatClampNeg).toInt → (hI h0 rt i).toInt < (hI h0 x0 13).toInt)
    (cap : ∀ i : Nat, (i : Int) < (hI h0 rm x1.toNatClampNeg).toInt → ¬ (i : Int) = x2.toInt → (hI h0 rt i = x3 ↔ i = q)) (nq : ¬ (q : Int) = x2.toInt) : Sat (sX15_stateBehind F h0 x0 x1 x2 x3 x4 x5) (fun o => SQ2 ρ c x0 o ∧ Jp ro rp h0 o.2 ∧ (FdS rs rk h0 (if (q : Int) < (hI h0 rm x1.toNatClampNeg).toInt then (hI h0 rm x1.toNatClampNeg).toNatClampNeg - 1 else (hI h0 rm x1.toNatClampNeg).toNatClampNeg) (fun v => cn (sk (up (fun p => hI h0 re (5 * x1.toNatClampNeg + p)) x2.toNatClampNeg x4) q) v (if (q : Int) < (hI h0 rm x1.toNatClampNeg).toInt then (hI h0 rm x1.toNatClampNeg).toNatClampNeg - 1 else (hI h0 rm x1.toNatClampNeg).toNatClampNeg)) → 0 ≤ o.1.toInt)) := by
  unfold sX15_stateBehind
  have z0 : (0 : Int32).toInt = 0 := rfl
  refine be2_6 hF hA Q T0 e58 e61 i1 i2 i3 l3 i4 i5 st cap nq F T0 P0 jp_r (fun _ _ i hi => by rw [z0] at hi; omega) (by decide) ?_ ?_ (fun p hp => absurd hp (by rw [z0]; omega)) (by rw [z0]; omega)
  · rw [z0]; exact (thI T0 Q.1.2.1 (k := 99) (i := x1.toNatClampNeg) (lo := 0) (hi := 5) rfl).1
  · rw [z0, if_pos (by omega)]
end
