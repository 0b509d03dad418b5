section
/-! stateOf and stateBehind by their equations -/
/-- but for the rows of men and places, all is as it was -/
def Jp (ro rp : Nat) (h g : Hp) : Prop := (∀ a i, hR g a i = hR h a i) ∧ (∀ a, hN g a = hN h a) ∧ (∀ a i, hJ g a i = hJ h a i) ∧ ∀ a i, ¬ a = ro → ¬ a = rp → hI g a i = hI h a i
section
variable {ρ : Nat → Nat} {c : Cm} {x0 rm re rb rk rs ro rp F : Nat} {h0 h g : Hp} {n sd : Int32}
theorem jp_r : Jp ro rp h h := ⟨fun _ _ => rfl, fun _ => rfl, fun _ _ => rfl, fun _ _ _ _ => rfl⟩
theorem jp_w {a j : Nat} {v : Int32} (A : Jp ro rp h g) (w : a = ro ∨ a = rp) : Jp ro rp h (wI g a j v) := ⟨A.1, A.2.1, A.2.2.1, fun b i n1 n2 => by
  rw [r_I, if_neg (fun z => w.elim (fun w => n1 (z.1.trans w)) (fun w => n2 (z.1.trans w)))]
  exact A.2.2.2 b i n1 n2⟩
theorem find_fr {a : Nat} {n : Int32} {o : Int32 × Hp} (e : sX15_findSet F g x0 a n = some o) : o.2 = g := by
  have pk : ∀ (f : Nat) {x2 x3 : Int32} {o : Int32 × Hp}, sX15_packed_4 F f g a n x2 x3 = some o → o.2 = g := by
    intro f
    induction f with
    | zero => intro x2 x3 o e; exact absurd e (by simp [sX15_packed_4])
    | succ f ih =>
      intro x2 x3 o e
      unfold sX15_packed_4 at e
      simp only [nm] at e
      replace e := br_s e; rcases e with ⟨_, e⟩ | ⟨_, e⟩
      · rw [← Option.some.inj e]
      · exact ih (gd_s e).2
  have sl : ∀ (f : Nat) {x1 x2 : Int32} {o : Int32 × Hp}, sX15_slotOf_14 F f g x0 x1 x2 = some o → o.2 = g := by
    intro f
    induction f with
    | zero => intro x1 x2 o e; exact absurd e (by simp [sX15_slotOf_14])
    | succ f ih =>
      intro x1 x2 o e
      unfold sX15_slotOf_14 sX15_slotOf_44 at e
      simp only [nm] at e
      replace e := cl_s e; obtain ⟨_, _, e⟩ := e
      replace e := (gd_s e).2
      replace e := br_s e; rcases e with ⟨_, e⟩ | ⟨_, e⟩
      · rw [← Option.some.inj e]
      replace e := cl_s e; obtain ⟨_, _, e⟩ := e
      replace e := (gd_s e).2
      replace e := br_s e; rcases e with ⟨_, e⟩ | ⟨_, e⟩
      · rw [← Option.some.inj e]
      · exact ih e
  unfold sX15_findSet at e
  replace e := cl_s e; obtain ⟨_, _, e⟩ := e
  replace e := cl_s e; obtain ⟨o2, e2, e⟩ := e
  unfold sX15_packed at e2
  rw [pk F e2] at e
  replace e := cl_s e; obtain ⟨o3, e3, e⟩ := e
  unfold sX15_slotOf at e3
  simp only [nm] at e3
  rw [sl F e3] at e
  rw [← Option.some.inj (gd_s e).2]
theorem sto_q (e57 : hR h0 x0 57 = some ro) (e58 : hR h0 x0 58 = some rp) (nop : ¬ ro = rp) (i1 : Rg 0 5 n) {o : Int32 × Hp} (e : sX15_stateOf F h0 x0 n sd = some o) : Jp ro rp h0 o.2 ∧ Sd (fun i => hI o.2 ro i) n.toNatClampNeg ∧ ∀ v, cn (fun i => hI o.2 ro i) v n.toNatClampNeg = cn (fun i => hI h0 ro i) v n.toNatClampNeg := by
  have z0 : (0 : Int32).toInt = 0 := rfl
  have nn := clamp_i i1.1
  have n5 := i1.2
  have b160 : ∀ (f : Nat) {g : Hp} {x3 x4 x5 : Int32}, sX15_stateOf_160 F f g x0 sd x3 x4 x5 = some o → o.2 = g := by
    intro f
    induction f with
    | zero => intro g x3 x4 x5 e; exact absurd e (by simp [sX15_stateOf_160])
    | succ f ih =>
      intro g x3 x4 x5 e
      unfold sX15_stateOf_160 at e
      simp only [nm] at e
      replace e := br_s e; rcases e with ⟨_, e⟩ | ⟨_, e⟩
      · replace e := cl_s e; obtain ⟨_, _, e⟩ := e
        rw [← Option.some.inj (gd_s e).2]
      · replace e := cl_s e; obtain ⟨_, _, e⟩ := e
        exact ih (gd_s e).2
  have rowp : ∀ {g : Hp} {j : Nat} {v : Int32}, (fun i => hI (wI g rp j v) ro i) = fun i => hI g ro i := fun {g j v} => by
    funext i
    rw [r_I, if_neg (fun w => nop w.1)]
  have b2 : ∀ (f : Nat) {g : Hp} {x2 : Int32}, Jp ro rp h0 g → 1 ≤ x2.toInt → x2.toInt ≤ 5 → Sd (fun i => hI g ro i) x2.toNatClampNeg → (∀ v, cn (fun i => hI g ro i) v n.toNatClampNeg = cn (fun i => hI h0 ro i) v n.toNatClampNeg) → sX15_stateOf_2 F f g x0 n sd x2 = some o → Jp ro rp h0 o.2 ∧ Sd (fun i => hI o.2 ro i) n.toNatClampNeg ∧ ∀ v, cn (fun i => hI o.2 ro i) v n.toNatClampNeg = cn (fun i => hI h0 ro i) v n.toNatClampNeg := by
    intro f
    induction f with
    | zero => intro g x2 _ _ _ _ _ e; exact absurd e (by simp [sX15_stateOf_2])
    | succ f ih =>
      intro g x2 jo a2 b2 S C e
      unfold sX15_stateOf_2 at e
      simp only [nm] at e
      have c2 := clamp_i (v := x2) (by omega)
      replace e := br_s e; rcases e with ⟨cc, e⟩ | ⟨cc, e⟩
      · have cc := le_i cc
        have S2 : Sd (fun i => hI g ro i) n.toNatClampNeg := fun i j l1 l2 => S i j l1 (by omega)
        replace e := cl_s e; obtain ⟨r2, p, e⟩ := e
        replace e := cl_s e; obtain ⟨o3, e3, e⟩ := e
        have h3 : o3.2 = g := find_fr e3
        rw [h3] at e
        have og : o.2 = g := by
          replace e := br_s e; rcases e with ⟨_, e⟩ | ⟨_, e⟩
          · rw [← Option.some.inj e]
          · exact b160 F e
        rw [og]
        exact ⟨jo, S2, C⟩
      · have cc := nle_i cc
        replace e := cl_s e; obtain ⟨r5, p, e⟩ := e
        rw [jo.1] at p
        have := r_eq e57 p; subst this
        replace e := (gd_s e).2
        replace e := cl_s e; obtain ⟨r9, p, e⟩ := e
        rw [jo.1] at p
        have := r_eq e58 p; subst this
        replace e := (gd_s e).2
        generalize hv : hI g r5 x2.toNatClampNeg = v at e
        generalize hI g r9 x2.toNatClampNeg = s at e
        have inn : ∀ (ff : Nat) {g : Hp} {x4 : Int32}, Jp r5 r9 h0 g → 0 ≤ x4.toInt → x4.toInt ≤ x2.toInt → In (fun i => hI g r5 i) v x2.toNatClampNeg x4.toNatClampNeg → (∀ w, cn (up (fun i => hI g r5 i) x4.toNatClampNeg v) w n.toNatClampNeg = cn (fun i => hI h0 r5 i) w n.toNatClampNeg) → sX15_stateOf_26 F (sX15_stateOf_2 F f) ff g x0 n sd x2 v s x4 = some o → Jp r5 r9 h0 o.2 ∧ Sd (fun i => hI o.2 r5 i) n.toNatClampNeg ∧ ∀ v, cn (fun i => hI o.2 r5 i) v n.toNatClampNeg = cn (fun i => hI h0 r5 i) v n.toNatClampNeg := by
          intro ff
          induction ff with
          | zero => intro g x4 _ _ _ _ _ eC; exact absurd eC (by simp [sX15_stateOf_26])
          | succ ff ih2 =>
            intro g x4 jo a4 b4 I C eC
            have c4 := clamp_i a4
            have put : (x4.toNatClampNeg = 0 ∨ (hI g r5 (x4.toNatClampNeg - 1)).toInt ≤ v.toInt) → sX15_stateOf_111 F (sX15_stateOf_2 F f) g x0 n sd x2 v s x4 = some o → Jp r5 r9 h0 o.2 ∧ Sd (fun i => hI o.2 r5 i) n.toNatClampNeg ∧ ∀ v, cn (fun i => hI o.2 r5 i) v n.toNatClampNeg = cn (fun i => hI h0 r5 i) v n.toNatClampNeg := by
              intro z eD
              unfold sX15_stateOf_111 at eD
              simp only [nm] at eD
              replace eD := cl_s eD; obtain ⟨r1, p, eD⟩ := eD
              rw [jo.1] at p
              have := r_eq e57 p; subst this
              replace eD := (gd_s eD).2
              replace eD := cl_s eD; obtain ⟨r4, p, eD⟩ := eD
              replace p : hR g x0 58 = some r4 := p
              rw [jo.1] at p
              have := r_eq e58 p; subst this
              replace eD := (gd_s eD).2
              have ny := nc_s (x := x2) (b := 5) ⟨by omega, b2⟩ (by decide)
              refine ih (jp_w (jp_w jo (Or.inl rfl)) (Or.inr rfl)) (by omega) (by omega) ?_ (fun w => ?_) eD
              · rw [rowp, row_up, ny.1]
                exact in_e (by omega) I z
              · rw [rowp, row_up]; exact C w
            have go : 0 < x4.toInt → v.toInt ≤ (hI g r5 (x4.toNatClampNeg - 1)).toInt → sX15_stateOf_73 F (sX15_stateOf_2 F f) (sX15_stateOf_26 F (sX15_stateOf_2 F f) ff) g x0 n sd x2 v s x4 = some o → Jp r5 r9 h0 o.2 ∧ Sd (fun i => hI o.2 r5 i) n.toNatClampNeg ∧ ∀ v, cn (fun i => hI o.2 r5 i) v n.toNatClampNeg = cn (fun i => hI h0 r5 i) v n.toNatClampNeg := by
              intro p4 cl eD
              unfold sX15_stateOf_73 at eD
              simp only [nm] at eD
              have i4 : Rg 1 5 x4 := ⟨by omega, by omega⟩
              have d1 : (x4 - (1 : Int32)).toInt = x4.toInt - 1 := rg_decs i4 (by decide)
              have d1n : (x4 - (1 : Int32)).toNatClampNeg = x4.toNatClampNeg - 1 := by
                have := clamp_i (v := x4 - (1 : Int32)) (by omega)
                omega
              replace eD := cl_s eD; obtain ⟨r2, p, eD⟩ := eD
              rw [jo.1] at p
              have := r_eq e57 p; subst this
              replace eD := cl_s eD; obtain ⟨r2', p, eD⟩ := eD
              rw [jo.1] at p
              have := r_eq e57 p; subst this
              replace eD := (gd_s eD).2
              replace eD := (gd_s eD).2
              replace eD := cl_s eD; obtain ⟨r6, p, eD⟩ := eD
              replace p : hR g x0 58 = some r6 := p
              rw [jo.1] at p
              have := r_eq e58 p; subst this
              replace eD := cl_s eD; obtain ⟨r7, p, eD⟩ := eD
              replace p : hR g x0 58 = some r7 := p
              rw [jo.1] at p
              have := r_eq e58 p; subst this
              replace eD := (gd_s eD).2
              replace eD := (gd_s eD).2
              rw [d1n] at eD
              have d2 : (x4 + (-1 : Int32)).toInt = x4.toInt - 1 := rg_dec i4 (by decide)
              generalize x4 + (-1 : Int32) = y at eD d2
              have cy := clamp_i (v := y) (by omega)
              have ek : x4.toNatClampNeg = y.toNatClampNeg + 1 := by omega
              have ek2 : x4.toNatClampNeg - 1 = y.toNatClampNeg := by omega
              rw [ek2] at eD cl
              rw [ek] at eD I C
              refine ih2 (jp_w (jp_w jo (Or.inl rfl)) (Or.inr rfl)) (by omega) (by omega) ?_ (fun w => ?_) eD
              · rw [rowp, row_up]
                exact in_s (by omega) I cl
              · rw [rowp, row_up]
                rw [cn_swap (f := fun i => hI g r2' i) (by omega)]
                exact C w
            unfold sX15_stateOf_26 at eC
            replace eC := br_s eC; rcases eC with ⟨cz, eC⟩ | ⟨cz, eC⟩
            · have cz := le_i cz
              exact put (Or.inl (by omega)) eC
            have cz := nle_i cz
            have i4 : Rg 1 5 x4 := ⟨by omega, by omega⟩
            have d1 : (x4 - (1 : Int32)).toInt = x4.toInt - 1 := rg_decs i4 (by decide)
            have d1n : (x4 - (1 : Int32)).toNatClampNeg = x4.toNatClampNeg - 1 := by
              have := clamp_i (v := x4 - (1 : Int32)) (by omega)
              omega
            replace eC := cl_s eC; obtain ⟨r2, p, eC⟩ := eC
            rw [jo.1] at p
            have := r_eq e57 p; subst this
            replace eC := (gd_s eC).2
            replace eC := br_s eC; rcases eC with ⟨c1, eC⟩ | ⟨c1, eC⟩
            · rw [d1n] at c1
              exact go cz (Int.le_of_lt (lt_i c1)) eC
            rw [d1n] at c1
            have c1 := nlt_i c1
            replace eC := cl_s eC; obtain ⟨r5', p, eC⟩ := eC
            rw [jo.1] at p
            have := r_eq e57 p; subst this
            replace eC := (gd_s eC).2
            replace eC := br_s eC; rcases eC with ⟨c2, eC⟩ | ⟨c2, eC⟩
            · rw [d1n] at c2
              replace eC := cl_s eC; obtain ⟨r8, p, eC⟩ := eC
              replace eC := (gd_s eC).2
              replace eC := br_s eC; rcases eC with ⟨_, eC⟩ | ⟨_, eC⟩
              · exact put (Or.inr c1) eC
              · exact go cz (by rw [c2]; exact Int.le_refl _) eC
            · exact put (Or.inr c1) eC
        refine inn F jo (by omega) (Int.le_refl _) (by rw [← hv]; exact in_0 S) (fun w => ?_) e
        rw [← C w]
        apply cn_eq
        intro i hi
        unfold up
        split
        · rename_i q; rw [q, hv]
        · rfl
  unfold sX15_stateOf at e
  exact b2 F jp_r (by decide) (by decide) (fun i j l1 l2 => absurd l2 (by show ¬ j < 1; omega)) (fun _ => rfl) e
end
end
section
/-! the state behind a step is found -/
section
variable {ρ : Nat → Nat} {c : Cm} {x0 rm re rb rk rs ro rp rt F : Nat} {h0 : Hp} {x1 x2 x3 x4 x5 : Int32} {q : Nat}
theorem be2_6 (hF : 700000 ≤ F) (hA : pmA c rwpL) (Q : SlR ρ x0 rm re rb rk rs ro h0) (T0 : TH ρ c h0) (e58 : hR h0 x0 58 = some rp) (e61 : hR h0 x0 61 = some rt) (i1 : Rg 0 4095 x1) (i2 : Rg 0 4 x2) (i3 : Rg 0 63 x3) (l3 : x3.toInt < (hI h0 x0 13).toInt) (i4 : Rg 0 24 x4) (i5 : Rg 0 1 x5) (st : ∀ i : Nat, (i : Int) < (hI h0 rm x1.toNatClampNeg).toInt → (hI h0 rt i).toInt < (hI h0 x0 13).toInt)
    (cap : ∀ i : Nat, (i : Int) < (hI h0 rm x1.toNatClampNeg).toInt → ¬ (i : Int) = x2.toInt → (hI h0 rt i = x3 ↔ i = q)) (nq : ¬ (q : Int) = x2.toInt) : ∀ (f : Nat) {h : Hp} {x6 x7 : Int32}, TH ρ c h → SE x0 h → Jp ro rp h0 h → PL x0 x6.toInt h → 0 ≤ x7.toInt → x7.toInt ≤ (hI h0 rm x1.toNatClampNeg).toInt → (x6.toInt = if x7.toInt ≤ (q : Int) then x7.toInt else x7.toInt - 1) → (∀ p : Nat, (p : Int) < x6.toInt → hI h ro p = sk (up (fun p => hI h0 re (5 * x1.toNatClampNeg + p)) x2.toNatClampNeg x4) q p) → (6 - x7.toInt).toNat < f → Sat (sX15_stateBehind_6 F f h x0 x1 x2 x3 x4 x5 x6 x7) (fun o => SQ2 ρ c x0 o ∧ Jp ro rp h0 o.2 ∧ (FdS rs rk h0 (if (q : Int) < (hI h0 rm x1.toNatClampNeg).toInt then (hI h0 rm x1.toNatClampNeg).toNatClampNeg - 1 else (hI h0 rm x1.toNatClampNeg).toNatClampNeg) (fun v => cn (sk (up (fun p => hI h0 re (5 * x1.toNatClampNeg + p)) x2.toNatClampNeg x4) q) v (if (q : Int) < (hI h0 rm x1.toNatClampNeg).toInt then (hI h0 rm x1.toNatClampNeg).toNatClampNeg - 1 else (hI h0 rm x1.toNatClampNeg).toNatClampNeg)) → 0 ≤ o.1.toInt)) := by
  have Q' := Q
  obtain ⟨⟨r0, qm, qe, qb, qk, qs, qo⟩, ⟨e46, e47, e48, e55, e56, e57⟩⟩ := Q'
  have qp : ρ rp = 109 := rr T0 (thR T0 r0 (i := 58) (k2 := 109) rfl (by decide)) e58
  have qt : ρ rt = 110 := rr T0 (thR T0 r0 (i := 61) (k2 := 110) rfl (by decide)) e61
  have nop : ¬ ro = rp := fun w => absurd (w ▸ qo) (by rw [qp]; decide)
  have nn : ∀ {r k : Nat}, ρ r = k → ¬ k = 108 → ¬ k = 109 → ¬ r = ro ∧ ¬ r = rp := fun {r k} e1 n1 n2 => ⟨fun w => n1 (by rw [← e1, w]; exact qo), fun w => n2 (by rw [← e1, w]; exact qp)⟩
  have kk : ∀ {g : Hp} {r k : Nat}, Jp ro rp h0 g → ρ r = k → ¬ k = 108 → ¬ k = 109 → ∀ i, hI g r i = hI h0 r i := fun J e1 n1 n2 i => J.2.2.2 _ i (nn e1 n1 n2).1 (nn e1 n1 n2).2
  have im := thI T0 qm (k := 99) (i := x1.toNatClampNeg) (lo := 0) (hi := 5) rfl
  have cm := clamp_i im.1
  have bm := im.2
  have c2 := clamp_i i2.1
  intro f
  induction f with
  | zero => intros; omega
  | succ f ih =>
    intro h x6 x7 T P J L a7 b7 r6 rows hf
    rw [sX15_stateBehind_6]
    unfold sX15_stateBehind_34
    have c7 := clamp_i a7
    have km := kk J qm (by decide) (by decide) x1.toNatClampNeg
    have a6 : 0 ≤ x6.toInt ∧ x6.toInt ≤ x7.toInt := by rw [r6]; split <;> omega
    have c6 := clamp_i a6.1
    refine s_ref (by rw [J.1]; exact e46) ?_
    refine s_gd (by rw [thN T qm (k := 99) (n := 4096) rfl (by decide)]; exact rg_inB i1 (by decide)) ?_
    rw [km]
    refine s_br (fun l => ?_) (fun n1 => ?_)
    · have l := le_i l
      have e7 : x7.toInt = (hI h0 rm x1.toNatClampNeg).toInt := by omega
      refine s_dd (zX15_stateOf4 hF hA T r0 ⟨a6.1, by omega⟩ (one_sub i5) P L) (fun o e4 w => ?_)
      refine s_some ⟨w.1, ?_, ?_⟩
      · obtain ⟨j1, _, _⟩ := sto_q (ro := ro) (rp := rp) (by rw [J.1]; exact e57) (by rw [J.1]; exact e58) nop ⟨a6.1, by omega⟩ e4
        exact ⟨fun a i => (j1.1 a i).trans (J.1 a i), fun a => (j1.2.1 a).trans (J.2.1 a), fun a i => (j1.2.2.1 a i).trans (J.2.2.1 a i), fun a i n1 n2 => (j1.2.2.2 a i n1 n2).trans (J.2.2.2 a i n1 n2)⟩
      · intro N
        obtain ⟨j1, j2, j3⟩ := sto_q (ro := ro) (rp := rp) (by rw [J.1]; exact e57) (by rw [J.1]; exact e58) nop ⟨a6.1, by omega⟩ e4
        have en : (if (q : Int) < (hI h0 rm x1.toNatClampNeg).toInt then (hI h0 rm x1.toNatClampNeg).toNatClampNeg - 1 else (hI h0 rm x1.toNatClampNeg).toNatClampNeg) = x6.toNatClampNeg := by
          rw [e7] at r6
          split
          · rw [if_neg (by omega)] at r6; omega
          · rw [if_pos (by omega)] at r6; omega
        rw [en] at N
        obtain ⟨fn, f1, f2, f3⟩ := N
        refine Classical.byContradiction fun ng => ?_
        have ng : ¬ 0 ≤ o.1.toInt := ng
        have w1 : -1 ≤ o.1.toInt := w.1.2.1.1
        have om : o.1 = (-1 : Int32) := Int32.toInt_inj.mp (by show o.1.toInt = -1; omega)
        obtain ⟨o3, ro', er', e3, z3⟩ := w.2 om
        rw [j1.1, J.1] at er'
        have := r_eq e57 er'; subst this
        have ks : ∀ j, hI o.2 rs j = hI h0 rs j := fun j => (j1.2.2.2 rs j (nn qs (by decide) (by decide)).1 (nn qs (by decide) (by decide)).2).trans (kk J qs (by decide) (by decide) j)
        have kq : ∀ j, hI o.2 rk j = hI h0 rk j := fun j => (j1.2.2.2 rk j (nn qk (by decide) (by decide)).1 (nn qk (by decide) (by decide)).2).trans (kk J qk (by decide) (by decide) j)
        obtain ⟨_, v, _⟩ := find_q (rs := rs) (rk := rk) hF (by rw [j1.2.1]; exact thN T qo (k := 108) (n := 6) rfl (by decide)) ⟨a6.1, by omega⟩ (fun j => by rw [ks]; have := thI T0 qs (k := 107) (i := j) (lo := 0) (hi := 4096) rfl; exact ⟨this.1, this.2⟩) (by rw [j1.1, J.1]; exact e56) (by rw [j1.1, J.1]; exact e55) e3
        have eqf : ∀ i, i < x6.toNatClampNeg → fn i = hI o.2 ro' i := sd_uni _ f1 j2 (fun v => by
          rw [f2 v, j3 v]
          exact (cn_eq _ (fun p hp => rows p (by omega))).symm)
        have nx : nI x6.toNatClampNeg = x6 := by
          apply Int32.toInt_inj.mp
          rw [z_toInt (by omega)]
          omega
        have key : pkN o.2 ro' 0 x6 x6.toNatClampNeg = pkF fn (nI x6.toNatClampNeg) x6.toNatClampNeg := by
          rw [pkN_F, nx]
          exact pkF_eq _ (fun i hi => by rw [Nat.zero_add]; exact (eqf i hi).symm)
        have := v (by
          rw [key]
          obtain ⟨m, B1, B2, B3⟩ := f3
          exact ⟨m, fun m' hm => by rw [ks]; exact B1 m' hm, by rw [ks]; exact B2, by rw [kq]; exact B3⟩)
        rw [z3] at this
        exact absurd this (by decide)
    · have l7 := nle_i n1
      have i7 : Rg 0 4 x7 := ⟨by omega, by omega⟩
      have i6 : Rg 0 4 x6 := ⟨a6.1, by omega⟩
      have ny := nc_s i7 (by decide)
      have gt : inB x7 (hN h rt) := by rw [thN T qt (k := 110) (n := 5) rfl (by decide)]; exact rg_inB i7 (by decide)
      obtain ⟨ix, ixn⟩ := ix5 i1 i7
      -- a man into the row
      have put : ∀ {v : Int32}, v = up (fun p => hI h0 re (5 * x1.toNatClampNeg + p)) x2.toNatClampNeg x4 x7.toNatClampNeg → Rg 0 24 v → ¬ x7.toNatClampNeg = q → Sat (sX15_stateBehind_62 F (sX15_stateBehind_6 F f) h x0 x1 x2 x3 x4 x5 x6 x7 v x6 ro) _ := fun {v} ev iv nq7 => by
        unfold sX15_stateBehind_62 sX15_stateBehind_86
        refine s_gd (by rw [thN T qo (k := 108) (n := 6) rfl (by decide)]; exact rg_inB (rg_m i6 (by decide) : Rg 0 5 x6) (by decide)) ?_
        refine s_hq (th_wI T qo (k := 108) (lo := 0) (hi := 24) rfl iv (by decide) (by decide) (pm_a hA rfl)) (fun h3 T3 w3 => ?_)
        obtain ⟨P3, L3⟩ := man_w T r0 qo w3 P L
        have J3 : Jp ro rp h0 h3 := by rw [w3]; exact jp_w J (Or.inl rfl)
        refine s_ref (by rw [J3.1]; exact e58) ?_
        have ep3 : hR h3 x0 58 = some rp := by rw [J3.1]; exact e58
        have fin : ∀ {s : Int32}, Rg 0 63 s → s.toInt < (hI h0 x0 13).toInt → Sat (gd (inB x6 (hN h3 rp)) <| nm (wI h3 rp x6.toNatClampNeg s) fun h_2 => nm (x6 + (1 : Int32)) fun v_3 => sX15_stateBehind_90 F (sX15_stateBehind_6 F f) h_2 x0 x1 x2 x3 x4 x5 v_3 x7) _ := fun {s} is ls => by
          refine s_gd (by rw [thN T3 qp (k := 109) (n := 6) rfl (by decide)]; exact rg_inB (rg_m i6 (by decide) : Rg 0 5 x6) (by decide)) ?_
          refine s_hq (th_wI T3 qp (k := 109) (lo := 0) (hi := 63) rfl is (by decide) (by decide) (pm_a hA rfl)) (fun h5 T5 w5 => ?_)
          have e13 : hI h3 x0 13 = hI h0 x0 13 := kk J3 r0 (by decide) (by decide) 13
          obtain ⟨P5, _, L5⟩ := pla_w T3 r0 ep3 qp w5 (by rw [e13]; exact ls) P3 L3
          rw [if_pos c6] at L5
          have J5 : Jp ro rp h0 h5 := by rw [w5]; exact jp_w J3 (Or.inr rfl)
          refine s_q (fun y ey => ?_)
          have n6 := nc_s i6 (by decide)
          have ey2 : y.toInt = x6.toInt + 1 := by rw [ey]; exact n6.2
          clear ey
          unfold sX15_stateBehind_90
          refine s_q (fun z ez => ?_)
          have ez2 : z.toInt = x7.toInt + 1 := by rw [ez]; exact ny.2
          clear ez
          refine ih T5 P5 J5 (by rw [ey2]; exact L5) (by omega) (by omega) ?_ (fun p hp => ?_) (by omega)
          · rw [ey2, ez2, r6]
            split <;> split <;> omega
          · rw [w5, r_I, if_neg (fun w => nop w.1), w3, r_I]
            by_cases w : p = x6.toNatClampNeg
            · rw [if_pos ⟨rfl, w⟩, ev, w]
              unfold sk
              by_cases z7 : x7.toInt ≤ (q : Int)
              · rw [if_pos z7] at r6
                rw [if_pos (by omega)]
                congr 1
                omega
              · rw [if_neg z7] at r6
                rw [if_neg (by omega)]
                congr 1
                omega
            · rw [if_neg (fun z => w z.2)]
              exact rows p (by omega)
        refine s_br (fun _ => fin i3 l3) (fun _ => ?_)
        refine s_ref (by rw [J3.1]; exact e61) (s_gd (by rw [thN T3 qt (k := 110) (n := 5) rfl (by decide)]; exact rg_inB i7 (by decide)) ?_)
        refine fin (thI T3 qt (k := 110) (lo := 0) (hi := 63) rfl) ?_
        rw [kk J3 qt (by decide) (by decide)]
        exact st _ (by omega)
      refine s_br (fun e7 => ?_) (fun n7 => ?_)
      · refine s_ref (by rw [J.1]; exact e57) ?_
        refine s_br (fun _ => ?_) (fun n => absurd e7 n)
        refine put ?_ i4 (fun w => nq (by rw [← w, c7, e7]))
        unfold up
        rw [if_pos (by rw [e7])]
      · have n7' : ¬ (x7.toNatClampNeg : Int) = x2.toInt := fun w => n7 (Int32.toInt_inj.mp (by omega))
        refine s_ref (by rw [J.1]; exact e61) (s_gd gt ?_)
        rw [kk J qt (by decide) (by decide)]
        refine s_br (fun et => ?_) (fun nt => ?_)
        · have e7q := (cap x7.toNatClampNeg (by omega) n7').mp et
          unfold sX15_stateBehind_90
          refine s_q (fun z ez => ?_)
          have ez2 : z.toInt = x7.toInt + 1 := by rw [ez]; exact ny.2
          clear ez
          refine ih T P J L (by omega) (by omega) ?_ rows (by omega)
          rw [ez2, r6, if_pos (by omega), if_neg (by omega)]
          omega
        · have n7q : ¬ x7.toNatClampNeg = q := fun w => nt ((cap x7.toNatClampNeg (by omega) n7').mpr w)
          refine s_ref (by rw [J.1]; exact e57) ?_
          refine s_br (fun e7 => absurd e7 n7) (fun _ => ?_)
          refine s_ref (by rw [J.1]; exact e47) ?_
          refine s_gd (by rw [thN T qe (k := 100) (n := 20480) rfl (by decide)]; exact rg_inB ix (by decide)) ?_
          rw [ixn, kk J qe (by decide) (by decide)]
          refine put ?_ (thI T0 qe (k := 100) (lo := 0) (hi := 24) rfl) n7q
          unfold up
          rw [if_neg (fun w => n7' (by omega))]
theorem behind_q (hF : 700000 ≤ F) (hA : pmA c rwpL) (Q : SlR ρ x0 rm re rb rk rs ro h0) (T0 : TH ρ c h0) (P0 : SE x0 h0) (e58 : hR h0 x0 58 = some rp) (e61 : hR h0 x0 61 = some rt) (i1 : Rg 0 4095 x1) (i2 : Rg 0 4 x2) (i3 : Rg 0 63 x3) (l3 : x3.toInt < (hI h0 x0 13).toInt) (i4 : Rg 0 24 x4) (i5 : Rg 0 1 x5) (st : ∀ i : Nat, (i : Int) < (hI h0 rm x1.toNatClampNeg).toInt → (hI h0 rt i).toInt < (hI h0 x0 13).toInt)
    (cap : ∀ i : Nat, (i : Int) < (hI h0 rm x1.toNatClampNeg).toInt → ¬ (i : Int) = x2.toInt → (hI h0 rt i = x3 ↔ i = q)) (nq : ¬ (q : Int) = x2.toInt) : Sat (sX15_stateBehind F h0 x0 x1 x2 x3 x4 x5) (fun o => SQ2 ρ c x0 o ∧ Jp ro rp h0 o.2 ∧ (FdS rs rk h0 (if (q : Int) < (hI h0 rm x1.toNatClampNeg).toInt then (hI h0 rm x1.toNatClampNeg).toNatClampNeg - 1 else (hI h0 rm x1.toNatClampNeg).toNatClampNeg) (fun v => cn (sk (up (fun p => hI h0 re (5 * x1.toNatClampNeg + p)) x2.toNatClampNeg x4) q) v (if (q : Int) < (hI h0 rm x1.toNatClampNeg).toInt then (hI h0 rm x1.toNatClampNeg).toNatClampNeg - 1 else (hI h0 rm x1.toNatClampNeg).toNatClampNeg)) → 0 ≤ o.1.toInt)) := by
  unfold sX15_stateBehind
  have z0 : (0 : Int32).toInt = 0 := rfl
  refine be2_6 hF hA Q T0 e58 e61 i1 i2 i3 l3 i4 i5 st cap nq F T0 P0 jp_r (fun _ _ i hi => by rw [z0] at hi; omega) (by decide) ?_ ?_ (fun p hp => absurd hp (by rw [z0]; omega)) (by rw [z0]; omega)
  · rw [z0]; exact (thI T0 Q.1.2.1 (k := 99) (i := x1.toNatClampNeg) (lo := 0) (hi := 5) rfl).1
  · rw [z0, if_pos (by omega)]
end
end
section
/-! legal moves, by their squares -/
theorem fq_s {A : List (Nat × Nat)} {k w i : Nat} (x : XS k i = false) (s : ∀ k i, mS A k i = true → XS k i = true) : fS A [] k w i = false := by
  cases q : fS A [] k w i with
  | false => rfl
  | true =>
    have : mS A k i = true := by
      unfold fS at q
      simpa using q
    rw [s k i this] at x
    exact x
section
variable {ρ : Nat → Nat} {c : Cm} {C : Int32 → Int32 → Prop} {x0 b l lf lt F wb wl : Nat} {h o : Hp} {x3 x4 x5 : Int32}
theorem la_fr {S : Nat → Nat → Nat → Bool} (T : TH ρ c h) (rl : ρ l = 14) (rf : ρ lf = 66) (rt : ρ lt = 67) (f : Fr ρ (cat c S h) h o) (s1 : ∀ w, S 14 w 0 = false) (s2 : ∀ w i, S 66 w i = false) (s3 : ∀ w i, S 67 w i = false) (P : LA C l lf lt h) : LA C l lf lt o := by
  intro i hi
  rw [(fr_RI f rl (by decide) s1).1] at hi
  rw [(fr_RI f rf (by decide) (fun w => s2 w i)).1, (fr_RI f rt (by decide) (fun w => s3 w i)).1]
  exact P i hi
theorem la_set {x y : Int32} (T : TH ρ c h) (rl : ρ l = 14) (e1 : hR h l 1 = some lf) (e2 : hR h l 2 = some lt) (hy : 0 ≤ y.toInt ∧ y.toInt < (hI h l 0).toInt) (P : LA C l lf lt h) (e : sX13_set h l x l y = some o) : LA C l lf lt o ∧ hI o l 0 = hI h l 0 ∧ hR o l 1 = some lf ∧ hR o l 2 = some lt := by
  have r1 := rr T (thR T rl (i := 1) (k2 := 66) rfl (by decide)) e1
  have r2 := rr T (thR T rl (i := 2) (k2 := 67) rfl (by decide)) e2
  obtain ⟨lm, e3, r3⟩ := thR T rl (i := 3) (k2 := 68) rfl (by decide)
  obtain ⟨lb, e4, r4⟩ := thR T rl (i := 4) (k2 := 69) rfl (by decide)
  obtain ⟨lx, e5, r5⟩ := thR T rl (i := 5) (k2 := 70) rfl (by decide)
  obtain ⟨lk, e6, r6⟩ := thR T rl (i := 6) (k2 := 71) rfl (by decide)
  obtain ⟨lo, e7, r7⟩ := thR T rl (i := 7) (k2 := 72) rfl (by decide)
  obtain ⟨fr, z0, z⟩ := set_post rl r1 r2 r3 r4 r5 r6 r7 e1 e2 e3 e4 e5 e6 e7 e
  refine ⟨fun i hi => ?_, z0, by rw [fr.1]; exact e1, by rw [fr.1]; exact e2⟩
  rw [z0] at hi
  obtain ⟨w1, w2, _⟩ := z i
  rw [w1, w2]
  have cy := clamp_i hy.1
  by_cases w : i = x.toNatClampNeg
  · rw [if_pos w, if_pos w]
    exact P y.toNatClampNeg (by omega)
  · rw [if_neg w, if_neg w]
    exact P i hi
theorem la_cut {v : Int32} (rl : ρ l = 14) (rf : ρ lf = 66) (rt : ρ lt = 67) (w : o = wI h l 0 v) (le : v.toInt ≤ (hI h l 0).toInt) (P : LA C l lf lt h) : LA C l lf lt o := by
  intro i hi
  rw [w, r_I, if_pos ⟨rfl, rfl⟩] at hi
  rw [w, r_I, if_neg (ne_r rf rl (by decide)), r_I, if_neg (ne_r rt rl (by decide))]
  exact P i (by omega)
theorem lgq_110 (hF : 700000 ≤ F) (hO : pmO c wl [(66, 999), (67, 999), (68, 999), (69, 999), (70, 999), (71, 999), (72, 999), (14, 0)]) (ol : cw c l = wl) (rl : ρ l = 14) : ∀ (f : Nat) {h : Hp} {x3 x5 : Int32}, TH ρ c h → hR h l 1 = some lf → hR h l 2 = some lt → LA C l lf lt h → 0 ≤ x3.toInt → x3.toInt ≤ x5.toInt → x5.toInt ≤ (hI h l 0).toInt → (3001 - x5.toInt).toNat < f → Sat (sX15_legal_110 F f h l x3 x5) (fun o => TH ρ c o ∧ LA C l lf lt o) := by
  intro f
  induction f with
  | zero => intros; omega
  | succ f ih =>
    intro h x3 x5 T e1 e2 P a3 a5 b5 hf
    rw [sX15_legal_110]
    unfold sX15_legal_152 sX15_legal_141
    have m := thI T rl (k := 14) (i := 0) (lo := 0) (hi := 3000) rfl
    have m3 := m.2
    have r1 := rr T (thR T rl (i := 1) (k2 := 66) rfl (by decide)) e1
    have r2 := rr T (thR T rl (i := 2) (k2 := 67) rfl (by decide)) e2
    refine s_br (fun _ => ?_) (fun n1 => ?_)
    · refine s_hq (th_wI T rl (k := 14) (lo := 0) (hi := 3000) rfl ⟨a3, by omega⟩ (by decide) (by decide) (pm_o hO ol rfl)) (fun h2 T2 w2 => ?_)
      exact s_some ⟨T2, la_cut rl r1 r2 w2 (by omega) P⟩
    · have l5 := nle_i n1
      have i5 : Rg 0 2999 x5 := ⟨by omega, by omega⟩
      have i3 : Rg 0 2999 x3 := ⟨a3, by omega⟩
      have n5 := nc_s i5 (by decide)
      have n3 := nc_s i3 (by decide)
      obtain ⟨lx, ex, rx⟩ := thR T rl (i := 5) (k2 := 70) rfl (by decide)
      refine s_ref ex ?_
      refine s_gd (by rw [thN T rx (k := 70) (n := 3000) rfl (by decide)]; exact rg_inB i5 (by decide)) ?_
      refine s_br (fun _ => ?_) (fun _ => ?_)
      · refine s_q (fun y ey => ?_)
        have ey2 : y.toInt = x5.toInt + 1 := by rw [ey]; exact n5.2
        exact ih T e1 e2 P a3 (by omega) (by omega) (by omega)
      · refine s_dd (zX13_set hF (pmO_s hO rfl) ol ol T rl i3 rl i5) (fun o6 e6 T6 => ?_)
        obtain ⟨P6, k6, e16, e26⟩ := la_set T rl e1 e2 ⟨by omega, l5⟩ P e6
        refine s_q (fun v ev => s_q (fun y ey => ?_))
        have ey2 : y.toInt = x5.toInt + 1 := by rw [ey]; exact n5.2
        have ev2 : v.toInt = x3.toInt + 1 := by rw [ev]; exact n3.2
        exact ih T6 e16 e26 P6 (by omega) (by omega) (by rw [k6]; omega) (by omega)
theorem lgq_28 (hF : 700000 ≤ F) (hA : pmA c [(16, 23), (16, 24)]) (hB : pmO c 2528 [(62, 999), (63, 999), (64, 999), (65, 999), (13, 1), (13, 2), (13, 3), (13, 7)]) (hO : pmO c wl [(66, 999), (67, 999), (68, 999), (69, 999), (70, 999), (71, 999), (72, 999), (14, 0)]) (ob : cw c b = wb) (nb : ¬ wb = 2528) (ol : cw c l = wl) (r0 : ρ x0 = 16) (rb : ρ b = 13) (rl : ρ l = 14) : ∀ (f : Nat) {h : Hp} {x3 x4 x5 : Int32}, TH ρ c h → SqOk x0 h → MvB x0 b l h → hR h l 1 = some lf → hR h l 2 = some lt → LA C l lf lt h → 0 ≤ x3.toInt → x3.toInt ≤ x5.toInt → x5.toInt ≤ (hI h l 0).toInt → (3001 - x5.toInt).toNat < f → Sat (sX15_legal_28 F f h x0 b l x3 x4 x5) (fun o => TH ρ c o ∧ LA C l lf lt o) := by
  intro f
  induction f with
  | zero => intros; omega
  | succ f ih =>
    intro h x3 x4 x5 T sq mv e1 e2 P a3 a5 b5 hf
    rw [sX15_legal_28]
    unfold sX15_legal_152 sX15_legal_79 sX15_legal_73
    have m := thI T rl (k := 14) (i := 0) (lo := 0) (hi := 3000) rfl
    have m3 := m.2
    have r1 := rr T (thR T rl (i := 1) (k2 := 66) rfl (by decide)) e1
    have r2 := rr T (thR T rl (i := 2) (k2 := 67) rfl (by decide)) e2
    have z0 : (0 : Int32).toInt = 0 := rfl
    refine s_br (fun _ => ?_) (fun n1 => ?_)
    · refine s_hq (th_wI T rl (k := 14) (lo := 0) (hi := 3000) rfl ⟨a3, by omega⟩ (by decide) (by decide) (pm_o hO ol rfl)) (fun h2 T2 w2 => ?_)
      have P2 := la_cut rl r1 r2 w2 (by omega) P
      obtain ⟨R, eR, rR⟩ := thR T2 r0 (i := 4) (k2 := 15) rfl (by decide)
      refine s_ref eR ?_
      refine s_br (fun _ => s_some ⟨T2, P2⟩) (fun _ => ?_)
      refine s_br (fun _ => s_some ⟨T2, P2⟩) (fun _ => ?_)
      exact lgq_110 hF hO ol rl F T2 (by rw [w2]; exact e1) (by rw [w2]; exact e2) P2 (by decide) (Int.le_refl _) (by rw [z0]; exact (thI T2 rl (k := 14) (i := 0) (lo := 0) (hi := 3000) rfl).1) (by rw [z0]; omega)
    · have l5 := nle_i n1
      have i5 : Rg 0 2999 x5 := ⟨by omega, by omega⟩
      have i3 : Rg 0 2999 x3 := ⟨a3, by omega⟩
      have n5 := nc_s i5 (by decide)
      have n3 := nc_s i3 (by decide)
      refine s_cIf (S := fS [(16, 23), (16, 24)] [(2528, [(62, 999), (63, 999), (64, 999), (65, 999), (13, 1), (13, 2), (13, 3), (13, 7)])]) T (fs_sub hA (fs_c hB fs_n)) (zX15_isSafe hF fs_a (fs_o (.head _)) ob ol (th_in _ T) r0 rb rl i5 sq mv l5) (fun o6 T6 i6 f6 => ?_)
      have sq6 : SqOk x0 o6.2 := sq_fr T r0 f6 (fun _ => rfl) (fun _ => rfl) (fun _ => rfl) sq
      have mv6 : MvB x0 b l o6.2 := mv_fr T r0 rb rl f6 (fun _ => rfl) (fun _ => rfl) rfl (by rw [ob]; exact fs_cf (Or.inr nb) (fs_nf rfl)) rfl (by rw [ob]; intro _; exact fs_cf (Or.inr nb) (fs_nf rfl)) (by rw [ob]; intro _; exact fs_cf (Or.inr nb) (fs_nf rfl)) rfl rfl rfl rfl rfl rfl (fun _ => rfl) (fun _ => rfl) (fun _ => rfl) (fun _ => rfl) (fun _ => rfl) mv
      have P6 : LA C l lf lt o6.2 := la_fr T rl r1 r2 f6 (fun _ => rfl) (fun _ _ => rfl) (fun _ _ => rfl) P
      have k6 : hI o6.2 l 0 = hI h l 0 := (fr_RI f6 rl (by decide) (fun _ => rfl)).1
      have e16 : hR o6.2 l 1 = some lf := by rw [(fr_RI f6 rl (by decide) (fun _ => rfl)).2.2]; exact e1
      have e26 : hR o6.2 l 2 = some lt := by rw [(fr_RI f6 rl (by decide) (fun _ => rfl)).2.2]; exact e2
      refine s_br (fun _ => ?_) (fun _ => ?_)
      · refine s_q (fun y ey => ?_)
        have ey2 : y.toInt = x5.toInt + 1 := by rw [ey]; exact n5.2
        exact ih T6 sq6 mv6 e16 e26 P6 a3 (by omega) (by rw [k6]; omega) (by omega)
      · refine s_cVfq (S := fS [] [(wl, [(66, 999), (67, 999), (68, 999), (69, 999), (70, 999), (71, 999), (72, 999)])]) T6 (fs_sub pmA_n (fs_c (pmO_s hO rfl) fs_n)) (s_weq (zX13_set hF (fs_o (.head _)) ol ol (th_in _ T6) rl i3 rl i5)) (fun o8 T8 f8 e8 => ?_)
        obtain ⟨P8, k8, e18, e28⟩ := la_set T6 rl e16 e26 ⟨by omega, by rw [k6]; exact l5⟩ P6 e8
        have mv8 := mv_set T6 r0 rb rl ⟨by omega, by rw [k6]; exact l5⟩ mv6 e8
        have sq8 : SqOk x0 o8 := sq_fr T6 r0 f8 (fun _ => rfl) (fun _ => rfl) (fun _ => rfl) sq6
        obtain ⟨lx, ex, rx⟩ := thR T8 rl (i := 5) (k2 := 70) rfl (by decide)
        refine s_ref ex ?_
        refine s_gd (by rw [thN T8 rx (k := 70) (n := 3000) rfl (by decide)]; exact rg_inB i3 (by decide)) ?_
        have fin : ∀ (t0 : Int32), Sat (nm (x4 ||| t0) fun v_1 => nm (x3 + (1 : Int32)) fun v_2 => nm (x5 + (1 : Int32)) fun v_3 => sX15_legal_28 F f o8 x0 b l v_2 v_1 v_3) (fun o => TH ρ c o ∧ LA C l lf lt o) := fun t0 => by
          refine s_q (fun u eu => s_q (fun v ev => s_q (fun y ey => ?_)))
          have ey2 : y.toInt = x5.toInt + 1 := by rw [ey]; exact n5.2
          have ev2 : v.toInt = x3.toInt + 1 := by rw [ev]; exact n3.2
          exact ih T8 sq8 mv8 e18 e28 P8 (by omega) (by omega) (by rw [k8, k6]; omega) (by omega)
        exact s_br (fun _ => fin _) (fun _ => fin _)
/-- legal: all its moves are so, where all that are tried are -/
theorem legal_q (hF : 700000 ≤ F) (hA : pmA c [(87, 999), (88, 999), (89, 999), (16, 23), (16, 24), (16, 29)]) (hB : pmO c 2528 [(62, 999), (63, 999), (64, 999), (65, 999), (13, 1), (13, 2), (13, 3), (13, 7)]) (hO : pmO c wl [(66, 999), (67, 999), (68, 999), (69, 999), (70, 999), (71, 999), (72, 999), (14, 0)]) (ob : cw c b = wb) (nb : ¬ wb = 2528) (ol : cw c l = wl) (T : TH ρ c h) (r0 : ρ x0 = 16) (rb : ρ b = 13) (rl : ρ l = 14) (sq : SqOk x0 h) (pe : PE b h) (e1 : hR h l 1 = some lf) (e2 : hR h l 2 = some lt) (K : ∀ g o, Fq ρ h g → sX15_tryAll F g x0 b l = some o → LA C l lf lt o) : Sat (sX15_legal F h x0 b l) (fun o => TH ρ c o ∧ LA C l lf lt o) := by
  have r1 := rr T (thR T rl (i := 1) (k2 := 66) rfl (by decide)) e1
  have r2 := rr T (thR T rl (i := 2) (k2 := 67) rfl (by decide)) e2
  unfold sX15_legal
  refine s_hq (th_wI T rl (k := 14) (lo := 0) (hi := 3000) rfl (rg_m (rg_b rfl : Rg 0 0 (0 : Int32)) (by decide)) (by decide) (by decide) (pm_o hO ol rfl)) (fun h1 T1 w1 => ?_)
  have q1 : Fq ρ h h1 := by rw [w1]; exact fq_w fq_r rl
  have f1 := fr1Io (c := c) (B := [(14, 0)]) rl ol rfl w1
  refine s_cIf (S := fS [(16, 29)] []) T1 (fs_sub (pmA_s hA rfl) fs_n) (zX15_early hF fs_a ob (th_in _ T1) r0 rb) (fun o2 T2 i2 f2 => ?_)
  have q2 : Fq ρ h o2.2 := fq_t q1 (fun a i n x => f2.1 a i n (fq_s x (fun k i m => by
    have : k = 16 ∧ i = 29 := by
      unfold mS at m
      simp at m
      exact ⟨m.1.symm, m.2.symm⟩
    rw [this.1, this.2]
    rfl)))
  refine s_br (fun _ => ?_) (fun _ => ?_)
  · have pe2 : PE b o2.2 := pe_fr T1 rb f2 rfl rfl rfl (fun _ => rfl) (fun _ => rfl) (pe_fr T rb f1 rfl rfl rfl (fun _ => rfl) (fun _ => rfl) pe)
    refine s_cVfq (S := fS [(87, 999), (88, 999), (89, 999), (16, 23), (16, 24)] [(wl, [(66, 999), (67, 999), (68, 999), (69, 999), (70, 999), (71, 999), (72, 999), (14, 0)])]) T2 (fs_sub (pmA_s hA rfl) (fs_c hO fs_n)) (s_weq2 (zX15_tryAll hF fs_a (fs_o (.head _)) ob ol (th_in _ T2) r0 rb rl pe2)) (fun o4 T4 f4 w4 => ?_)
    have P4 := K o2.2 o4 q2 w4.2
    have sq4 : SqOk x0 o4 := sq_fr T2 r0 f4 (fun _ => rfl) (fun _ => rfl) (fun _ => rfl) (sq_fr T1 r0 f2 (fun _ => rfl) (fun _ => rfl) (fun _ => rfl) (sq_fr T r0 f1 (fun _ => rfl) (fun _ => rfl) (fun _ => rfl) sq))
    have kR : ∀ {i : Nat}, (i = 1 ∨ i = 2) → hR o4 l i = hR h l i := fun {i} w => by
      have a : hR o2.2 l i = hR h l i := fqE i q2 rl (by decide) (by rcases w with w | w <;> subst w <;> rfl)
      have z : hR o4 l i = hR o2.2 l i := by
        rcases w with w | w <;> subst w
        · exact (fr_RI f4 rl (by decide) (fun _ => rfl)).2.2
        · exact (fr_RI f4 rl (by decide) (fun _ => rfl)).2.2
      exact z.trans a
    have z0 : (0 : Int32).toInt = 0 := rfl
    exact lgq_28 hF (pmA_s hA rfl) hB hO ob nb ol r0 rb rl F T4 sq4 w4.1 (by rw [kR (Or.inl rfl)]; exact e1) (by rw [kR (Or.inr rfl)]; exact e2) P4 (by decide) (Int.le_refl _) (by rw [z0]; exact (thI T4 rl (k := 14) (i := 0) (lo := 0) (hi := 3000) rfl).1) (by rw [z0]; omega)
  · refine s_some ⟨T2, la_fr T1 rl r1 r2 f2 (fun _ => rfl) (fun _ _ => rfl) (fun _ _ => rfl) (fun i hi => ?_)⟩
    rw [w1, r_I, if_pos ⟨rfl, rfl⟩] at hi
    exact absurd hi (by show ¬ (i : Int) < 0; omega)
end
end
section
/-! the moves of a state into its masks, all good -/
section
variable {ρ : Nat → Nat} {c : Cm} {h h0 o : Hp} {x0 rm re rb rk R l lf lt F : Nat} {x1 x2 x6 : Int32} {n a : Int}
/-- what is wanted of a move: its man is found, is of the side that moves, and may go there -/
def MvG (h : Hp) (rm re R : Nat) (sq : Int) (x1 x2 : Int32) (f t : Int32) : Prop := Rg 0 63 t ∧ (∃ j0 : Nat, (j0 : Int) < (hI h rm x1.toNatClampNeg).toInt ∧ f.toInt = dg (x2.toInt / 2) sq j0) ∧ ∀ j : Nat, (j : Int) < (hI h rm x1.toNatClampNeg).toInt → f.toInt = dg (x2.toInt / 2) sq j → owS h re x1.toNatClampNeg j = (x2 &&& (1 : Int32)).toInt ∧ Gd h rm re R sq x1.toNatClampNeg (x2.toInt / 2) j t.toNatClampNeg
theorem bh_207 {k187 : Hp → Nat → Int32 → Int32 → Int32 → Option Hp} {Q : Hp → Prop} {j0 : Nat} (hF : 700000 ≤ F) (hA : pmA c [(103, 999)]) (T : TH ρ c h) (r0 : ρ x0 = 16) (i1 : Rg 0 4095 x1) (a2 : 0 ≤ x2.toInt) (i6 : Rg 0 2999 x6) (em : hR h x0 46 = some rm) (eb : hR h x0 53 = some rb) (ee : hR h x0 47 = some re) (ek : hR h x0 52 = some rk) (qk : ρ rk = 103) (el : hR h x0 30 = some l) (ef : hR h l 1 = some lf) (et : hR h l 2 = some lt)
    (D : MBd x0 n a h) (en : (hI h x0 49).toInt = n) (ln : (x1.toNatClampNeg : Int) < n) (na : a ≤ 1500000) (w0 : x2.toInt / 2 < (hI h x0 13).toInt ^ (hI h rm x1.toNatClampNeg).toNatClampNeg) (P : MkG x0 rm rb re rk R h)
    (jm : (j0 : Int) < (hI h rm x1.toNatClampNeg).toInt) (jf : (hI h lf x6.toNatClampNeg).toInt = dg (x2.toInt / 2) (hI h x0 13).toInt j0) (G : MvG h rm re R (hI h x0 13).toInt x1 x2 (hI h lf x6.toNatClampNeg) (hI h lt x6.toNatClampNeg))
    (K : ∀ o y, TH ρ c o → EQm rk h o → MkG x0 rm rb re rk R o → y.toInt = x6.toInt + 1 → Sat (k187 o x0 x1 x2 y) Q) : ∀ (f : Nat) {x7 x8 : Int32}, 0 ≤ x7.toInt → x7.toInt ≤ (j0 : Int) → x8.toInt = rsD (x2.toInt / 2) (hI h x0 13).toInt x7.toNatClampNeg → 0 ≤ x8.toInt → ((j0 : Int) - x7.toInt).toNat < f → Sat (sX15_begin_207 F k187 f h x0 x1 x2 x6 x7 x8) Q := by
  have ql : ρ l = 14 := rr T (thR T r0 (i := 30) (k2 := 14) rfl (by decide)) el
  have qf : ρ lf = 66 := rr T (thR T ql (i := 1) (k2 := 66) rfl (by decide)) ef
  have qt : ρ lt = 67 := rr T (thR T ql (i := 2) (k2 := 67) rfl (by decide)) et
  have qm : ρ rm = 99 := rr T (thR T r0 (i := 46) (k2 := 99) rfl (by decide)) em
  have qb : ρ rb = 104 := rr T (thR T r0 (i := 53) (k2 := 104) rfl (by decide)) eb
  have im := thI T qm (k := 99) (i := x1.toNatClampNeg) (lo := 0) (hi := 5) rfl
  have m5 := im.2
  have cm := clamp_i im.1
  have ib := fun k => (thI T qb (k := 104) (i := k) (lo := 0) (hi := 1500000) rfl).1
  have s := thI T r0 (k := 16) (i := 13) (lo := 9) (hi := 64) rfl
  have s9 := s.1
  have d1 := (D rm rb em eb x1.toNatClampNeg ln).1
  have n0 : ¬ hI h x0 13 = 0 := fun z => by rw [z] at s9; exact absurd s9 (by decide)
  intro f
  induction f with
  | zero => intros; omega
  | succ f ih =>
    intro x7 x8 a7 b7 e8 a8 hf
    rw [sX15_begin_207]
    have c7 := clamp_i a7
    have i8 : Rg 0 2147483647 x8 := ⟨a8, (rg_top x8).2⟩
    refine s_gd n0 ?_
    refine s_ref el (s_ref ef ?_)
    refine s_gd (by rw [thN T qf (k := 66) (n := 3000) rfl (by decide)]; exact rg_inB i6 (by decide)) ?_
    have ed : (x8 - x8 / (hI h x0 13) * (hI h x0 13)).toInt = x8.toInt % (hI h x0 13).toInt := tr i8 s (by decide)
    refine s_br (fun q => ?_) (fun q => ?_)
    · have q' : (hI h lf x6.toNatClampNeg).toInt = dg (x2.toInt / 2) (hI h x0 13).toInt x7.toNatClampNeg := by rw [← q, ed, e8]; rfl
      obtain ⟨g1, g2⟩ := G.2.2 x7.toNatClampNeg (by omega) q'
      refine s_ref ek ?_
      have W0 : 0 ≤ x2.toInt / 2 := by omega
      have own : ¬ ((hI h re (5 * x1.toNatClampNeg + x7.toNatClampNeg)) - (1 : Int32)) &&& (1 : Int32) < x2 &&& (1 : Int32) := fun w => by
        have w := lt_i w
        unfold owS at g1
        omega
      refine s_dd (maskOf_q (W := (hI h x0 13).toInt ^ (hI h rm x1.toNatClampNeg).toNatClampNeg) hF T r0 i1 em eb ee a2 (by omega) (by omega) a7 (by omega) own) (fun o7 eq7 ⟨e7, i7⟩ => ?_)
      have mub : (hI h rm x1.toNatClampNeg).toInt * (x2.toInt / 2) ≤ (hI h rm x1.toNatClampNeg).toInt * (hI h x0 13).toInt ^ (hI h rm x1.toNatClampNeg).toNatClampNeg := Int.mul_le_mul_of_nonneg_left (by omega) im.1
      have mx := (mask_x i1 im em eb ee a2 a7 (ib _) (by omega) eq7).2
      rw [e7]
      have gk : inB o7.1 (hN h rk) := by rw [thN T qk (k := 103) (n := 1500000) rfl (by decide)]; exact rg_inB i7 (by decide)
      refine s_gd gk ?_
      refine s_ref el (s_ref et ?_)
      refine s_gd (by rw [thN T qt (k := 67) (n := 3000) rfl (by decide)]; exact rg_inB i6 (by decide)) (s_gd gk ?_)
      refine s_hq (th_wJ T qk (by decide) (pm_a hA rfl)) (fun h13 T13 w13 => ?_)
      refine s_q (fun y ey => ?_)
      have ey2 : y.toInt = x6.toInt + 1 := by rw [ey]; exact (nc_s i6 (by decide)).2
      refine K h13 y T13 ⟨⟨fun a i => by rw [w13]; rfl, fun a i => by rw [w13]; rfl⟩, fun a i na => by rw [w13, r_J, if_neg (fun w => na w.1)]⟩ ?_ ey2
      have c77 := clamp_i i7.1
      exact mkg_w (q0 := x2.toInt / 2) T qm em eb D en ln W0 w0 (by omega) (by rw [c77, mx, g1]) G.1 g2 ib P w13
    · have ne : x7.toInt ≠ (j0 : Int) := fun z => by
        have zn : x7.toNatClampNeg = j0 := by omega
        refine q (Int32.toInt_inj.mp ?_)
        rw [ed, jf, e8, zn]
        rfl
      refine s_gd n0 ?_
      refine s_q (fun v ev => s_q (fun y ey => ?_))
      have i7 : Rg 0 4 x7 := ⟨a7, by omega⟩
      have ny := nc_s i7 (by decide)
      have ey2 : y.toInt = x7.toInt + 1 := by rw [ey]; exact ny.2
      have ey3 : y.toNatClampNeg = x7.toNatClampNeg + 1 := by rw [ey]; exact ny.1
      have ev2 : v.toInt = x8.toInt / (hI h x0 13).toInt := by rw [ev]; exact td i8 s (by decide)
      clear ey ev
      have d0 : 0 ≤ x8.toInt / (hI h x0 13).toInt := Int.ediv_nonneg a8 (by omega)
      exact ih (by omega) (by omega) (by rw [ey3, ev2, e8]; rfl) (by omega) (by omega)
theorem mbd_c {g : Hp} (E : EQh h g) (D : MBd x0 n a h) : MBd x0 n a g := by
  intro rm rb em eb k hk
  rw [E.2] at em eb
  simp only [E.1]
  exact D rm rb em eb k hk
theorem mvg_c {g : Hp} (E : EQh h g) {sq : Int} {f t : Int32} (G : MvG h rm re R sq x1 x2 f t) : MvG g rm re R sq x1 x2 f t := by
  unfold MvG at *
  refine ⟨G.1, by rw [E.1]; exact G.2.1, fun j hj e => ?_⟩
  rw [E.1] at hj
  rw [owS_c E.1]
  exact ⟨(G.2.2 j hj e).1, gd_c E.1 (G.2.2 j hj e).2⟩
theorem bh_187 (hF : 700000 ≤ F) (hA : pmA c [(103, 999)]) (r0 : ρ x0 = 16) (i1 : Rg 0 4095 x1) (a2 : 0 ≤ x2.toInt) (em : hR h0 x0 46 = some rm) (eb : hR h0 x0 53 = some rb) (ee : hR h0 x0 47 = some re) (ek : hR h0 x0 52 = some rk) (qk : ρ rk = 103) (el : hR h0 x0 30 = some l) (ef : hR h0 l 1 = some lf) (et : hR h0 l 2 = some lt)
    (D : MBd x0 n a h0) (en : (hI h0 x0 49).toInt = n) (ln : (x1.toNatClampNeg : Int) < n) (na : a ≤ 1500000) (w0 : x2.toInt / 2 < (hI h0 x0 13).toInt ^ (hI h0 rm x1.toNatClampNeg).toNatClampNeg)
    (G : LA (MvG h0 rm re R (hI h0 x0 13).toInt x1 x2) l lf lt h0) : ∀ (f : Nat) {h : Hp} {x6 : Int32}, TH ρ c h → EQm rk h0 h → MkG x0 rm rb re rk R h → 0 ≤ x6.toInt → (3001 - x6.toInt).toNat < f → Sat (sX15_begin_187 F f h x0 x1 x2 x6) (fun o => TH ρ c o ∧ EQm rk h0 o ∧ MkG x0 rm rb re rk R o) := by
  intro f
  induction f with
  | zero => intros; omega
  | succ f ih =>
    intro h x6 T E P a6 hf
    rw [sX15_begin_187]
    obtain ⟨E1, E2⟩ := E.1
    refine s_ref (by rw [E2]; exact el) ?_
    have ql : ρ l = 14 := rr T (thR T r0 (i := 30) (k2 := 14) rfl (by decide)) (by rw [E2]; exact el)
    have n3 := (thI T ql (k := 14) (i := 0) (lo := 0) (hi := 3000) rfl).2
    refine s_br (fun _ => s_some ⟨T, E, P⟩) (fun n1 => ?_)
    have l6 := nle_i n1
    have i6 : Rg 0 2999 x6 := ⟨a6, by omega⟩
    have c6 := clamp_i a6
    have b6 := i6.2
    refine s_q (fun v ev => ?_)
    have ev2 : v.toInt = x2.toInt / 2 := by rw [ev]; exact ti_shr1
    clear ev
    have G6 := mvg_c E.1 (G x6.toNatClampNeg (by rw [← E1]; omega))
    obtain ⟨j0, jm, je⟩ := G6.2.1
    have z0 : (0 : Int32).toInt = 0 := rfl
    have zc : (0 : Int32).toNatClampNeg = 0 := rfl
    refine bh_207 (j0 := j0) (rm := rm) (rb := rb) (re := re) (rk := rk) (l := l) (lf := lf) (lt := lt) (n := n) (a := a) (R := R) hF hA T r0 i1 a2 i6 (by rw [E2]; exact em) (by rw [E2]; exact eb) (by rw [E2]; exact ee) (by rw [E2]; exact ek) qk (by rw [E2]; exact el) (by rw [E2]; exact ef) (by rw [E2]; exact et) (mbd_c E.1 D) (by rw [E1]; exact en) ln na (by rw [E1, E1]; exact w0) P jm (by rw [E1, E1]; exact je) (by rw [E1, E1, E1]; exact G6) (fun o y To Eo Po ey => ?_) F (by decide) (by rw [z0]; omega) (by rw [zc]; exact ev2) (by omega) ?_
    · exact ih To (eqm_t E Eo) Po (by omega) (by omega)
    · have := (thI T (rr T (thR T r0 (i := 46) (k2 := 99) rfl (by decide)) (by rw [E2]; exact em) : ρ rm = 99) (k := 99) (i := x1.toNatClampNeg) (lo := 0) (hi := 5) rfl).2
      rw [z0]
      omega
end
end
section
/-! a state is begun: what the board is, and what is as it was -/
/-- all is as it was but for a list of places -/
def Kf (ρ : Nat → Nat) (E : List (Nat × Nat)) (h0 h : Hp) : Prop := ∀ a i, ρ a ≠ 0 → mS E (ρ a) i = false → hI h a i = hI h0 a i ∧ hJ h a i = hJ h0 a i ∧ hR h a i = hR h0 a i
section
variable {ρ : Nat → Nat} {c : Cm} {E A : List (Nat × Nat)} {L : List (Nat × List (Nat × Nat))} {h0 h h1 : Hp} {a k : Nat}
theorem kf_r : Kf ρ E h h := fun _ _ _ _ => ⟨rfl, rfl, rfl⟩
theorem kf_t (p : Kf ρ E h0 h) (q : Kf ρ E h h1) : Kf ρ E h0 h1 := fun a i n x => ⟨(q a i n x).1.trans (p a i n x).1, (q a i n x).2.1.trans (p a i n x).2.1, (q a i n x).2.2.trans (p a i n x).2.2⟩
theorem kfI (i : Nat) (K : Kf ρ E h0 h) (ra : ρ a = k) (n : k ≠ 0 := by decide) (x : mS E k i = false := by rfl) : hI h a i = hI h0 a i := (K a i (by rw [ra]; exact n) (by rw [ra]; exact x)).1
theorem kfJ (i : Nat) (K : Kf ρ E h0 h) (ra : ρ a = k) (n : k ≠ 0 := by decide) (x : mS E k i = false := by rfl) : hJ h a i = hJ h0 a i := (K a i (by rw [ra]; exact n) (by rw [ra]; exact x)).2.1
theorem kfR (i : Nat) (K : Kf ρ E h0 h) (ra : ρ a = k) (n : k ≠ 0 := by decide) (x : mS E k i = false := by rfl) : hR h a i = hR h0 a i := (K a i (by rw [ra]; exact n) (by rw [ra]; exact x)).2.2
theorem kf_of (f : Fr ρ (cat c (fS A L) h) h h1) (e : (sS A E && L.all fun p => sS p.2 E) = true) : Kf ρ E h h1 := fun a i n x => by
  refine f.1 a i n ?_
  show fS A L (ρ a) (cw c a) i = false
  cases q : fS A L (ρ a) (cw c a) i with
  | false => rfl
  | true =>
    unfold fS at q
    rw [Bool.and_eq_true] at e
    rw [Bool.or_eq_true] at q
    rcases q with q | q
    · rw [mS_s e.1 q] at x; exact x
    · obtain ⟨p, hp, q⟩ := List.any_eq_true.mp q
      rw [Bool.and_eq_true] at q
      rw [mS_s (List.all_eq_true.mp e.2 p hp) q.1] at x
      exact x
theorem kf_wI {i : Nat} {v : Int32} (w : h1 = wI h a i v) (ra : ρ a = k) (x : mS E k i = true := by rfl) : Kf ρ E h h1 := fun b j _ xb => by
  rw [w]
  refine ⟨?_, rfl, rfl⟩
  rw [r_I, if_neg]
  rintro ⟨q1, q2⟩
  subst q1; subst q2
  rw [ra, x] at xb
  exact absurd xb (by decide)
theorem kf_wJ {i : Nat} {v : Int64} (w : h1 = wJ h a i v) (ra : ρ a = k) (x : mS E k i = true := by rfl) : Kf ρ E h h1 := fun b j _ xb => by
  rw [w]
  refine ⟨rfl, ?_, rfl⟩
  rw [r_J, if_neg]
  rintro ⟨q1, q2⟩
  subst q1; subst q2
  rw [ra, x] at xb
  exact absurd xb (by decide)
theorem kf_m {E2 : List (Nat × Nat)} (p : Kf ρ E h0 h) (e : sS E E2 = true) : Kf ρ E2 h0 h := fun a i n x => p a i n (by
  cases q : mS E (ρ a) i with
  | false => rfl
  | true => rw [mS_s e q] at x; exact x)
end
theorem ne_r' {ρ : Nat → Nat} {a b k m : Nat} (e1 : ρ a = k) (e2 : ρ b = m) (n : ¬ k = m) : ¬ a = b := fun w => n (by rw [← e1, w]; exact e2)
section
variable {ρ : Nat → Nat} {c : Cm} {h o : Hp} {x0 b g M F : Nat} {x1 x2 : Int32}
/-- a cleared board: no passes, no rights -/
theorem clear_b (T : TH ρ c h) (rb : ρ b = 13) (e : sX12_clear F h b = some o) : hI o b 3 = 0 ∧ hJ o b 2 = 0 := by
  obtain ⟨M, eM, rM⟩ := thR T rb (i := 0) (k2 := 62) rfl (by decide)
  obtain ⟨H, eH, rH⟩ := thR T rb (i := 5) (k2 := 64) rfl (by decide)
  obtain ⟨C, eC, rC⟩ := thR T rb (i := 6) (k2 := 65) rfl (by decide)
  have nM : ¬ b = M := ne_r' rb rM (by decide)
  have nH : ¬ b = H := ne_r' rb rH (by decide)
  have nC : ¬ b = C := ne_r' rb rC (by decide)
  have c38 : ∀ (f : Nat) {h : Hp} {x1 : Int32}, hR h b 5 = some H → hR h b 6 = some C → hI h b 3 = 0 → hJ h b 2 = 0 → sX12_clear_38 F f h b x1 = some o → hI o b 3 = 0 ∧ hJ o b 2 = 0 := by
    intro f
    induction f with
    | zero => intro h x1 _ _ _ _ e; exact absurd e (by simp [sX12_clear_38])
    | succ f ih =>
      intro h x1 eH eC i3 j2 e
      unfold sX12_clear_38 at e
      simp only [nm] at e
      replace e := br_s e; rcases e with ⟨_, e⟩ | ⟨_, e⟩
      · replace e := cl_s e; obtain ⟨r2, p2, e⟩ := e
        have := r_eq eC p2; subst this
        replace e := (gd_s e).2
        replace e := cl_s e; obtain ⟨r5, p5, e⟩ := e
        replace p5 : hR h b 6 = some r5 := p5
        have := r_eq eC p5; subst this
        replace e := (gd_s e).2
        have e := Option.some.inj e; subst e
        refine ⟨?_, j2⟩
        rw [r_I, if_neg (fun w => absurd w.2 (by decide)), r_I, if_neg (fun w => nC w.1), r_I, if_neg (fun w => nC w.1)]
        exact i3
      · replace e := cl_s e; obtain ⟨r9, p9, e⟩ := e
        have := r_eq eH p9; subst this
        replace e := (gd_s e).2
        exact ih (h := wI h r9 x1.toNatClampNeg 0) eH eC (by rw [r_I, if_neg (fun w => nH w.1)]; exact i3) j2 e
  have c2 : ∀ (f : Nat) {h : Hp} {x1 : Int32}, hR h b 0 = some M → hR h b 5 = some H → hR h b 6 = some C → sX12_clear_2 F f h b x1 = some o → hI o b 3 = 0 ∧ hJ o b 2 = 0 := by
    intro f
    induction f with
    | zero => intro h x1 _ _ _ e; exact absurd e (by simp [sX12_clear_2])
    | succ f ih =>
      intro h x1 eM eH eC e
      unfold sX12_clear_2 at e
      simp only [nm] at e
      replace e := br_s e; rcases e with ⟨_, e⟩ | ⟨_, e⟩
      · refine c38 F (h := wI (wJ (wI h b 1 0) b 2 0) b 3 0) eH eC ?_ ?_ e
        · rw [r_I, if_pos ⟨rfl, rfl⟩]
        · show hJ (wJ _ b 2 0) b 2 = 0
          rw [r_J, if_pos ⟨rfl, rfl⟩]
      · replace e := cl_s e; obtain ⟨r5, p5, e⟩ := e
        replace e := (gd_s e).2
        exact ih (h := wI h r5 x1.toNatClampNeg 0) eM eH eC e
  unfold sX12_clear at e
  exact c2 F eM eH eC e
theorem lay_b {oo : Int32 × Hp} (T : TH ρ c h) (r0 : ρ x0 = 16) (l1 : hR h x0 60 = some g) (e : sX15_layState F h x0 x1 x2 = some oo) : hI oo.2 g 3 = 0 ∧ hJ oo.2 g 2 = 0 ∧ hI oo.2 g 1 = x2 &&& (1 : Int32) := by
  have rg : ρ g = 13 := rr T (thR T r0 (i := 60) (k2 := 13) rfl (by decide)) l1
  obtain ⟨M, eM, rM⟩ := thR T rg (i := 0) (k2 := 62) rfl (by decide)
  have nM : ¬ g = M := ne_r' rg rM (by decide)
  have lp : ∀ (f : Nat) {h : Hp} {x3 x4 x5 : Int32}, hR h x0 60 = some g → hR h g 0 = some M → sX15_layState_27 F f h x0 x1 x3 x4 x5 = some oo → (∀ i, hI oo.2 g i = hI h g i) ∧ ∀ a i, hJ oo.2 a i = hJ h a i := by
    intro f
    induction f with
    | zero => intro h x3 x4 x5 _ _ e; exact absurd e (by simp [sX15_layState_27])
    | succ f ih =>
      intro h x3 x4 x5 l1 eM e
      unfold sX15_layState_27 sX15_layState_109 at e
      simp only [nm] at e
      have put : ∀ {x3 x5 x6 x7 : Int32}, sX15_layState_111 F (sX15_layState_27 F f) h x0 x1 x3 x5 x6 x7 = some oo → (∀ i, hI oo.2 g i = hI h g i) ∧ ∀ a i, hJ oo.2 a i = hJ h a i := by
        intro x3 x5 x6 x7 eC
        unfold sX15_layState_111 at eC
        simp only [nm] at eC
        replace eC := cl_s eC; obtain ⟨r1, p1, eC⟩ := eC
        have := r_eq l1 p1; subst this
        replace eC := cl_s eC; obtain ⟨r2, p2, eC⟩ := eC
        have := r_eq eM p2; subst this
        replace eC := (gd_s eC).2
        obtain ⟨u1, u2⟩ := ih (h := wI h r2 x6.toNatClampNeg x7) l1 eM eC
        exact ⟨fun i => by rw [u1 i, r_I, if_neg (fun w => nM w.1)], fun a i => u2 a i⟩
      replace e := cl_s e; obtain ⟨_, _, e⟩ := e
      replace e := (gd_s e).2
      replace e := br_s e; rcases e with ⟨_, e⟩ | ⟨_, e⟩
      · rw [← Option.some.inj e]; exact ⟨fun _ => rfl, fun _ _ => rfl⟩
      replace e := (gd_s e).2
      replace e := (gd_s e).2
      replace e := cl_s e; obtain ⟨_, _, e⟩ := e
      replace e := (gd_s e).2
      replace e := cl_s e; obtain ⟨_, _, e⟩ := e
      replace e := cl_s e; obtain ⟨_, _, e⟩ := e
      replace e := (gd_s e).2
      replace e := br_s e; rcases e with ⟨_, e⟩ | ⟨_, e⟩
      · rw [← Option.some.inj e]; exact ⟨fun _ => rfl, fun _ _ => rfl⟩
      replace e := br_s e; rcases e with ⟨_, e⟩ | ⟨_, e⟩
      · exact put e
      replace e := cl_s e; obtain ⟨_, _, e⟩ := e
      replace e := (gd_s e).2
      replace e := br_s e; rcases e with ⟨_, e⟩ | ⟨_, e⟩
      · replace e := br_s e; rcases e with ⟨_, e⟩ | ⟨_, e⟩
        · exact put e
        · rw [← Option.some.inj e]; exact ⟨fun _ => rfl, fun _ _ => rfl⟩
      · exact put e
  unfold sX15_layState at e
  simp only [nm] at e
  replace e := cl_s e; obtain ⟨ra, fa, e⟩ := e
  have := r_eq l1 fa; subst this
  replace e := cl_s e; obtain ⟨h2, f2, e⟩ := e
  obtain ⟨p1, p2⟩ := clear_b T rg f2
  obtain ⟨pR, _, _⟩ := clear_q T rg eM f2
  replace e := cl_s e; obtain ⟨rc, fc, e⟩ := e
  rw [pR] at fc
  have := r_eq l1 fc; subst this
  obtain ⟨u1, u2⟩ := lp F (h := wI h2 rc 1 (x2 &&& (1 : Int32))) (by show hR h2 x0 60 = some rc; rw [pR]; exact l1) (by show hR h2 rc 0 = some M; rw [pR]; exact eM) e
  refine ⟨?_, ?_, ?_⟩
  · rw [u1, r_I, if_neg (fun w => absurd w.2 (by decide))]; exact p1
  · rw [u2]; exact p2
  · rw [u1, r_I, if_pos ⟨rfl, rfl⟩]
end
end
section
/-! a state is begun -/
abbrev XSL : List (Nat × Nat) := [(66, 999), (67, 999), (68, 999), (69, 999), (70, 999), (71, 999), (72, 999), (86, 999), (87, 999), (88, 999), (89, 999), (105, 999), (16, 23), (16, 24), (16, 29), (14, 0)]
abbrev EBL : List (Nat × Nat) := [(102, 999), (62, 999), (63, 999), (64, 999), (65, 999), (13, 1), (13, 2), (13, 3), (13, 7), (66, 999), (67, 999), (68, 999), (69, 999), (70, 999), (71, 999), (72, 999), (86, 999), (87, 999), (88, 999), (89, 999), (105, 999), (16, 23), (16, 24), (16, 29), (14, 0)]
abbrev bL8 : List (Nat × Nat) := [(62, 999), (63, 999), (64, 999), (65, 999), (13, 1), (13, 2), (13, 3), (13, 7)]
abbrev bS7 : List (Nat × Nat) := [(62, 999), (64, 999), (65, 999), (13, 1), (13, 2), (13, 3), (13, 7)]
abbrev lL8 : List (Nat × Nat) := [(66, 999), (67, 999), (68, 999), (69, 999), (70, 999), (71, 999), (72, 999), (14, 0)]
abbrev bgA : List (Nat × Nat) := [(102, 999), (86, 999), (16, 23), (16, 24), (16, 29), (87, 999), (88, 999), (89, 999), (105, 999), (103, 999)]
theorem xsl_x {k i : Nat} (q : mS XSL k i = true) : XS k i = true := by
  obtain ⟨p, hp, q⟩ := List.any_eq_true.mp q
  rw [Bool.and_eq_true] at q
  have e1 : p.1 = k := by simpa using q.1
  have e2 : p.2 = 999 ∨ p.2 = i := by simpa using q.2
  simp only [List.mem_cons, List.not_mem_nil, or_false] at hp
  rcases hp with w | w | w | w | w | w | w | w | w | w | w | w | w | w | w | w <;> subst w <;> subst e1 <;> first | rfl | (rcases e2 with w | w <;> first | exact absurd w (by decide) | (subst w; rfl))
section
variable {ρ : Nat → Nat} {c : Cm} {h0 h o : Hp} {x0 rm re rb rk R F : Nat} {x1 x2 : Int32} {a : Int}
theorem fq_kf (K : Kf ρ XSL h0 h) : Fq ρ h0 h := fun a i n x => K a i n (by
  cases q : mS XSL (ρ a) i with
  | false => rfl
  | true => rw [xsl_x q] at x; exact x)
theorem mkg_of (e13 : hI o x0 13 = hI h x0 13) (e49 : hI o x0 49 = hI h x0 49) (km : ∀ i, hI o rm i = hI h rm i) (kb : ∀ i, hI o rb i = hI h rb i) (ke : ∀ i, hI o re i = hI h re i) (kR : hI o R 10 = hI h R 10) (kk : ∀ i, hJ o rk i = hJ h rk i) (P : MkG x0 rm rb re rk R h) : MkG x0 rm rb re rk R o := by
  intro set q j t l1 p1 w1 h1 t64 bt
  unfold mkx owS at bt
  unfold Gd
  rw [e49] at l1
  rw [e13, km] at w1
  rw [km] at h1
  simp only [km, kb, ke, kk] at bt
  rw [e13, kR, km]
  simp only [ke]
  exact P set q j t l1 p1 w1 h1 t64 bt
theorem mkg_k {E : List (Nat × Nat)} (K : Kf ρ E h o) (r0 : ρ x0 = 16) (qm : ρ rm = 99) (qb : ρ rb = 104) (qe : ρ re = 100) (qk : ρ rk = 103) (qR : ρ R = 15) (y1 : mS E 16 13 = false) (y2 : mS E 16 49 = false) (y3 : ∀ i, mS E 99 i = false) (y4 : ∀ i, mS E 104 i = false) (y5 : ∀ i, mS E 100 i = false) (y6 : ∀ i, mS E 103 i = false) (y7 : mS E 15 10 = false) (P : MkG x0 rm rb re rk R h) : MkG x0 rm rb re rk R o :=
  mkg_of (kfI 13 K r0 (by decide) y1) (kfI 49 K r0 (by decide) y2) (fun i => kfI i K qm (by decide) (y3 i)) (fun i => kfI i K qb (by decide) (y4 i)) (fun i => kfI i K qe (by decide) (y5 i)) (kfI 10 K qR (by decide) y7) (fun i => kfJ i K qk (by decide) (y6 i)) P
theorem mvg_of {sq : Int} {f t : Int32} (km : ∀ i, hI o rm i = hI h rm i) (ke : ∀ i, hI o re i = hI h re i) (kR : hI o R 10 = hI h R 10) (G : MvG h rm re R sq x1 x2 f t) : MvG o rm re R sq x1 x2 f t := by
  unfold MvG Gd owS at *
  rw [kR, km]
  simp only [ke]
  exact G
/-- where a state's moves lead -/
theorem st_mvg {g M Ro S Fa Ct Fl Ri A B Fm St : Nat} {b7 : Hp} (T : TH ρ c b7) (L : LkS ρ x0 g S Fa Ct M R Fl Ri b7) (Z : LkT ρ x0 R A B Fm St b7) (e22 : hR b7 x0 22 = some Ro) (rRo : ρ Ro = 86) (ee : hR b7 x0 47 = some re) (i1 : Rg 0 4095 x1) (rz : hJ b7 g 2 = 0) (pz : hI b7 g 3 = 0) (sd : hI b7 g 1 = x2 &&& (1 : Int32)) (pos : ∀ i, i < (hI b7 rm x1.toNatClampNeg).toNatClampNeg → 1 ≤ (hI b7 re (5 * x1.toNatClampNeg + i)).toInt)
    (SD : LSD M re (5 * x1.toNatClampNeg) (x2.toInt / 2) (hI b7 x0 13).toInt (hI b7 rm x1.toNatClampNeg).toNatClampNeg b7) (SC : LSC M re (5 * x1.toNatClampNeg) (x2.toInt / 2) (hI b7 x0 13).toInt (hI b7 rm x1.toNatClampNeg).toNatClampNeg b7) (SX : LSX (x2.toInt / 2) (hI b7 x0 13).toInt (hI b7 rm x1.toNatClampNeg).toNatClampNeg) (im : Rg 0 5 (hI b7 rm x1.toNatClampNeg)) {o10 : Int32 × Hp} (ew : sX15_wrongOf F b7 x0 g = some o10) (np : o10.1 ≤ 0)
    (s t : Int32) (s0 : 0 ≤ s.toInt) (sl : s.toInt < (hI b7 x0 13).toInt) (hs : 0 < (hI b7 M s.toNatClampNeg).toInt) (own : ((hI b7 M s.toNatClampNeg) - (1 : Int32)) &&& (1 : Int32) = hI b7 g 1) (t0 : 0 ≤ t.toInt) (tl : t.toInt < (hI b7 x0 13).toInt) (LQ : LdQ ρ F x0 g M b7 s t) : MvG b7 rm re R (hI b7 x0 13).toInt x1 x2 s t := by
  have r0 := L.1.1
  have rg := L.1.2.1
  have rM := L.1.2.2.2.2.2.1
  have rR := L.1.2.2.2.2.2.2.1
  have s64 := (thI T r0 (k := 16) (i := 13) (lo := 9) (hi := 64) rfl).2
  have s9 := (thI T r0 (k := 16) (i := 13) (lo := 9) (hi := 64) rfl).1
  have cs := clamp_i s0
  have ct := clamp_i t0
  have cm := clamp_i im.1
  have man : ∀ j : Nat, (j : Int) < (hI b7 rm x1.toNatClampNeg).toInt → ∀ u : Int32, 0 ≤ u.toInt → u.toInt = dg (x2.toInt / 2) (hI b7 x0 13).toInt j → hI b7 M u.toNatClampNeg = hI b7 re (5 * x1.toNatClampNeg + j) := by
    intro j hj u u0 eu
    have := SC j (by omega)
    unfold dg at eu
    rw [← eu] at this
    have cu := clamp_i u0
    have e2 : u.toInt.toNat = u.toNatClampNeg := by omega
    rw [e2] at this
    exact this
  refine ⟨⟨t0, by omega⟩, ?_, ?_⟩
  · obtain ⟨j, j1, j2, j3⟩ := SD s.toNatClampNeg (by omega) hs
    exact ⟨j, by omega, by rw [← cs, j2]; rfl⟩
  · intro j hj es
    have mj := man j hj s s0 es
    refine ⟨?_, by omega, ?_, ?_⟩
    · unfold owS
      rw [← mj, own, sd]
    · intro i i' hi hi' ne
      by_cases lt : i' < i
      · exact fun w => SX i i' hi lt w.symm
      · exact fun w => SX i' i hi' (by omega) w
    · intro i hi ni et roy
      have mi := man i (by omega) t t0 (by rw [← ct]; exact et.symm)
      have tp : 0 < (hI b7 M t.toNatClampNeg).toInt := by rw [mi]; have := pos i hi; omega
      obtain ⟨q1, q2⟩ := LQ tp
      have sr1 := side_r (x := hI b7 M t.toNatClampNeg - (1 : Int32))
      have sr2 := side_r (x := hI b7 M s.toNatClampNeg - (1 : Int32))
      have neq : ¬ ((hI b7 M t.toNatClampNeg - (1 : Int32)) &&& (1 : Int32)).toInt = ((hI b7 M s.toNatClampNeg - (1 : Int32)) &&& (1 : Int32)).toInt := fun w => q1 (Int32.toInt_inj.mp w)
      have ir : IsR b7 M R t.toNatClampNeg (1 - (hI b7 g 1).toInt).toNat := by
        refine ⟨tp, by rw [mi]; exact roy, ?_⟩
        rw [own] at neq sr2
        have := sr1.1; have := sr1.2; have := sr2.1; have := sr2.2
        omega
      obtain ⟨gq, o3, fq, e3, z3⟩ := wrong_q L e22 rRo rz (by rw [pz]; decide) (thI T rg (k := 13) (i := 1) (lo := 0) (hi := 1) rfl) (fun s => thI T rM (k := 62) (lo := 0) (hi := 24) rfl) (thI T rR (k := 15) (i := 10) (lo := -1) (hi := 11) rfl) (by omega) s64 fq_r ew np t.toNatClampNeg (by omega) ir
      have tn : nI t.toNatClampNeg = t := by
        apply Int32.toInt_inj.mp
        rw [z_toInt (by omega)]
        omega
      rw [tn] at e3
      unfold sX15_isAttacked at e3
      exact isa_q L Z s0 sl hs own (fun w => q1 (by rw [w])) q2 F (x4 := 0) fq (by decide) (show (0 : Int) ≤ s.toInt from s0) e3 z3
end
end
