/-! stateOf and stateBehind by their equations -/
/-- but for the rows of men and places, all is as it was -/
def Jp (ro rp : Nat) (h g : Hp) : Prop := (∀ a i, hR g a i = hR h a i) ∧ (∀ a, hN g a = hN h a) ∧ (∀ a i, hJ g a i = hJ h a i) ∧ ∀ a i, ¬ a = ro → ¬ a = rp → hI g a i = hI h a i
section
variable {ρ : Nat → Nat} {c : Cm} {x0 rm re rb rk rs ro rp F : Nat} {h0 h g : Hp} {n sd : Int32}
theorem jp_r : Jp ro rp h h := ⟨fun _ _ => rfl, fun _ => rfl, fun _ _ => rfl, fun _ _ _ _ => rfl⟩
theorem jp_w {a j : Nat} {v : Int32} (A : Jp ro rp h g) (w : a = ro ∨ a = rp) : Jp ro rp h (wI g a j v) := ⟨A.1, A.2.1, A.2.2.1, fun b i n1 n2 => by
  rw [r_I, if_neg (fun z => w.elim (fun w => n1 (z.1.trans w)) (fun w => n2 (z.1.trans w)))]
  exact A.2.2.2 b i n1 n2⟩
theorem find_fr {a : Nat} {n : Int32} {o : Int32 × Hp} (e : sX15_findSet F g x0 a n = some o) : o.2 = g := by
  have pk : ∀ (f : Nat) {x2 x3 : Int32} {o : Int32 × Hp}, sX15_packed_4 F f g a n x2 x3 = some o → o.2 = g := by
    intro f
    induction f with
    | zero => intro x2 x3 o e; exact absurd e (by simp [sX15_packed_4])
    | succ f ih =>
      intro x2 x3 o e
      unfold sX15_packed_4 at e
      simp only [nm] at e
      replace e := br_s e; rcases e with ⟨_, e⟩ | ⟨_, e⟩
      · rw [← Option.some.inj e]
      · exact ih (gd_s e).2
  have sl : ∀ (f : Nat) {x1 x2 : Int32} {o : Int32 × Hp}, sX15_slotOf_14 F f g x0 x1 x2 = some o → o.2 = g := by
    intro f
    induction f with
    | zero => intro x1 x2 o e; exact absurd e (by simp [sX15_slotOf_14])
    | succ f ih =>
      intro x1 x2 o e
      unfold sX15_slotOf_14 sX15_slotOf_44 at e
      simp only [nm] at e
      replace e := cl_s e; obtain ⟨_, _, e⟩ := e
      replace e := (gd_s e).2
      replace e := br_s e; rcases e with ⟨_, e⟩ | ⟨_, e⟩
      · rw [← Option.some.inj e]
      replace e := cl_s e; obtain ⟨_, _, e⟩ := e
      replace e := (gd_s e).2
      replace e := br_s e; rcases e with ⟨_, e⟩ | ⟨_, e⟩
      · rw [← Option.some.inj e]
      · exact ih e
  unfold sX15_findSet at e
  replace e := cl_s e; obtain ⟨_, _, e⟩ := e
  replace e := cl_s e; obtain ⟨o2, e2, e⟩ := e
  unfold sX15_packed at e2
  rw [pk F e2] at e
  replace e := cl_s e; obtain ⟨o3, e3, e⟩ := e
  unfold sX15_slotOf at e3
  simp only [nm] at e3
  rw [sl F e3] at e
  rw [← Option.some.inj (gd_s e).2]
theorem sto_q (e57 : hR h0 x0 57 = some ro) (e58 : hR h0 x0 58 = some rp) (nop : ¬ ro = rp) (i1 : Rg 0 5 n) {o : Int32 × Hp} (e : sX15_stateOf F h0 x0 n sd = some o) : Jp ro rp h0 o.2 ∧ Sd (fun i => hI o.2 ro i) n.toNatClampNeg ∧ ∀ v, cn (fun i => hI o.2 ro i) v n.toNatClampNeg = cn (fun i => hI h0 ro i) v n.toNatClampNeg := by
  have z0 : (0 : Int32).toInt = 0 := rfl
  have nn := clamp_i i1.1
  have n5 := i1.2
  have b160 : ∀ (f : Nat) {g : Hp} {x3 x4 x5 : Int32}, sX15_stateOf_160 F f g x0 sd x3 x4 x5 = some o → o.2 = g := by
    intro f
    induction f with
    | zero => intro g x3 x4 x5 e; exact absurd e (by simp [sX15_stateOf_160])
    | succ f ih =>
      intro g x3 x4 x5 e
      unfold sX15_stateOf_160 at e
      simp only [nm] at e
      replace e := br_s e; rcases e with ⟨_, e⟩ | ⟨_, e⟩
      · replace e := cl_s e; obtain ⟨_, _, e⟩ := e
        rw [← Option.some.inj (gd_s e).2]
      · replace e := cl_s e; obtain ⟨_, _, e⟩ := e
        exact ih (gd_s e).2
  have rowp : ∀ {g : Hp} {j : Nat} {v : Int32}, (fun i => hI (wI g rp j v) ro i) = fun i => hI g ro i := fun {g j v} => by
    funext i
    rw [r_I, if_neg (fun w => nop w.1)]
  have b2 : ∀ (f : Nat) {g : Hp} {x2 : Int32}, Jp ro rp h0 g → 1 ≤ x2.toInt → x2.toInt ≤ 5 → Sd (fun i => hI g ro i) x2.toNatClampNeg → (∀ v, cn (fun i => hI g ro i) v n.toNatClampNeg = cn (fun i => hI h0 ro i) v n.toNatClampNeg) → sX15_stateOf_2 F f g x0 n sd x2 = some o → Jp ro rp h0 o.2 ∧ Sd (fun i => hI o.2 ro i) n.toNatClampNeg ∧ ∀ v, cn (fun i => hI o.2 ro i) v n.toNatClampNeg = cn (fun i => hI h0 ro i) v n.toNatClampNeg := by
    intro f
    induction f with
    | zero => intro g x2 _ _ _ _ _ e; exact absurd e (by simp [sX15_stateOf_2])
    | succ f ih =>
      intro g x2 jo a2 b2 S C e
      unfold sX15_stateOf_2 at e
      simp only [nm] at e
      have c2 := clamp_i (v := x2) (by omega)
      replace e := br_s e; rcases e with ⟨cc, e⟩ | ⟨cc, e⟩
      · have cc := le_i cc
        have S2 : Sd (fun i => hI g ro i) n.toNatClampNeg := fun i j l1 l2 => S i j l1 (by omega)
        replace e := cl_s e; obtain ⟨r2, p, e⟩ := e
        replace e := cl_s e; obtain ⟨o3, e3, e⟩ := e
        have h3 : o3.2 = g := find_fr e3
        rw [h3] at e
        have og : o.2 = g := by
          replace e := br_s e; rcases e with ⟨_, e⟩ | ⟨_, e⟩
          · rw [← Option.some.inj e]
          · exact b160 F e
        rw [og]
        exact ⟨jo, S2, C⟩
      · have cc := nle_i cc
        replace e := cl_s e; obtain ⟨r5, p, e⟩ := e
        rw [jo.1] at p
        have := r_eq e57 p; subst this
        replace e := (gd_s e).2
        replace e := cl_s e; obtain ⟨r9, p, e⟩ := e
        rw [jo.1] at p
        have := r_eq e58 p; subst this
        replace e := (gd_s e).2
        generalize hv : hI g r5 x2.toNatClampNeg = v at e
        generalize hI g r9 x2.toNatClampNeg = s at e
        have inn : ∀ (ff : Nat) {g : Hp} {x4 : Int32}, Jp r5 r9 h0 g → 0 ≤ x4.toInt → x4.toInt ≤ x2.toInt → In (fun i => hI g r5 i) v x2.toNatClampNeg x4.toNatClampNeg → (∀ w, cn (up (fun i => hI g r5 i) x4.toNatClampNeg v) w n.toNatClampNeg = cn (fun i => hI h0 r5 i) w n.toNatClampNeg) → sX15_stateOf_26 F (sX15_stateOf_2 F f) ff g x0 n sd x2 v s x4 = some o → Jp r5 r9 h0 o.2 ∧ Sd (fun i => hI o.2 r5 i) n.toNatClampNeg ∧ ∀ v, cn (fun i => hI o.2 r5 i) v n.toNatClampNeg = cn (fun i => hI h0 r5 i) v n.toNatClampNeg := by
          intro ff
          induction ff with
          | zero => intro g x4 _ _ _ _ _ eC; exact absurd eC (by simp [sX15_stateOf_26])
          | succ ff ih2 =>
            intro g x4 jo a4 b4 I C eC
            have c4 := clamp_i a4
            have put : (x4.toNatClampNeg = 0 ∨ (hI g r5 (x4.toNatClampNeg - 1)).toInt ≤ v.toInt) → sX15_stateOf_111 F (sX15_stateOf_2 F f) g x0 n sd x2 v s x4 = some o → Jp r5 r9 h0 o.2 ∧ Sd (fun i => hI o.2 r5 i) n.toNatClampNeg ∧ ∀ v, cn (fun i => hI o.2 r5 i) v n.toNatClampNeg = cn (fun i => hI h0 r5 i) v n.toNatClampNeg := by
              intro z eD
              unfold sX15_stateOf_111 at eD
              simp only [nm] at eD
              replace eD := cl_s eD; obtain ⟨r1, p, eD⟩ := eD
              rw [jo.1] at p
              have := r_eq e57 p; subst this
              replace eD := (gd_s eD).2
              replace eD := cl_s eD; obtain ⟨r4, p, eD⟩ := eD
              replace p : hR g x0 58 = some r4 := p
              rw [jo.1] at p
              have := r_eq e58 p; subst this
              replace eD := (gd_s eD).2
              have ny := nc_s (x := x2) (b := 5) ⟨by omega, b2⟩ (by decide)
              refine ih (jp_w (jp_w jo (Or.inl rfl)) (Or.inr rfl)) (by omega) (by omega) ?_ (fun w => ?_) eD
              · rw [rowp, row_up, ny.1]
                exact in_e (by omega) I z
              · rw [rowp, row_up]; exact C w
            have go : 0 < x4.toInt → v.toInt ≤ (hI g r5 (x4.toNatClampNeg - 1)).toInt → sX15_stateOf_73 F (sX15_stateOf_2 F f) (sX15_stateOf_26 F (sX15_stateOf_2 F f) ff) g x0 n sd x2 v s x4 = some o → Jp r5 r9 h0 o.2 ∧ Sd (fun i => hI o.2 r5 i) n.toNatClampNeg ∧ ∀ v, cn (fun i => hI o.2 r5 i) v n.toNatClampNeg = cn (fun i => hI h0 r5 i) v n.toNatClampNeg := by
              intro p4 cl eD
              unfold sX15_stateOf_73 at eD
              simp only [nm] at eD
              have i4 : Rg 1 5 x4 := ⟨by omega, by omega⟩
              have d1 : (x4 - (1 : Int32)).toInt = x4.toInt - 1 := rg_decs i4 (by decide)
              have d1n : (x4 - (1 : Int32)).toNatClampNeg = x4.toNatClampNeg - 1 := by
                have := clamp_i (v := x4 - (1 : Int32)) (by omega)
                omega
              replace eD := cl_s eD; obtain ⟨r2, p, eD⟩ := eD
              rw [jo.1] at p
              have := r_eq e57 p; subst this
              replace eD := cl_s eD; obtain ⟨r2', p, eD⟩ := eD
              rw [jo.1] at p
              have := r_eq e57 p; subst this
              replace eD := (gd_s eD).2
              replace eD := (gd_s eD).2
              replace eD := cl_s eD; obtain ⟨r6, p, eD⟩ := eD
              replace p : hR g x0 58 = some r6 := p
              rw [jo.1] at p
              have := r_eq e58 p; subst this
              replace eD := cl_s eD; obtain ⟨r7, p, eD⟩ := eD
              replace p : hR g x0 58 = some r7 := p
              rw [jo.1] at p
              have := r_eq e58 p; subst this
              replace eD := (gd_s eD).2
              replace eD := (gd_s eD).2
              rw [d1n] at eD
              have d2 : (x4 + (-1 : Int32)).toInt = x4.toInt - 1 := rg_dec i4 (by decide)
              generalize x4 + (-1 : Int32) = y at eD d2
              have cy := clamp_i (v := y) (by omega)
              have ek : x4.toNatClampNeg = y.toNatClampNeg + 1 := by omega
              have ek2 : x4.toNatClampNeg - 1 = y.toNatClampNeg := by omega
              rw [ek2] at eD cl
              rw [ek] at eD I C
              refine ih2 (jp_w (jp_w jo (Or.inl rfl)) (Or.inr rfl)) (by omega) (by omega) ?_ (fun w => ?_) eD
              · rw [rowp, row_up]
                exact in_s (by omega) I cl
              · rw [rowp, row_up]
                rw [cn_swap (f := fun i => hI g r2' i) (by omega)]
                exact C w
            unfold sX15_stateOf_26 at eC
            replace eC := br_s eC; rcases eC with ⟨cz, eC⟩ | ⟨cz, eC⟩
            · have cz := le_i cz
              exact put (Or.inl (by omega)) eC
            have cz := nle_i cz
            have i4 : Rg 1 5 x4 := ⟨by omega, by omega⟩
            have d1 : (x4 - (1 : Int32)).toInt = x4.toInt - 1 := rg_decs i4 (by decide)
            have d1n : (x4 - (1 : Int32)).toNatClampNeg = x4.toNatClampNeg - 1 := by
              have := clamp_i (v := x4 - (1 : Int32)) (by omega)
              omega
            replace eC := cl_s eC; obtain ⟨r2, p, eC⟩ := eC
            rw [jo.1] at p
            have := r_eq e57 p; subst this
            replace eC := (gd_s eC).2
            replace eC := br_s eC; rcases eC with ⟨c1, eC⟩ | ⟨c1, eC⟩
            · rw [d1n] at c1
              exact go cz (Int.le_of_lt (lt_i c1)) eC
            rw [d1n] at c1
            have c1 := nlt_i c1
            replace eC := cl_s eC; obtain ⟨r5', p, eC⟩ := eC
            rw [jo.1] at p
            have := r_eq e57 p; subst this
            replace eC := (gd_s eC).2
            replace eC := br_s eC; rcases eC with ⟨c2, eC⟩ | ⟨c2, eC⟩
            · rw [d1n] at c2
              replace eC := cl_s eC; obtain ⟨r8, p, eC⟩ := eC
              replace eC := (gd_s eC).2
              replace eC := br_s eC; rcases eC with ⟨_, eC⟩ | ⟨_, eC⟩
              · exact put (Or.inr c1) eC
              · exact go cz (by rw [c2]; exact Int.le_refl _) eC
            · exact put (Or.inr c1) eC
        refine inn F jo (by omega) (Int.le_refl _) (by rw [← hv]; exact in_0 S) (fun w => ?_) e
        rw [← C w]
        apply cn_eq
        intro i hi
        unfold up
        split
        · rename_i q; rw [q, hv]
        · rfl
  unfold sX15_stateOf at e
  exact b2 F jp_r (by decide) (by decide) (fun i j l1 l2 => absurd l2 (by show ¬ j < 1; omega)) (fun _ => rfl) e
end
