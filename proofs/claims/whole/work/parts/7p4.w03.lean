section
/-! the class's tree, whole -/
section
variable {n d last F D : Nat} {g h : Hp} {L : Nat → Nat → Int} {K G : Int} {P Q : Pz} {v : MvT} {o : Int32 × Hp} {x1 x2 x3 x4 : Int32}
/-- what the children of the moves ahead of i have counted at depth e -/
noncomputable def chN (L : Nat → Nat → Int) (K : Int) (P : Pz) (d e i : Nat) : Nat := smT (mvG L P (fun v => oZ (nxP L (decide (K = 3)) P v) (fun Q => rwN L (decide (K = 3)) (e - d) Q))) i
theorem chn_s {i e : Nat} (e1 : (lgL L P)[i]? = some v) : chN L K P d e (i + 1) = chN L K P d e i + oZ (nxP L (decide (K = 3)) P v) (fun Q => rwN L (decide (K = 3)) (e - d) Q) := by
  show chN L K P d e i + mvG L P _ i = _
  rw [mvg_s e1]
theorem chn_a {e : Nat} (l : d + 1 ≤ e) : chN L K P d e (lgL L P).length = rwN L (decide (K = 3)) (e - d + 1) P := (rwn_s (by omega)).symm
theorem smv_s {f : MvT → Nat} {i : Nat} (e1 : (lgL L P)[i]? = some v) : smT (mvG L P f) (i + 1) = smT (mvG L P f) i + f v := by
  show smT (mvG L P f) i + mvG L P f i = _
  rw [mvg_s e1]
/-- sums of branches keep small -/
theorem brv_le {r : Nat} {e : Bool} (hK : 0 ≤ K ∧ K ≤ 4) (h4 : K = 4 → 0 < r) : brV L K G (fun e Q => trV L K G r e Q) r e P v ≤ 1 ∨ (0 < r ∧ brV L K G (fun e Q => trV L K G r e Q) r e P v ≤ oZ (nxP L (decide (K = 3)) P v) (fun Q => rwN L (decide (K = 3)) r Q)) := by
  unfold brV
  by_cases k1 : K ≤ 1
  · rw [if_pos k1]
    left
    have q1 : ∀ b : Bool, (if b = true then 1 else 0) ≤ 1 := by decide
    have q2 : ∀ b : Bool, (if b = true then 0 else 1) ≤ 1 := by decide
    split
    · exact q1 _
    · exact q2 _
  · rw [if_neg k1]
    have tl : ∀ (e : Bool) (Q : Pz), 0 < r → trV L K G r e Q ≤ rwN L (decide (K = 3)) r Q := fun e Q hr => by
      obtain ⟨q, rfl⟩ : ∃ q, r = q + 1 := ⟨r - 1, by omega⟩
      exact trv_le (by omega) q e Q
    by_cases k2 : K = 2
    · rw [if_pos k2]
      by_cases r0 : r = 0
      · rw [if_pos r0]; left; split <;> omega
      · rw [if_neg r0]
        right
        refine ⟨by omega, ?_⟩
        have : nxP L (decide (K = 3)) P v = some (zAll L P v) := by
          unfold nxP
          rw [if_neg (by rw [decide_eq_true_eq]; omega)]
        rw [this]
        exact tl _ _ (by omega)
    · rw [if_neg k2]
      by_cases k3 : K = 3
      · rw [if_pos k3]
        by_cases r0 : r = 0
        · rw [if_pos r0]; left; split <;> omega
        · rw [if_neg r0]
          right
          refine ⟨by omega, ?_⟩
          rw [decide_eq_true k3]
          have t := tl
          rw [decide_eq_true k3] at t
          exact oz_le (fun Q => t _ _ (by omega))
      · rw [if_neg k3]
        right
        have r0 := h4 (by omega)
        refine ⟨r0, ?_⟩
        have : nxP L (decide (K = 3)) P v = some (zAll L P v) := by
          unfold nxP
          rw [if_neg (by rw [decide_eq_true_eq]; exact k3)]
        rw [this]
        exact tl _ _ r0
/-- the loop over the moves: what holds ahead of move i -/
def LpI (n : Nat) (L : Nat → Nat → Int) (K G : Int) (d last : Nat) (g h0 h : Hp) (P : Pz) (i : Nat) (s : Int32) : Prop := DyK n g h ∧ FrW (TrW n d) h0 h ∧ PrW n L K G last h ∧ CpA h (n + (93 + 6 * d)) (L 10 0) P ∧ ClM n h (n + (79 + d)) (lgL L P) ∧ (hI h (n + 88) d).toInt = (hI h0 (n + 88) d).toInt + ((lgL L P).length : Int) ∧ (hI h (n + 88) d).toInt ≤ 100000 ∧ hI h (n + 76) 9 = 0 ∧ (∀ e, d + 1 ≤ e → e < last → (hI h (n + 88) e).toInt = (hI h0 (n + 88) e).toInt + (chN L K P d e i : Nat) ∧ (hI h (n + 88) e).toInt ≤ 100000) ∧ s.toInt = (smT (mvG L P (brV L K G (fun e Q => trV L K G (last - (d + 1)) e Q) (last - (d + 1)) (evD d) P)) i : Nat) ∧ (hI h (n + 87) d).toInt = (enE L P).1 ∧ (d = 0 → (hI h (n + 76) 8).toInt = ((lgL L P).length : Int) ∧ (K ≤ 3 → ∀ j, j < i → (hI h (n + 89) j).toInt = (mvG L P (brV L K G (fun e Q => trV L K G (last - 1) e Q) (last - 1) true P) j : Nat) ∧ (K ≤ 1 → (hI h (n + 90) j).toInt = (mvG L P (rfV L K G (last - 1) P) j : Nat))))
/-- what is known of branch -/
def BrOK (n : Nat) (L : Nat → Nat → Int) (K G : Int) (rb : Hp → Nat → Int32 → Int32 → Option (Int32 × Hp)) : Prop := ∀ {g h : Hp} {P : Pz} {v : MvT} {d last : Nat} {x1 x2 : Int32} {o : Int32 × Hp}, BPre n L K G d last g h P v → (K = 4 → d + 1 < last) → x1.toInt = (d : Int) → rb h (n + 76) x1 x2 = some o → BPost n L K G d last x2.toNatClampNeg g h P v o
theorem lp_151 {h0 : Hp} {ra rb : Hp → Nat → Int32 → Int32 → Option (Int32 × Hp)} {rr rg : Hp → Nat → Int32 → Option (Int32 × Hp)} {rt : Hp → Nat → Int32 → Option (Int32 × Hp)} (OK : LwOk L) (hK : 0 ≤ K ∧ K ≤ 4) (HB : BrOK n L K G rb) (h4 : K = 4 → d + 1 < last) (Oz : PzOk L P) (dl : d < last ∧ last ≤ 8) (i1 : x1.toInt = (d : Int)) (i3 : x3.toInt = ((lgL L P).length : Int)) (rc0 : rcB n d last h0) : ∀ (f : Nat) {h : Hp} {x4 x5 : Int32} {i : Nat}, LpI n L K G d last g h0 h P i x4 → x5.toInt = (i : Int) → i ≤ (lgL L P).length → sX4_tree_151 F ra rr rg rb rt f h (n + 76) x1 (n + (79 + d)) x3 x4 x5 = some o → TPost n L K G d last g h0 P o := by
  have z1 : (1 : Int32).toInt = 1 := rfl
  have z0 : (0 : Int32).toInt = 0 := rfl
  have z3 : (3 : Int32).toInt = 3 := rfl
  have i2 : (x1 + (1 : Int32)).toInt = ((d + 1 : Nat) : Int) := by rw [ta (by omega), i1, z1]; omega
  have c1 := nc_i (x := x1) (by omega)
  have c1 : x1.toNatClampNeg = d := by omega
  have c2 := nc_i (x := x1 + (1 : Int32)) (by omega)
  have c2 : (x1 + (1 : Int32)).toNatClampNeg = d + 1 := by omega
  have d0 : x1 = 0 ↔ d = 0 := ⟨fun z => by rw [z, z0] at i1; omega, fun z => Int32.toInt_inj.mp (by rw [i1, z, z0]; rfl)⟩
  have ln := lgl_le OK.1 OK.2.1 Oz
  have r1 : last - d = last - (d + 1) + 1 := by omega
  intro f
  induction f with
  | zero => intro h x4 x5 i _ _ _ e; exact absurd e (by rw [sX4_tree_151]; exact fun z => nomatch z)
  | succ f ih =>
    intro h x4 x5 i I i5 il e
    have I0 := I
    obtain ⟨k, fr, w, A, M, rd, rd2, ov, rc, sm, en, r0⟩ := I
    have s6 := dk_610 k
    rw [sX4_tree_151] at e
    rcases br_s e with ⟨c, e⟩ | ⟨c, e⟩
    · -- all moves are done
      have c := le_i c
      have ii : i = (lgL L P).length := by omega
      unfold sX4_tree_268 at e
      rw [so_e e]
      refine ⟨fr, k, Or.inl ⟨ov, fun e' l1 l2 => ?_, ?_, en, fun dz => ?_⟩⟩
      · by_cases y : e' = d
        · rw [y, show d - d + 1 = 1 by omega, rwn_1]
          exact ⟨rd, rd2⟩
        · have := rc e' (by omega) l2
          rw [ii, chn_a (by omega)] at this
          exact this
      · rw [sm, r1, ii]
        show _ = ((if K = 4 ∧ last - (d + 1) = 0 then (lgL L P).length else smT (mvG L P (brV L K G (fun e Q => trV L K G (last - (d + 1)) e Q) (last - (d + 1)) (evD d) P)) (lgL L P).length : Nat) : Int)
        rw [if_neg (fun z => by have := h4 z.1; omega)]
      · obtain ⟨y1, y2⟩ := r0 dz
        exact ⟨y1, fun k3 j hj => y2 k3 j (by omega)⟩
    have c := nle_i c
    have li : i < (lgL L P).length := by omega
    replace e := bp_e ov e
    obtain ⟨v, ev, mv⟩ := M i li
    have Gv := lg_gd OK.1 OK.2.1 Oz ev
    have c5 := nc_i (x := x5) (by omega)
    have c5 : x5.toNatClampNeg = i := by omega
    replace e := ce_e (dk_e (a := 76) (f := 1) (b := 77) k (by decide +kernel)) e
    replace e := gg_e e
    replace e := ce_e (show hR h (n + 77) (x1 + (1 : Int32)).toNatClampNeg = some (n + (93 + 6 * (d + 1))) by rw [c2]; exact pth_e k (by omega)) e
    replace e := ce_e (dk_e (a := 76) (f := 1) (b := 77) k (by decide +kernel)) e
    replace e := gg_e e
    replace e := ce_e (show hR h (n + 77) x1.toNatClampNeg = some (n + (93 + 6 * d)) by rw [c1]; exact pth_e k (by omega)) e
    obtain ⟨o9, e9, e⟩ := cl_s e
    obtain ⟨own, Dw⟩ := k.1.1
    obtain ⟨f9, k9, A9⟩ := cpy_k k Dw.1 (bk_path Dw.1 (d := d) (by omega)) (bk_12 (bk_path Dw.1 (d := d + 1) (by omega)) (by omega)) (by omega) A (pth_f k (by omega)) e9
    have s9 := dk_610 k9
    replace e := ce_e (dk_e (a := 76) (f := 0) (b := 30) k9 (by decide +kernel)) e
    replace e := gg_e e
    obtain ⟨o12, e12, e⟩ := cl_s e
    rw [c5] at e12
    have w9 := prw_f k k9 f9 (fun j i hj c => by omega) w
    have m9 : hI o9 (n + (79 + d)) i = hI h (n + (79 + d)) i := (f9.2 _ _ (by omega) (fun c => by omega)).1
    obtain ⟨own9, Dw9⟩ := k9.1.1
    obtain ⟨f12, k12, A12⟩ := mk_k k9 Dw9.1 (bk_path Dw9.1 (d := d + 1) (by omega)) (by omega) OK.1 OK.2.1 Oz Gv (by rw [m9]; exact mv) w9.1 A9 e12
    have s12 := dk_610 k12
    have Oq := pz_ok OK.1 OK.2.1 Oz Gv
    -- so far only the position at d + 1 and the referee have changed
    have F12 : FrW (fun a i => CRf n a i ∨ (n + (93 + 6 * (d + 1)) ≤ a ∧ a < n + (93 + 6 * (d + 1)) + 6)) h o12 := fw_t (fw_s f9 (fun _ _ c => Or.inr c)) (fw_s f12 (fun a i c => c.elim Or.inr (fun c => Or.inl ⟨by omega, by omega⟩)))
    have w12 := prw_f k k12 F12 (fun j i hj c => by unfold CRf at c; omega) w
    -- behind the branch
    have t233 : ∀ {u : Hp}, DyK n g u → FrW (fun a i => CRf n a i ∨ (n + (93 + 6 * (d + 1)) ≤ a ∧ a < n + (93 + 6 * (d + 1)) + 6) ∨ (a = n + 87 ∧ i = d + 1)) h u → CpA u (n + (93 + 6 * (d + 1))) (L 10 0) (zAll L P v) → (d + 1 = last ∨ K = 3 → (hI u (n + 87) (d + 1)).toInt = (enE L (zAll L P v)).1) → sX4_tree_233 F ra rr rg rb rt (sX4_tree_151 F ra rr rg rb rt f) u (n + 76) x1 (n + (79 + d)) x3 x4 x5 = some o → TPost n L K G d last g h0 P o := fun {u} ku fu Au eu e => by
      have su := dk_610 ku
      have wu := prw_f k ku fu (fun j i hj c => by unfold CRf at c; omega) w
      have qu : ∀ a i, (a = n + 76 ∨ a = n + 88 ∨ a = n + 89 ∨ a = n + 90 ∨ a = n + (79 + d) ∨ (a = n + 87 ∧ i = d)) → hI u a i = hI h a i := fun a i c => (fu.2 a i (by omega) (fun z => by unfold CRf at z; omega)).1
      unfold sX4_tree_233 sX4_tree_255 at e
      obtain ⟨o1, e1, e⟩ := cl_s e
      have B : BPre n L K G d last g u P v := ⟨ku, wu, Au, Oq, dl, by rw [qu _ _ (by omega)]; exact ov, fun e' l1 l2 => by
        have := rc e' l1 l2
        rw [qu _ _ (by omega)]
        have r0' := (rc0 e' (by omega) l2).1
        exact ⟨by omega, this.2⟩, eu⟩
      obtain ⟨f1, k1, Y⟩ := HB (x2 := x5) B h4 i1 e1
      rw [c5] at f1 Y
      have s1 := dk_610 k1
      -- the rest: ways, sum, next move
      have nxt : ∀ {y : Hp}, DyK n g y → FrW (fun a i' => a = n + 89 ∧ d = 0 ∧ i' = i) o1.2 y → (d = 0 → hI y (n + 89) i = o1.1) → sX4_tree_151 F ra rr rg rb rt f y (n + 76) x1 (n + (79 + d)) x3 (x4 + o1.1) (x5 + (1 : Int32)) = some o → TPost n L K G d last g h0 P o := fun {y} ky fy vy e => by
        have sy := dk_610 ky
        have fa : FrW (fun a i' => CRf n a i' ∨ (n + 80 + d ≤ a ∧ a ≤ n + 86) ∨ (n + 99 + 6 * d ≤ a ∧ a < n + 147) ∨ (a = n + 76 ∧ i' = 9) ∨ ((a = n + 87 ∨ a = n + 88) ∧ d + 1 ≤ i') ∨ ((a = n + 89 ∨ a = n + 90) ∧ d = 0 ∧ i' = i)) h y := by
          refine fw_t (fw_s fu (fun a i' c => ?_)) (fw_t (fw_s f1 (fun a i' c => ?_)) (fw_s fy (fun a i' c => ?_)))
          · rcases c with c | c | c
            · exact Or.inl c
            · exact Or.inr (Or.inr (Or.inl (by omega)))
            · exact Or.inr (Or.inr (Or.inr (Or.inr (Or.inl (by omega)))))
          · unfold BrW at c
            rcases c with c | c | c | c | c | c
            · exact Or.inl c
            · exact Or.inr (Or.inl c)
            · exact Or.inr (Or.inr (Or.inl c))
            · exact Or.inr (Or.inr (Or.inr (Or.inl c)))
            · exact Or.inr (Or.inr (Or.inr (Or.inr (Or.inl c))))
            · exact Or.inr (Or.inr (Or.inr (Or.inr (Or.inr ⟨Or.inr c.1, c.2⟩))))
          · exact Or.inr (Or.inr (Or.inr (Or.inr (Or.inr ⟨Or.inl c.1, c.2⟩))))
        have fT : FrW (TrW n d) h0 y := fw_t fr (fw_s fa (fun a i' c => by
          unfold TrW
          rcases c with c | c | c | c | c | c
          · exact Or.inl c
          · exact Or.inr (Or.inl (by omega))
          · exact Or.inr (Or.inr (Or.inl c))
          · exact Or.inr (Or.inr (Or.inr (Or.inl ⟨c.1, Or.inl c.2⟩)))
          · exact Or.inr (Or.inr (Or.inr (Or.inr (Or.inl ⟨c.1, by omega⟩))))
          · exact Or.inr (Or.inr (Or.inr (Or.inr (Or.inr ⟨c.1, c.2.1⟩))))))
        have wy := prw_f k ky fa (fun j i hj c => by unfold CRf at c; omega) w
        have Ay := cpa_d (d := d) k ky (by omega) fa (fun j i' hj c => by unfold CRf at c; omega) A
        have qy : ∀ a i', (a = n + 88 ∨ a = n + 76) → hI y a i' = hI o1.2 a i' := fun a i' c => (fy.2 a i' (by omega) (fun z => by omega)).1
        have q1 : ∀ a i', (a = n + (79 + d) ∨ ((a = n + 87 ∨ a = n + 88) ∧ i' = d) ∨ (a = n + 76 ∧ i' = 8) ∨ ((a = n + 89 ∨ a = n + 90) ∧ ¬ i' = i)) → hI y a i' = hI h a i' := fun a i' c => (fa.2 a i' (by omega) (fun z => by unfold CRf at z; omega)).1
        have il2 : ((x5 + (1 : Int32))).toInt = ((i + 1 : Nat) : Int) := by rw [ta (by omega), i5, z1]; omega
        rcases Y with ⟨y1, y2, y3, y4⟩ | ⟨y1, e', l1, l2, y2⟩
        · -- goes on
          have rc' : ∀ e', d + 1 ≤ e' → e' < last → (hI y (n + 88) e').toInt = (hI h0 (n + 88) e').toInt + (chN L K P d e' (i + 1) : Nat) ∧ (hI y (n + 88) e').toInt ≤ 100000 := fun e' l1 l2 => by
            have a1 := y2 e' l1 l2
            have a2 := rc e' l1 l2
            rw [qu (n + 88) e' (by omega)] at a1
            rw [qy _ _ (by omega), chn_s ev]
            exact ⟨by omega, a1.2⟩
          have sb : smT (mvG L P (brV L K G (fun e Q => trV L K G (last - (d + 1)) e Q) (last - (d + 1)) (evD d) P)) (i + 1) = smT (mvG L P (brV L K G (fun e Q => trV L K G (last - (d + 1)) e Q) (last - (d + 1)) (evD d) P)) i + brV L K G (fun e Q => trV L K G (last - (d + 1)) e Q) (last - (d + 1)) (evD d) P v := smv_s ev
          -- sums keep below 2 ^ 31
          have bb : ∀ j, smT (mvG L P (brV L K G (fun e Q => trV L K G (last - (d + 1)) e Q) (last - (d + 1)) (evD d) P)) j ≤ j + chN L K P d (last - 1) j := fun j => by
            induction j with
            | zero => exact Nat.zero_le _
            | succ j jh =>
              have m : mvG L P (brV L K G (fun e Q => trV L K G (last - (d + 1)) e Q) (last - (d + 1)) (evD d) P) j ≤ 1 + mvG L P (fun v => oZ (nxP L (decide (K = 3)) P v) (fun Q => rwN L (decide (K = 3)) (last - 1 - d) Q)) j := by
                unfold mvG
                cases (lgL L P)[j]? with
                | none => exact Nat.zero_le _
                | some v' =>
                  show brV L K G (fun e Q => trV L K G (last - (d + 1)) e Q) (last - (d + 1)) (evD d) P v' ≤ 1 + oZ (nxP L (decide (K = 3)) P v') (fun Q => rwN L (decide (K = 3)) (last - 1 - d) Q)
                  rw [show last - 1 - d = last - (d + 1) by omega]
                  rcases brv_le (v := v') (P := P) (G := G) (L := L) (r := last - (d + 1)) (e := evD d) hK (fun z => by have := h4 z; omega) with z | z
                  · omega
                  · omega
              show smT _ j + mvG L P _ j ≤ (j + 1) + (chN L K P d (last - 1) j + mvG L P _ j)
              omega
          have b100 : d + 1 < last → (chN L K P d (last - 1) (i + 1) : Int) ≤ 100000 := fun l => by
            have a1 := rc' (last - 1) (by omega) (by omega)
            have a2 := (rc0 (last - 1) (by omega) (by omega)).1
            omega
          have bs : (smT (mvG L P (brV L K G (fun e Q => trV L K G (last - (d + 1)) e Q) (last - (d + 1)) (evD d) P)) (i + 1) : Int) ≤ 200000 := by
            by_cases l : d + 1 < last
            · have a1 := bb (i + 1)
              have a2 := b100 l
              omega
            · have : ∀ j, smT (mvG L P (brV L K G (fun e Q => trV L K G (last - (d + 1)) e Q) (last - (d + 1)) (evD d) P)) j ≤ j := fun j => by
                induction j with
                | zero => exact Nat.le_refl _
                | succ j jh =>
                  have m : mvG L P (brV L K G (fun e Q => trV L K G (last - (d + 1)) e Q) (last - (d + 1)) (evD d) P) j ≤ 1 := by
                    unfold mvG
                    cases (lgL L P)[j]? with
                    | none => exact Nat.zero_le _
                    | some v' =>
                      rcases brv_le (v := v') (P := P) (G := G) (L := L) (r := last - (d + 1)) (e := evD d) hK (fun z => by have := h4 z; omega) with z | z
                      · exact z
                      · omega
                  exact Nat.add_le_add jh m
              have := this (i + 1)
              omega
          refine ih (i := i + 1) ⟨ky, fT, wy, Ay, fun j hj => ?_, ?_, ?_, ?_, rc', ?_, ?_, fun dz => ⟨?_, fun k3 j hj => ?_⟩⟩ il2 (by omega) e
          · obtain ⟨v', e1', m1⟩ := M j hj
            exact ⟨v', e1', by rw [q1 _ _ (by omega)]; exact m1⟩
          · rw [q1 _ _ (by omega)]; exact rd
          · rw [q1 _ _ (by omega)]; exact rd2
          · rw [qy _ _ (by omega)]; exact y1
          · rw [ta (by rw [sm, y3]; omega), sm, y3, sb]; omega
          · rw [q1 _ _ (by omega)]; exact en
          · rw [q1 _ _ (by omega)]; exact (r0 dz).1
          · by_cases ji : j = i
            · rw [ji]
              have e0 : evD d = true := by rw [dz]; decide
              have l0 : last - (d + 1) = last - 1 := by omega
              refine ⟨?_, fun k1' => ?_⟩
              · rw [vy dz, y3, mvg_s ev, e0, l0]
              · rw [(fy.2 (n + 90) i (by omega) (fun z => by omega)).1, y4 dz k1', mvg_s ev, l0]
            · have := (r0 dz).2 k3 j (by omega)
              rw [q1 _ _ (by omega), q1 _ _ (by omega)]
              exact this
        · -- too many
          cases f with
          | zero => exact absurd e (by rw [sX4_tree_151]; exact fun z => nomatch z)
          | succ f =>
            have fin : o = (x4 + o1.1, y) := by
              rw [sX4_tree_151] at e
              unfold sX4_tree_268 at e
              rcases br_s e with ⟨_, e⟩ | ⟨_, e⟩
              · exact so_e e
              · exact so_e (bn_e (by rw [qy _ _ (by omega), y1]; decide) e)
            rw [fin]
            refine ⟨fT, ky, Or.inr ⟨by rw [qy _ _ (by omega)]; exact y1, e', by omega, l2, ?_⟩⟩
            have a1 := (rc e' l1 l2).1
            rw [qu (n + 88) e' (by omega)] at y2
            have a2 := chn_s (K := K) (d := d) (e := e') ev
            have a3 : chN L K P d e' (i + 1) ≤ chN L K P d e' (lgL L P).length := smt_m (by omega)
            rw [chn_a l1] at a3
            omega
      rcases br_s e with ⟨c, e⟩ | ⟨c, e⟩
      · have dz := d0.mp c
        replace e := ce_e (dk_e (a := 76) (f := 10) (b := 89) k1 (by decide +kernel)) e
        replace e := gg_e e
        obtain ⟨y, wy, e⟩ := nm_s e
        rw [c5] at wy
        exact nxt (by rw [wy]; exact dk_wI k1) (by rw [wy]; exact fw_wI fw_0 ⟨rfl, dz, rfl⟩) (fun _ => by rw [wy, rI_s]) e
      · exact nxt k1 fw_0 (fun z => absurd (d0.mpr z) c) e
    -- how the position behind the move ends, where it is asked for
    have t216 : sX4_tree_216 F ra rr rg rb rt (sX4_tree_151 F ra rr rg rb rt f) o12 (n + 76) x1 (n + (79 + d)) x3 x4 x5 (n + (93 + 6 * (d + 1))) = some o → TPost n L K G d last g h0 P o := fun e => by
      unfold sX4_tree_216 at e
      replace e := ce_e (dk_e (a := 76) (f := 3) (b := 87) k12 (by decide +kernel)) e
      replace e := ce_e (dk_e (a := 76) (f := 0) (b := 30) k12 (by decide +kernel)) e
      obtain ⟨o3, e3, e⟩ := cl_s e
      obtain ⟨own12, Dw12⟩ := k12.1.1
      obtain ⟨f3, k3, v3⟩ := en_l k12 Dw12.1 (bk_path Dw12.1 (d := d + 1) (by omega)) (by omega) OK.1 OK.2.1 Oq w12.1 A12 e3
      have s3 := dk_610 k3
      replace e := gg_e e
      obtain ⟨h5, w5, e⟩ := nm_s e
      rw [c2] at w5
      have k5 : DyK n g h5 := by rw [w5]; exact dk_wI k3
      have f5 : FrW (fun a i => CRf n a i ∨ (n + (93 + 6 * (d + 1)) ≤ a ∧ a < n + (93 + 6 * (d + 1)) + 6) ∨ (a = n + 87 ∧ i = d + 1)) h h5 := by
        rw [w5]
        exact fw_wI (fw_t (fw_s F12 (fun _ _ c => c.elim Or.inl (fun c => Or.inr (Or.inl c)))) (fw_s f3 (fun _ _ c => Or.inl c))) (Or.inr (Or.inr ⟨rfl, rfl⟩))
      refine t233 k5 f5 ?_ (fun _ => by rw [w5, rI_s]; exact v3) e
      rw [w5]
      exact cpa_f A12 (pth_f (dk_wI k3) (by omega)) (fun j i hj => ⟨by
        rw [rI_a (by omega)]
        exact (f3.2 _ _ (by omega) (fun c => by unfold CRf at c; omega)).1, (f3.2 _ _ (by omega) (fun c => by unfold CRf at c; omega)).2⟩)
    rcases br_s e with ⟨c, e⟩ | ⟨c, e⟩
    · exact t216 e
    rcases br_s e with ⟨c', e⟩ | ⟨c', e⟩
    · exact t216 e
    · refine t233 k12 (fw_s F12 (fun _ _ c => c.elim Or.inl (fun c => Or.inr (Or.inl c)))) A12 (fun z => ?_) e
      rcases z with z | z
      · exact absurd (Int32.toInt_inj.mp (by rw [i2, w12.2.2.2, z])) c
      · exact absurd (Int32.toInt_inj.mp (by rw [w12.2.1, z, z3])) c'
end
end
section
/-! the class's tree: every depth; ROWS, PROBLEM of the class -/
section
variable {n d last F D : Nat} {g h : Hp} {L : Nat → Nat → Int} {K G : Int} {P Q : Pz} {o : Int32 × Hp} {x1 x2 x3 x4 : Int32}
theorem tr_step {ra rb : Hp → Nat → Int32 → Int32 → Option (Int32 × Hp)} {rr rg rt : Hp → Nat → Int32 → Option (Int32 × Hp)} (OK : LwOk L) (hK : 0 ≤ K ∧ K ≤ 4) (HB : BrOK n L K G rb) (Z : TPre n L K G d last g h P) (i1 : x1.toInt = (d : Int)) (e : oX4_tree F ra rr rg rb rt h (n + 76) x1 = some o) : TPost n L K G d last g h P o := by
  have z1 : (1 : Int32).toInt = 1 := rfl
  have z0 : (0 : Int32).toInt = 0 := rfl
  have z8 : (8 : Int32).toInt = 8 := rfl
  have z4 : (4 : Int32).toInt = 4 := rfl
  have zM : (100000 : Int32).toInt = 100000 := rfl
  obtain ⟨k, w, A, Oz, dl, ov, rc⟩ := Z
  have s6 := dk_610 k
  have i2 : (x1 + (1 : Int32)).toInt = ((d + 1 : Nat) : Int) := by rw [ta (by omega), i1, z1]; omega
  have c1 := nc_i (x := x1) (by omega)
  have c1 : x1.toNatClampNeg = d := by omega
  have d0 : x1 = 0 ↔ d = 0 := ⟨fun z => by rw [z, z0] at i1; omega, fun z => Int32.toInt_inj.mp (by rw [i1, z, z0]; rfl)⟩
  have ln := lgl_le OK.1 OK.2.1 Oz
  unfold oX4_tree at e
  replace e := bn_e (fun c => by have := lt_i c; omega) e
  replace e := bn_e (fun c => by have := le_i c; have := w.2.2.2; omega) e
  replace e := bp_e (show x1 < (8 : Int32) from by
    have : x1.toInt < (8 : Int32).toInt := by omega
    exact Int32.lt_iff_toInt_lt.mpr this) e
  replace e := ce_e (dk_e (a := 76) (f := 2) (b := 78) k (by decide +kernel)) e
  replace e := gg_e e
  replace e := ce_e (show hR h (n + 78) x1.toNatClampNeg = some (n + (79 + d)) by rw [c1]; exact lst_e k (by omega)) e
  replace e := ce_e (dk_e (a := 76) (f := 0) (b := 30) k (by decide +kernel)) e
  replace e := ce_e (dk_e (a := 76) (f := 1) (b := 77) k (by decide +kernel)) e
  replace e := gg_e e
  replace e := ce_e (show hR h (n + 77) x1.toNatClampNeg = some (n + (93 + 6 * d)) by rw [c1]; exact pth_e k (by omega)) e
  obtain ⟨o11, e11, e⟩ := cl_s e
  obtain ⟨own, Dw⟩ := k.1.1
  obtain ⟨f11, k11, M11, l11⟩ := col_l k Dw.1 (bk_path Dw.1 (d := d) (by omega)) (bk_lists Dw.1 (d := d) (by omega)) (by omega) OK.1 OK.2.1 Oz w.1 A (lst_n k (by omega)) e11
  have s11 := dk_610 k11
  -- behind firstMoves
  have t58 : ∀ {t : Int32}, (d = 0 → t = o11.1) → (¬ d = 0 → t = hI o11.2 (n + 76) 8) → sX4_tree_58 F ra rr rg rb rt o11.2 (n + 76) x1 (n + (79 + d)) o11.1 t (n + 76) = some o → TPost n L K G d last g h P o := fun {t} t0 t1 e => by
    unfold sX4_tree_58 at e
    obtain ⟨h1, w1, e⟩ := nm_s e
    have k1 : DyK n g h1 := by rw [w1]; exact dk_wI k11
    have s1 := dk_610 k1
    have fa : FrW (fun a i => CRf n a i ∨ a = n + (79 + d) ∨ (a = n + 76 ∧ i = 8 ∧ d = 0)) h h1 := by
      refine fw_t (fw_s f11 (fun _ _ c => c.elim Or.inl (fun c => Or.inr (Or.inl c)))) ?_
      rw [w1]
      by_cases y : d = 0
      · exact fw_wI fw_0 (Or.inr (Or.inr ⟨rfl, rfl, y⟩))
      · rw [t1 y]; exact fw_id
    have wb := prw_f k k1 fa (fun j i hj c => by unfold CRf at c; omega) w
    have Ab := cpa_d (d := d) k k1 (by omega) fa (fun j i hj c => by unfold CRf at c; omega) A
    have M1 : ClM n h1 (n + (79 + d)) (lgL L P) := fun i hi => by
      obtain ⟨v, e1, m⟩ := M11 i hi
      exact ⟨v, e1, by rw [w1, rI_a (by omega)]; exact m⟩
    replace e := ce_e (dk_e (a := 76) (f := 3) (b := 87) k1 (by decide +kernel)) e
    -- behind ends
    have t87 : ∀ {u : Hp} {y : Int32}, DyK n g u → FrW (CRf n) h1 u → y.toInt = (enE L P).1 → sX4_tree_87 F ra rr rg rb rt u (n + 76) x1 (n + (79 + d)) o11.1 y x1 (n + 87) = some o → TPost n L K G d last g h P o := fun {u y} ku fu yv e => by
      have su := dk_610 ku
      unfold sX4_tree_87 at e
      replace e := gg_e e
      obtain ⟨h2, w2, e⟩ := nm_s e
      rw [c1] at w2
      have k2 : DyK n g h2 := by rw [w2]; exact dk_wI ku
      replace e := ce_e (dk_e (a := 76) (f := 4) (b := 88) k2 (by decide +kernel)) e
      replace e := gg_e e
      replace e := gg_e e
      obtain ⟨h6, w6, e⟩ := nm_s e
      rw [c1] at w6
      have k6 : DyK n g h6 := by rw [w6]; exact dk_wI k2
      have s6' := dk_610 k6
      have r2 : hI h2 (n + 88) d = hI h (n + 88) d := by
        rw [w2, rI_a (by omega), (fu.2 _ _ (by omega) (fun c => by unfold CRf at c; omega)).1, (fa.2 _ _ (by omega) (fun c => by unfold CRf at c; omega)).1]
      have r6 : (hI h6 (n + 88) d).toInt = (hI h (n + 88) d).toInt + ((lgL L P).length : Int) := by
        have := rc d (by omega) dl.1
        rw [w6, rI_s, r2, ta (by rw [l11]; omega), l11]
      have o6 : hI h6 (n + 76) 9 = 0 := by
        rw [w6, rI_a (by omega), w2, rI_a (by omega), (fu.2 _ _ (by omega) (fun c => by unfold CRf at c; omega)).1, (fa.2 _ _ (by omega) (fun c => by unfold CRf at c; omega)).1]; exact ov
      have f6 : FrW (fun a i => CRf n a i ∨ a = n + (79 + d) ∨ (a = n + 76 ∧ i = 8 ∧ d = 0) ∨ ((a = n + 87 ∨ a = n + 88) ∧ i = d)) h h6 := by
        rw [w6, w2]
        exact fw_wI (fw_wI (fw_t (fw_s fa (fun _ _ c => by
          rcases c with c | c | c
          · exact Or.inl c
          · exact Or.inr (Or.inl c)
          · exact Or.inr (Or.inr (Or.inl c)))) (fw_s fu (fun _ _ c => Or.inl c))) (Or.inr (Or.inr (Or.inr ⟨Or.inl rfl, rfl⟩)))) (Or.inr (Or.inr (Or.inr ⟨Or.inr rfl, rfl⟩)))
      -- behind the flag
      have t122 : ∀ {t : Int32}, (t = 0 ∧ (hI h6 (n + 88) d).toInt ≤ 100000) ∨ (t = 1 ∧ 100000 < (hI h6 (n + 88) d).toInt) → sX4_tree_122 F ra rr rg rb rt h6 (n + 76) x1 (n + (79 + d)) o11.1 t (n + 76) = some o → TPost n L K G d last g h P o := fun {t} tt e => by
        unfold sX4_tree_122 sX4_tree_145 at e
        replace e := gg_e e
        obtain ⟨h7, w7, e⟩ := nm_s e
        have k7 : DyK n g h7 := by rw [w7]; exact dk_wI k6
        have s7 := dk_610 k7
        have f7 : FrW (fun a i => CRf n a i ∨ a = n + (79 + d) ∨ (a = n + 76 ∧ (i = 9 ∨ (i = 8 ∧ d = 0))) ∨ ((a = n + 87 ∨ a = n + 88) ∧ i = d)) h h7 := by
          rw [w7]
          exact fw_wI (fw_s f6 (fun _ _ c => by
            rcases c with c | c | c | c
            · exact Or.inl c
            · exact Or.inr (Or.inl c)
            · exact Or.inr (Or.inr (Or.inl ⟨c.1, Or.inr c.2⟩))
            · exact Or.inr (Or.inr (Or.inr c)))) (Or.inr (Or.inr (Or.inl ⟨rfl, Or.inl rfl⟩)))
        have fT : FrW (TrW n d) h h7 := fw_s f7 (fun a i c => by
          unfold TrW
          rcases c with c | c | c | c
          · exact Or.inl c
          · exact Or.inr (Or.inl (by omega))
          · exact Or.inr (Or.inr (Or.inr (Or.inl c)))
          · exact Or.inr (Or.inr (Or.inr (Or.inr (Or.inl ⟨c.1, by omega⟩)))))
        have wd := prw_f k k7 f7 (fun j i hj c => by unfold CRf at c; omega) w
        have Ad := cpa_d (d := d) k k7 (by omega) f7 (fun j i hj c => by unfold CRf at c; omega) A
        have M7 : ClM n h7 (n + (79 + d)) (lgL L P) := fun i hi => by
          obtain ⟨v, e1, m⟩ := M1 i hi
          refine ⟨v, e1, ?_⟩
          rw [w7, rI_a (by omega), w6, rI_a (by omega), w2, rI_a (by omega), (fu.2 _ _ (by omega) (fun c => by unfold CRf at c; omega)).1]
          exact m
        have e87 : (hI h7 (n + 87) d).toInt = (enE L P).1 := by rw [w7, rI_a (by omega), w6, rI_a (by omega), w2, rI_s]; exact yv
        have e88 : hI h7 (n + 88) d = hI h6 (n + 88) d := by rw [w7, rI_a (by omega)]
        have e8 : d = 0 → (hI h7 (n + 76) 8).toInt = ((lgL L P).length : Int) := fun z => by
          rw [w7, rI_o (by decide), w6, rI_a (by omega), w2, rI_a (by omega), (fu.2 _ _ (by omega) (fun c => by unfold CRf at c; omega)).1, w1, rI_s, t0 z]; exact l11
        have e9 : hI h7 (n + 76) 9 = t := by rw [w7, rI_s]
        have rc7 : ∀ e', d + 1 ≤ e' → e' < last → hI h7 (n + 88) e' = hI h (n + 88) e' := fun e' l1 _ => (f7.2 _ _ (by omega) (fun c => by unfold CRf at c; omega)).1
        rcases tt with ⟨tz, tl⟩ | ⟨tz, tl⟩
        · -- in bounds
          have loop : ¬ (K = 4 ∧ d + 1 = last) → sX4_tree_151 F ra rr rg rb rt F h7 (n + 76) x1 (n + (79 + d)) o11.1 0 0 = some o → TPost n L K G d last g h P o := fun z e => lp_151 (i := 0) OK hK HB (fun k4 => by omega) Oz dl i1 l11 rc F ⟨k7, fT, wd, Ad, M7, by rw [e88]; exact r6, by rw [e88]; exact tl, by rw [e9]; exact tz, fun e' l1 l2 => ⟨by
            rw [rc7 e' l1 l2]
            show _ = _ + ((0 : Nat) : Int)
            omega, by rw [rc7 e' l1 l2]; exact (rc e' (by omega) l2).2⟩, rfl, e87, fun dz => ⟨e8 dz, fun _ j hj => absurd hj (Nat.not_lt_zero _)⟩⟩ rfl (Nat.zero_le _) e
          rcases br_s e with ⟨c4, e⟩ | ⟨c4, e⟩
          · have k4 : K = 4 := by rw [← wd.2.1, c4]; rfl
            rcases br_s e with ⟨c7, e⟩ | ⟨c7, e⟩
            · have dl2 : d + 1 = last := by
                have : (x1 + (1 : Int32)).toInt = (hI h7 (n + 76) 7).toInt := by rw [c7]
                rw [i2, wd.2.2.2] at this
                omega
              rw [so_e e]
              refine ⟨fT, k7, Or.inl ⟨by rw [e9]; exact tz, fun e' l1 l2 => ?_, ?_, e87, fun dz => ⟨e8 dz, fun z => by omega⟩⟩⟩
              · have y : e' = d := by omega
                rw [y, show d - d + 1 = 1 by omega, rwn_1, e88]
                exact ⟨r6, tl⟩
              · rw [l11, show last - d = 0 + 1 by omega]
                show _ = ((if K = 4 ∧ 0 = 0 then (lgL L P).length else _ : Nat) : Int)
                rw [if_pos ⟨k4, rfl⟩]
            · exact loop (fun z => c7 (Int32.toInt_inj.mp (by rw [i2, wd.2.2.2, z.2]))) e
          · exact loop (fun z => c4 (Int32.toInt_inj.mp (by rw [wd.2.1, z.1, z4]))) e
        · -- too many already
          have one : ∃ x, o = (x, h7) := by
            have lp : sX4_tree_151 F ra rr rg rb rt F h7 (n + 76) x1 (n + (79 + d)) o11.1 0 0 = some o → ∃ x, o = (x, h7) := fun e => by
              cases F with
              | zero => exact absurd e (by rw [sX4_tree_151]; exact fun z => nomatch z)
              | succ F =>
                rw [sX4_tree_151] at e
                unfold sX4_tree_268 at e
                rcases br_s e with ⟨_, e⟩ | ⟨_, e⟩
                · exact ⟨_, so_e e⟩
                · exact ⟨_, so_e (bn_e (by rw [e9, tz]; decide) e)⟩
            rcases br_s e with ⟨_, e⟩ | ⟨_, e⟩
            · rcases br_s e with ⟨_, e⟩ | ⟨_, e⟩
              · exact ⟨_, so_e e⟩
              · exact lp e
            · exact lp e
          obtain ⟨x, eo⟩ := one
          rw [eo]
          refine ⟨fT, k7, Or.inr ⟨by rw [e9]; exact tz, d, Nat.le_refl _, dl.1, ?_⟩⟩
          rw [show d - d + 1 = 1 by omega, rwn_1]
          omega
      replace e := bp_e o6 e
      replace e := ce_e (dk_e (a := 76) (f := 4) (b := 88) k6 (by decide +kernel)) e
      replace e := gg_e e
      rcases br_s e with ⟨c, e⟩ | ⟨c, e⟩ <;> rw [c1] at c
      · exact t122 (Or.inl ⟨rfl, by have := le_i c; omega⟩) e
      · unfold sX4_tree_117 at e
        exact t122 (Or.inr ⟨rfl, by have := nle_i c; omega⟩) e
    rcases br_s e with ⟨c, e⟩ | ⟨c, e⟩
    · have c := le_i c
      replace e := ce_e (dk_e (a := 76) (f := 0) (b := 30) k1 (by decide +kernel)) e
      replace e := ce_e (dk_e (a := 76) (f := 1) (b := 77) k1 (by decide +kernel)) e
      replace e := gg_e e
      replace e := ce_e (show hR h1 (n + 77) x1.toNatClampNeg = some (n + (93 + 6 * d)) by rw [c1]; exact pth_e k1 (by omega)) e
      obtain ⟨o8, e8, e⟩ := cl_s e
      obtain ⟨own1, Dw1⟩ := k1.1.1
      obtain ⟨f8, k8, v8⟩ := en_l k1 Dw1.1 (bk_path Dw1.1 (d := d) (by omega)) (by omega) OK.1 OK.2.1 Oz wb.1 Ab e8
      exact t87 k8 f8 v8 e
    · have c := nle_i c
      exact t87 k1 fw_0 (by
        rw [ene_0 (fun z => by rw [z] at l11; rw [l11] at c; exact absurd c (by decide))]; rfl) e
  rcases br_s e with ⟨c, e⟩ | ⟨c, e⟩
  · exact t58 (fun _ => rfl) (fun z => absurd (d0.mp c) z) e
  · exact t58 (fun z => absurd (d0.mpr z) c) (fun _ => rfl) e
/-- no recursion is left: the GOAL alone -/
theorem bra_1 (OK : LwOk L) (gG : 0 ≤ G ∧ G ≤ 2) : BrOK n L K G (qX4_attempt F 1).2.2.2.1 := by
  intro g h P v d last x1 x2 o B h4 i1 e
  have z1 : (1 : Int32).toInt = 1 := rfl
  obtain ⟨b1, b2, b3, b4, b5, b6, b7, b8⟩ := B
  have i2 : (x1 + (1 : Int32)).toInt = ((d + 1 : Nat) : Int) := by rw [ta (by omega), i1, z1]; omega
  have hl : (hI h (n + 76) 7).toInt = (last : Int) := b2.2.2.2
  have e : oX4_branch F (fun _ _ _ _ => none) (fun _ _ _ => none) (fun _ _ _ => none) (fun _ _ _ _ => none) (fun _ _ _ => none) h (n + 76) x1 x2 = some o := e
  unfold oX4_branch sX4_branch_56 sX4_branch_92 sX4_branch_126 at e
  have no : ∀ {α : Type} {q : α → Option (Int32 × Hp)}, cl (none : Option α) q = some o → BPost n L K G d last x2.toNatClampNeg g h P v o := fun e => by
    obtain ⟨_, y, _⟩ := cl_s e
    exact nomatch y
  have kk : ∀ {y : Int32}, hI h (n + 76) 5 = y → K = y.toInt := fun {y} c => by rw [← b2.2.1, c]
  have goal : ∀ {w : Int32 × Hp} (k23 : K = 2 ∨ K = 3) (dl : d + 1 = last), sX4_isGoal h (n + 76) (x1 + (1 : Int32)) = some w → br (w.1 = 0) (some ((0 : Int32), w.2)) (some ((1 : Int32), w.2)) = some o → BPost n L K G d last x2.toNatClampNeg g h P v o := fun {w} k23 dl ew e => by
    obtain ⟨hw, y⟩ := ig_c OK gG b1 b2 b3 b4 (by omega) i2 (b8 (Or.inl dl)) ew
    have r0 : last - (d + 1) = 0 := by omega
    have val : ∀ {T' : Bool → Pz → Nat}, brV L K G T' (last - (d + 1)) (evD d) P v = if glB L G (zAll L P v) = true then 1 else 0 := fun {T'} => by
      unfold brV
      rw [if_neg (by omega)]
      rcases k23 with z | z
      · rw [if_pos z, if_pos r0]
      · rw [if_neg (by omega), if_pos z, if_pos r0]
    rcases y with ⟨y1, y2⟩ | ⟨y1, y2⟩
    · rw [so_e (bp_e y1 e), hw]
      exact ⟨fw_0, b1, Or.inl ⟨b6, fun e' l1 l2 => by omega, by rw [val, y2]; rfl, fun _ z => by omega⟩⟩
    · rw [so_e (bn_e y1 e), hw]
      exact ⟨fw_0, b1, Or.inl ⟨b6, fun e' l1 l2 => by omega, by rw [val, y2]; rfl, fun _ z => by omega⟩⟩
  rcases br_s e with ⟨c, e⟩ | ⟨c0, e⟩
  · rcases br_s e with ⟨_, e⟩ | ⟨_, e⟩ <;> exact no e
  rcases br_s e with ⟨c, e⟩ | ⟨c1, e⟩
  · rcases br_s e with ⟨_, e⟩ | ⟨_, e⟩ <;> exact no e
  rcases br_s e with ⟨c, e⟩ | ⟨c2, e⟩
  · rcases br_s e with ⟨c', e⟩ | ⟨c', e⟩
    · have c' := le_i c'
      obtain ⟨w, ew, e⟩ := cl_s e
      exact goal (Or.inl (kk c)) (by omega) ew e
    · exact no e
  rcases br_s e with ⟨c, e⟩ | ⟨c3, e⟩
  · rcases br_s e with ⟨c', e⟩ | ⟨c', e⟩
    · have c' := le_i c'
      obtain ⟨w, ew, e⟩ := cl_s e
      exact goal (Or.inr (kk c)) (by omega) ew e
    · exact no e
  · exact no e
theorem tree_all (OK : LwOk L) (gG : 0 ≤ G ∧ G ≤ 2) (hK : 0 ≤ K ∧ K ≤ 4) : ∀ D, TreeOK n F L K G D := by
  intro D
  induction D using Nat.strongRecOn with
  | ind D ih =>
    intro g h P d last x1 o Z i1 e
    cases D with
    | zero => exact nomatch e
    | succ D =>
      have e : oX4_tree F (qX4_attempt F D).1 (qX4_attempt F D).2.1 (qX4_attempt F D).2.2.1 (qX4_attempt F D).2.2.2.1 (qX4_attempt F D).2.2.2.2 h (n + 76) x1 = some o := e
      refine tr_step OK hK ?_ Z i1 e
      cases D with
      | zero =>
        intro g h P v d last x1 x2 o _ _ _ e
        exact nomatch e
      | succ D =>
        cases D with
        | zero => exact bra_1 OK gG
        | succ D =>
          intro g h P v d last x1 x2 o B h4 i1 e
          exact bra_ok OK gG hK (ih D (by omega)) (ih (D + 1) (by omega)) B h4 i1 e
end
end
section
/-! ROWS and PROBLEM of the class -/
section
variable {n d last F : Nat} {g h : Hp} {L : Nat → Nat → Int} {K G : Int} {P Q : Pz} {o : Int32 × Hp} {x1 x2 x3 x4 : Int32} {σ : Sy}
theorem trv_4 {e : Bool} : ∀ (r : Nat) (e : Bool) (P : Pz), trV L 4 G (r + 1) e P = rwN L false (r + 1) P := by
  intro r
  induction r with
  | zero => intro e P; show (if (4 : Int) = 4 ∧ 0 = 0 then (lgL L P).length else _) = _
            rw [if_pos ⟨rfl, rfl⟩]; rfl
  | succ r ih =>
    intro e P
    rw [rwn_s (show 1 ≤ r + 1 by omega)]
    show (if (4 : Int) = 4 ∧ r + 1 = 0 then (lgL L P).length else smT (mvG L P (brV L 4 G (fun e Q => trV L 4 G (r + 1) e Q) (r + 1) e P)) (lgL L P).length) = _
    rw [if_neg (by omega)]
    refine smt_eq _ (fun i _ => ?_)
    unfold mvG
    cases (lgL L P)[i]? with
    | none => rfl
    | some v =>
      show brV L 4 G (fun e Q => trV L 4 G (r + 1) e Q) (r + 1) e P v = oZ (nxP L false P v) (fun Q => rwN L false (r + 1) Q)
      unfold brV nxP
      rw [if_neg (by decide), if_neg (by decide), if_neg (by decide), if_neg (by decide)]
      exact ih _ _
/-- what ROWS and PROBLEM write besides -/
def PbZ (n a i : Nat) : Prop := (a = n + 76 ∧ i ≤ 9) ∨ (n + 87 ≤ a ∧ a ≤ n + 90)
/-- set: the position is at depth 0, nothing counted yet -/
theorem set_44 {b tb : Nat} {own : Nat → Nat} {y : Int32} {o : Hp} (k : DyK n g h) (O : OwS n h own) (bb : BkE own h b 1 tb) (nb : 30 ≤ tb ∧ tb < 20000) (A : CpA h b (L 10 0) P) (e : sX4_set_44 F h (n + 76) b y (n + 76) = some o) : DyK n g o ∧ FrW (fun a i => (a = n + 76 ∧ (i = 7 ∨ i = 9)) ∨ a = n + 88 ∨ (n + 93 ≤ a ∧ a < n + 99)) h o ∧ CpA o (n + (93 + 6 * 0)) (L 10 0) P ∧ hI o (n + 76) 7 = y ∧ hI o (n + 76) 9 = 0 ∧ ∀ e', e' < 8 → hI o (n + 88) e' = 0 := by
  have s6 := dk_610 k
  unfold sX4_set_44 at e
  obtain ⟨h1, w1, e⟩ := nm_s e
  obtain ⟨h2, w2, e⟩ := nm_s e
  have k2 : DyK n g h2 := by rw [w2, w1]; exact dk_wI (dk_wI k)
  replace e := ce_e (dk_e (a := 76) (f := 4) (b := 88) k2 (by decide +kernel)) e
  obtain ⟨o4, e4, e⟩ := cl_s e
  have l8 : hN h2 (n + 88) = 8 := ln_d k2.1 (a := 88) (w := 8) (by decide)
  unfold sJ7_fill_53178 at e4
  replace e4 := nx_e e4
  rw [l8] at e4
  obtain ⟨⟨q1, q2⟩, q3, _, q4⟩ := fI (n := 8) (by decide) F (show (0 : Int) ≤ (0 : Int32).toInt by decide) e4
  have qJ := fI_j F e4
  have qS := fI_1 F e4
  have k4 : DyK n g o4 := dk_c k2 (fun x i => q1 x i) q2 (congrArg Prod.fst qS)
  have f4 : FrW (fun a i => (a = n + 76 ∧ (i = 7 ∨ i = 9)) ∨ a = n + 88) h o4 := by
    refine ⟨by rw [show hS o4 = hS h2 from congrArg Prod.fst qS, w2, w1]; exact Nat.le_refl _, fun a i l nw => ?_⟩
    refine ⟨?_, by rw [qJ, w2, w1]; rfl⟩
    rw [q3 a i (fun z => nw (Or.inr z)), w2, r_I, if_neg (fun z => nw (Or.inl ⟨z.1, Or.inr z.2⟩)), w1, r_I, if_neg (fun z => nw (Or.inl ⟨z.1, Or.inl z.2⟩))]
  have s4 := dk_610 k4
  replace e := ce_e (dk_e (a := 76) (f := 1) (b := 77) k4 (by decide +kernel)) e
  replace e := gg_e e
  replace e := ce_e (show hR o4 (n + 77) (0 : Int32).toNatClampNeg = some (n + (93 + 6 * 0)) from pth_e k4 (by decide)) e
  obtain ⟨o8, e8, e⟩ := cl_s e
  have bl : b + 6 ≤ hS h ∧ ∀ j, j < 6 → own (b + j) = tb := by
    rcases bb with ⟨⟨x1, x2⟩, _⟩ | ⟨_, x2⟩
    · exact ⟨x1, x2⟩
    · omega
  have far : ∀ j, j < 6 → ¬ b + j = n + 76 ∧ ¬ b + j = n + 88 := fun j hj => by
    have t1 := bl.2 j hj
    refine ⟨fun z => ?_, fun z => ?_⟩
    · rw [z, O.1 76 (by decide)] at t1
      have : sTg 76 = 0 := by decide
      omega
    · rw [z, O.1 88 (by decide)] at t1
      have : sTg 88 = 0 := by decide
      omega
  have A4 : CpA o4 b (L 10 0) P := cpa_f A (fun q hq => ?_) (fun j i hj => f4.2 _ _ (by omega) (fun c => by have := far j hj; omega))
  rotate_left
  · have R := A.1
    have fx : ∀ q, q ∈ fsP → q = (0, 1) ∨ q = (1, 2) ∨ q = (2, 3) ∨ q = (3, 4) ∨ q = (4, 5) := by decide
    rw [q1, w2, w1]
    rcases fx q hq with z | z | z | z | z <;> rw [z]
    · exact R.1
    · exact R.2.1
    · exact R.2.2.1
    · exact R.2.2.2.1
    · exact R.2.2.2.2
  have O4 : OwS n o4 own := ⟨O.1, s4⟩
  have b4 : BkE own o4 b 1 tb := by
    rcases bb with ⟨⟨x1, x2⟩, x3⟩ | ⟨_, x2⟩
    · exact Or.inl ⟨⟨Nat.le_trans x1 f4.1, x2⟩, x3⟩
    · omega
  obtain ⟨f8, k8, A8⟩ := cpy_k k4 O4 b4 (bk_12 (bk_path O4 (d := 0) (by decide)) (by decide)) (by omega) A4 (pth_f k4 (by decide)) e8
  rw [so_e e]
  refine ⟨k8, fw_t (fw_s f4 (fun _ _ c => c.elim Or.inl (fun c => Or.inr (Or.inl c)))) (fw_s f8 (fun a i c => Or.inr (Or.inr (by omega)))), A8, ?_, ?_, fun e' he => ?_⟩
  · rw [(f8.2 _ _ (by omega) (fun c => by omega)).1, q3 _ _ (by omega), w2, rI_o (by decide), w1, rI_s]
  · rw [(f8.2 _ _ (by omega) (fun c => by omega)).1, q3 _ _ (by omega), w2, rI_s]
  · rw [(f8.2 _ _ (by omega) (fun c => by omega)).1, q4 e' (by have : (0 : Int32).toInt = 0 := rfl; omega) he]
/-- set for a kind and a GOAL -/
theorem set_c {b tb : Nat} {own : Nat → Nat} {o : Hp} (k : DyK n g h) (O : OwS n h own) (bb : BkE own h b 1 tb) (nb : 30 ≤ tb ∧ tb < 20000) (A : CpA h b (L 10 0) P) (e : sX4_set F h (n + 76) b x2 x3 x4 = some o) : DyK n g o ∧ FrW (fun a i => (a = n + 76 ∧ (i = 5 ∨ i = 6 ∨ i = 7 ∨ i = 9)) ∨ a = n + 88 ∨ (n + 93 ≤ a ∧ a < n + 99)) h o ∧ CpA o (n + (93 + 6 * 0)) (L 10 0) P ∧ (hI o (n + 76) 5 = x2 ∧ hI o (n + 76) 6 = x3) ∧ hI o (n + 76) 7 = (if x2 = 0 then ((2 : Int32) * x4) - 1 else if x2 = 3 then x4 else (2 : Int32) * x4) ∧ hI o (n + 76) 9 = 0 ∧ ∀ e', e' < 8 → hI o (n + 88) e' = 0 := by
  have s6 := dk_610 k
  unfold sX4_set at e
  obtain ⟨h1, w1, e⟩ := nm_s e
  obtain ⟨h2, w2, e⟩ := nm_s e
  have k2 : DyK n g h2 := by rw [w2, w1]; exact dk_wI (dk_wI k)
  have f2 : FrW (fun a i => (a = n + 76 ∧ (i = 5 ∨ i = 6))) h h2 := by rw [w2, w1]; exact fw_wI (fw_wI fw_0 ⟨rfl, Or.inl rfl⟩) ⟨rfl, Or.inr rfl⟩
  have h5 : hI h2 (n + 76) 5 = x2 := by rw [w2, rI_o (by decide), w1, rI_s]
  have h6 : hI h2 (n + 76) 6 = x3 := by rw [w2, rI_s]
  have bl : b + 6 ≤ hS h ∧ ∀ j, j < 6 → own (b + j) = tb := by
    rcases bb with ⟨⟨x1, x2⟩, _⟩ | ⟨_, x2⟩
    · exact ⟨x1, x2⟩
    · omega
  have far : ∀ j, j < 6 → ¬ b + j = n + 76 := fun j hj z => by
    have t1 := bl.2 j hj
    rw [z, O.1 76 (by decide)] at t1
    have : sTg 76 = 0 := by decide
    omega
  have A2 : CpA h2 b (L 10 0) P := cpa_f A (fun q hq => ?_) (fun j i hj => f2.2 _ _ (by omega) (fun c => far j hj c.1))
  rotate_left
  · have R := A.1
    have fx : ∀ q, q ∈ fsP → q = (0, 1) ∨ q = (1, 2) ∨ q = (2, 3) ∨ q = (3, 4) ∨ q = (4, 5) := by decide
    rw [w2, w1]
    rcases fx q hq with z | z | z | z | z <;> rw [z]
    · exact R.1
    · exact R.2.1
    · exact R.2.2.1
    · exact R.2.2.2.1
    · exact R.2.2.2.2
  have s2 : hS h2 = hS h := by rw [w2, w1]; rfl
  have O2 : OwS n h2 own := ⟨O.1, by rw [s2]; exact O.2⟩
  have b2 : BkE own h2 b 1 tb := by
    rcases bb with ⟨⟨x1, x2⟩, x3⟩ | ⟨_, x2⟩
    · exact Or.inl ⟨⟨by rw [s2]; exact x1, x2⟩, x3⟩
    · omega
  have fin : ∀ {y : Int32}, y = (if x2 = 0 then ((2 : Int32) * x4) - 1 else if x2 = 3 then x4 else (2 : Int32) * x4) → sX4_set_44 F h2 (n + 76) b y (n + 76) = some o → DyK n g o ∧ FrW (fun a i => (a = n + 76 ∧ (i = 5 ∨ i = 6 ∨ i = 7 ∨ i = 9)) ∨ a = n + 88 ∨ (n + 93 ≤ a ∧ a < n + 99)) h o ∧ CpA o (n + (93 + 6 * 0)) (L 10 0) P ∧ (hI o (n + 76) 5 = x2 ∧ hI o (n + 76) 6 = x3) ∧ hI o (n + 76) 7 = (if x2 = 0 then ((2 : Int32) * x4) - 1 else if x2 = 3 then x4 else (2 : Int32) * x4) ∧ hI o (n + 76) 9 = 0 ∧ ∀ e', e' < 8 → hI o (n + 88) e' = 0 := fun {y} ey e => by
    obtain ⟨r1, r2, r3, r4, r5, r6⟩ := set_44 k2 O2 b2 nb A2 e
    have q : ∀ i, i = 5 ∨ i = 6 → hI o (n + 76) i = hI h2 (n + 76) i := fun i hi => (r2.2 _ _ (by omega) (fun c => by omega)).1
    exact ⟨r1, fw_t (fw_s f2 (fun a i c => Or.inl ⟨c.1, by omega⟩)) (fw_s r2 (fun a i c => by
      rcases c with c | c | c
      · exact Or.inl ⟨c.1, by omega⟩
      · exact Or.inr (Or.inl c)
      · exact Or.inr (Or.inr c))), r3, ⟨by rw [q 5 (by omega)]; exact h5, by rw [q 6 (by omega)]; exact h6⟩, by rw [r4, ey], r5, r6⟩
  rcases br_s e with ⟨c, e⟩ | ⟨c, e⟩ <;> rw [h5] at c
  · exact fin (by rw [if_pos c]) e
  rcases br_s e with ⟨c', e⟩ | ⟨c', e⟩ <;> rw [h5] at c'
  · exact fin (by rw [if_neg c, if_pos c']) e
  · exact fin (by rw [if_neg c, if_neg c']) e
/-- ROWS -/
noncomputable def ovR (L : Nat → Nat → Int) (ser : Bool) (k : Nat) (P : Pz) : Prop := ∃ j, 1 ≤ j ∧ j ≤ k ∧ 100000 < rwN L ser j P
noncomputable def anRow (σ : Sy) (x1 x2 : Int32) : Int := if 0 ≤ x2.toInt ∧ x2.toInt ≤ 6 then plE σ x1 (-102) (fun P => if prB' (ovR (syL σ) false x2.toNatClampNeg P) = true then -104 else (rwN (syL σ) false x2.toNatClampNeg P : Int)) else -101
theorem pbz_c {a i : Nat} (c : TrW n 0 a i ∨ (a = n + 76 ∧ (i = 5 ∨ i = 6 ∨ i = 7 ∨ i = 9)) ∨ a = n + 88 ∨ (n + 93 ≤ a ∧ a < n + 99)) : (CSc n a i ∨ (n + 93 ≤ a ∧ a < n + 147)) ∨ PbZ n a i := by
  unfold TrW CRf at c
  unfold CSc PbZ
  omega
theorem relc_pb {h' : Hp} (k : DyK n h h) (Ok : SyOk σ) (R : RelC n h σ) (F : FrW (fun a i => (CSc n a i ∨ (n + 93 ≤ a ∧ a < n + 147)) ∨ PbZ n a i) h h') (k' : DyK n h h') : RelC n h' σ ∧ FrW (fun a i => CW n h a i ∨ PbZ n a i) h h' := by
  refine ⟨relc_f k k' F (fun j i hj c => ?_) (fun q a hq e lo hi j f hj c => ?_) (lgle Ok) R, fw_s F (fun a i c => c.imp (fun c => Or.inl ?_) id)⟩
  · unfold CSc PbZ at c
    rcases hj with hj | hj
    · unfold cFt at hj; omega
    · omega
  · unfold CSc PbZ at c; omega
  · rcases c with c | c
    · exact cs_c c
    · omega
theorem bk_pl2 {p : Nat} {own : Nat → Nat} (O : OwS n h own) (hp : p < 60) : BkE own h (n + (153 + 6 * p)) 1 (30 + p) := bk_pl O hp
theorem ca_rows (k : DyK n h h) (Ok : SyOk σ) (R : RelC n h σ) (e : sX11_rows F h n x1 x2 = some o) : CaZ n h σ (PbZ n) o (anRow σ x1 x2) := by
  have z0 : (0 : Int32).toInt = 0 := rfl
  have z6 : (6 : Int32).toInt = 6 := rfl
  have z4 : (4 : Int32).toInt = 4 := rfl
  unfold sX11_rows sX11_rows_10 sX11_rows_69 at e
  unfold anRow
  rcases br_s e with ⟨c, e⟩ | ⟨c, e⟩
  · have c := lt_i c
    rw [so_e e, if_neg (by omega)]
    exact caz_o (cao_0 k R rfl rfl)
  have c := nlt_i c
  rcases br_s e with ⟨c6, e⟩ | ⟨c6, e⟩
  rotate_left
  · have c6 := nle_i c6
    rw [so_e e, if_neg (by omega)]
    exact caz_o (cao_0 k R rfl rfl)
  have c6 := le_i c6
  rw [if_pos (by omega)]
  have cx := nc_i (x := x2) (by omega)
  obtain ⟨o3, e3, e⟩ := cl_s e
  obtain ⟨h3, y3⟩ := isp_c k R.2.1 e3
  rw [h3] at e
  rcases y3 with ⟨y1, y2⟩ | ⟨y1, P, y2⟩
  · replace e := bp_e y1 e
    rw [so_e e, ple_n y2]
    exact caz_o (cao_0 k R rfl rfl)
  replace e := bn_e y1 e
  rw [ple_s y2]
  obtain ⟨p0, p1, p60, pP⟩ := spl_b y2
  have Oz := spl_ok Ok y2
  have A := cpl_p R.2.1 y2
  rcases br_s e with ⟨ck, e⟩ | ⟨ck, e⟩
  · have x0 : x2.toNatClampNeg = 0 := by rw [ck]; rfl
    rw [so_e e, x0, if_neg (fun z => by
      obtain ⟨j, j1, j2, _⟩ := prb_e.mp z
      omega)]
    exact caz_o (cao_0 k R rfl rfl)
  have ck : 1 ≤ x2.toNatClampNeg := by
    have : ¬ x2.toInt = 0 := fun z => ck (Int32.toInt_inj.mp (by rw [z, z0]))
    omega
  replace e := ce_e (dk_e (a := 0) (f := 11) (b := 76) k (by decide +kernel)) e
  replace e := ce_e (dk_e (a := 0) (f := 13) (b := 148) k (by decide +kernel)) e
  replace e := gg_e e
  replace e := ce_e ((k.1.2.1.2.1 _ p60).1) e
  obtain ⟨o10, e10, e⟩ := cl_s e
  unfold sX4_setRows at e10
  obtain ⟨u, eu, e10⟩ := cl_s e10
  obtain ⟨own, Dw⟩ := k.1.1
  obtain ⟨ku, fu, Au, ⟨u5, u6⟩, u7, u9, u88⟩ := set_c k Dw.1 (bk_pl Dw.1 p60) (by omega) A eu
  replace e10 := so_e (nx_e e10)
  have k10 : DyK n h o10 := by rw [e10]; exact dk_wI ku
  have s10 := dk_610 k10
  have q10 : ∀ a i, ¬ (a = n + 76 ∧ i = 7) → hI o10 a i = hI u a i := fun a i z => by rw [e10, r_I, if_neg z]
  have f10 : FrW (fun a i => (a = n + 76 ∧ (i = 5 ∨ i = 6 ∨ i = 7 ∨ i = 9)) ∨ a = n + 88 ∨ (n + 93 ≤ a ∧ a < n + 99)) h o10 := by rw [e10]; exact fw_wI fu (Or.inl ⟨rfl, by omega⟩)
  have A10 : CpA o10 (n + (93 + 6 * 0)) (syL σ 10 0) P := cpa_f Au (pth_f k10 (by decide)) (fun j i hj => ⟨q10 _ _ (by omega), by rw [e10]; rfl⟩)
  have s6 := dk_610 k
  have C10 : ClL n o10 (syL σ) := cll_f k k10 (fun j i hj => f10.2 _ _ (by omega) (fun c => by omega)) R.1
  replace e := ce_e (dk_e (a := 0) (f := 11) (b := 76) k10 (by decide +kernel)) e
  obtain ⟨o12, e12, e⟩ := cl_s e
  have TP : TPre n (syL σ) 4 0 0 x2.toNatClampNeg h o10 P := ⟨k10, ⟨C10, by rw [q10 _ _ (by omega), u5]; rfl, by rw [q10 _ _ (by omega), u6]; rfl, by rw [e10, rI_s]; omega⟩, A10, Oz, ⟨by omega, by omega⟩, by rw [q10 _ _ (by omega)]; exact u9, fun e' _ l => by
    rw [q10 _ _ (by omega), u88 e' (by omega)]; exact ⟨by decide, by decide⟩⟩
  obtain ⟨f12, k12, Y⟩ := tree_all (n := n) (F := F) (K := 4) (G := 0) Ok.1 (by decide) (by decide) 40 TP rfl e12
  have FF : FrW (fun a i => (CSc n a i ∨ (n + 93 ≤ a ∧ a < n + 147)) ∨ PbZ n a i) h o12.2 := fw_t (fw_s f10 (fun a i c => pbz_c (Or.inr c))) (fw_s f12 (fun a i c => pbz_c (Or.inl c)))
  obtain ⟨R', F'⟩ := relc_pb k Ok R FF k12
  replace e := ce_e (dk_e (a := 0) (f := 11) (b := 76) k12 (by decide +kernel)) e
  have r0 : ∀ e', e' < x2.toNatClampNeg → (hI o10 (n + 88) e').toInt = 0 := fun e' l => by rw [q10 _ _ (by omega), u88 e' (by omega)]; rfl
  have d4 : decide ((4 : Int) = 3) = false := rfl
  rw [d4] at Y
  rcases Y with ⟨y1, y2', y3, _⟩ | ⟨y1, e', _, l2, y2'⟩
  · replace e := bp_e y1 e
    rw [so_e e]
    refine ⟨?_, R', k12, F'⟩
    rw [if_neg (fun z => by
      obtain ⟨j, j1, j2, j3⟩ := prb_e.mp z
      have := y2' (j - 1) (by omega) (by omega)
      rw [r0 _ (by omega), show j - 1 - 0 + 1 = j by omega] at this
      omega)]
    show o12.1.toInt = _
    rw [y3]
    obtain ⟨q, hq⟩ : ∃ q, x2.toNatClampNeg = q + 1 := ⟨x2.toNatClampNeg - 1, by omega⟩
    rw [hq, Nat.sub_zero, trv_4 (e := true)]
  · replace e := bn_e (by rw [y1]; decide) e
    rw [so_e e]
    refine ⟨?_, R', k12, F'⟩
    rw [if_pos (prb_e.mpr ⟨e' + 1, by omega, by omega, by
      rw [r0 e' l2, show e' - 0 + 1 = e' + 1 by omega] at y2'
      omega⟩)]
    rfl
end
end
