section
/-! PROBLEM of the class: what is kept -/
/-- the first moves that are such -/
noncomputable def kyL (L : Nat → Nat → Int) (K G : Int) (last : Nat) (P : Pz) (m : Nat) : List Nat := (List.range m).filter (fun i => decide (0 < mvG L P (brV L K G (fun e Q => trV L K G (last - 1) e Q) (last - 1) true P) i))
/-- a problem: its place, position, kind, GOAL, how many moves are asked for -/
abbrev Pb := Nat × Pz × Int × Int × Nat
def lsP (K : Int) (N : Nat) : Nat := if K = 0 then 2 * N - 1 else if K = 3 then N else 2 * N
def CPb (n : Nat) (h : Hp) (L : Nat → Nat → Int) : Option Pb → Prop
  | none => hI h (n + 76) 14 = 0 ∧ hI h (n + 76) 15 = 0
  | some (p, P, K, G, N) => (hI h (n + 76) 16).toInt = (p : Int) ∧ ((hI h (n + 76) 14).toInt = ((kyL L K G (lsP K N) P (lgL L P).length).length : Int) ∧ ∀ i, i < (kyL L K G (lsP K N) P (lgL L P).length).length → ∃ y, (kyL L K G (lsP K N) P (lgL L P).length)[i]? = some y ∧ (hI h (n + 91) i).toInt = (y : Int)) ∧ (hI h (n + 76) 15).toInt = (if K ≤ 1 then ((lgL L P).length : Int) else 0) ∧ (K ≤ 1 → ∀ i, i < (lgL L P).length → (hI h (n + 92) i).toInt = (mvG L P (rfV L K G (lsP K N - 1) P) i : Nat))
section
variable {n last F : Nat} {g h : Hp} {L : Nat → Nat → Int} {K G : Int} {P : Pz} {o : Int32 × Hp} {x1 x2 x3 x4 : Int32} {σ : Sy}
theorem kyl_s {m : Nat} : kyL L K G last P (m + 1) = kyL L K G last P m ++ (if 0 < mvG L P (brV L K G (fun e Q => trV L K G (last - 1) e Q) (last - 1) true P) m then [m] else []) := by
  unfold kyL
  rw [List.range_succ, List.filter_append]
  congr 1
  by_cases c : 0 < mvG L P (brV L K G (fun e Q => trV L K G (last - 1) e Q) (last - 1) true P) m
  · rw [if_pos c]
    simp [List.filter, c]
  · rw [if_neg c]
    simp [List.filter, c]
theorem kyl_le : ∀ m, (kyL L K G last P m).length ≤ m := fun m => Nat.le_trans (List.length_filter_le _ _) (by rw [List.length_range]; exact Nat.le_refl _)
/-- what keep has written so far -/
def KpI (n : Nat) (L : Nat → Nat → Int) (K G : Int) (last : Nat) (P : Pz) (h : Hp) (i : Nat) : Prop := (hI h (n + 76) 14).toInt = ((kyL L K G last P i).length : Int) ∧ ∀ j, j < (kyL L K G last P i).length → ∃ y, (kyL L K G last P i)[j]? = some y ∧ (hI h (n + 91) j).toInt = (y : Int)
theorem r_cpI (h : Hp) (a0 sp a dp m b i : Nat) : hI (cpI h a0 sp a dp m) b i = if b = a ∧ dp ≤ i ∧ i < dp + m then hI h a0 (sp + (i - dp)) else hI h b i := by
  rw [cpI_I]
  by_cases c : b = a
  · rw [if_pos c]
    unfold va_cpy
    by_cases c2 : dp ≤ i ∧ i < dp + m
    · rw [if_pos c2, if_pos ⟨c, c2⟩]
    · rw [if_neg c2, if_neg (fun z => c2 z.2)]
  · rw [if_neg c, if_neg (fun z => c z.1)]
theorem kp_79 {h : Hp} {y : Int32} {o : Hp} (k : DyK n g h) (e : sX4_keep_79 F h (n + 76) y (n + 76) = some o) : DyK n g o ∧ FrW (fun a i => (a = n + 76 ∧ i = 15) ∨ a = n + 92) h o ∧ hI o (n + 76) 15 = y ∧ ∀ i : Nat, (i : Int) < y.toInt → hI o (n + 92) i = hI h (n + 90) i := by
  unfold sX4_keep_79 at e
  obtain ⟨h1, w1, e⟩ := nm_s e
  have k1 : DyK n g h1 := by rw [w1]; exact dk_wI k
  replace e := ce_e (dk_e (a := 76) (f := 11) (b := 90) k1 (by decide +kernel)) e
  replace e := ce_e (dk_e (a := 76) (f := 13) (b := 92) k1 (by decide +kernel)) e
  replace e := gg_e e
  replace e := gg_e e
  obtain ⟨g1, e⟩ := gd_s e
  replace e := gg_e e
  replace e := gg_e e
  have e := so_e (nx_e e)
  have z0 : (0 : Int32).toNatClampNeg = 0 := rfl
  rw [z0] at e
  have y15 : hI h1 (n + 76) 15 = y := by rw [w1, rI_s]
  rw [y15] at e g1
  have g1 := nlt_i g1
  have y0 : 0 ≤ y.toInt := by have : (0 : Int32).toInt = 0 := rfl; omega
  have yn := nc_i y0
  refine ⟨by rw [e]; exact dk_cpI k1, ?_, ?_, fun i hi => ?_⟩
  · rw [e]
    refine ⟨by rw [w1]; exact Nat.le_refl _, fun a i l nw => ⟨?_, by rw [w1]; rfl⟩⟩
    rw [r_cpI, if_neg (fun z => nw (Or.inr z.1)), w1, r_I, if_neg (fun z => nw (Or.inl z))]
  · rw [e, r_cpI, if_neg (fun z => by omega)]; exact y15
  · rw [e, r_cpI, if_pos ⟨rfl, by omega, by omega⟩, w1, rI_a (by omega), show 0 + (i - 0) = i by omega]
theorem kp_12 (kn : 0 ≤ K) (kf : (hI h (n + 76) 5).toInt = K) (fm : (hI h (n + 76) 8).toInt = ((lgL L P).length : Int)) (ln : (lgL L P).length ≤ 3000) (wy : ∀ i, i < (lgL L P).length → (hI h (n + 89) i).toInt = (mvG L P (brV L K G (fun e Q => trV L K G (last - 1) e Q) (last - 1) true P) i : Nat)) : ∀ (f : Nat) {u : Hp} {o : Hp} {x : Int32} {i : Nat}, DyK n g u → FrW (fun a i => (a = n + 76 ∧ (i = 14 ∨ i = 16)) ∨ a = n + 91) h u → (∀ a i, (a = n + 76 ∧ (i = 5 ∨ i = 8)) ∨ a = n + 89 ∨ a = n + 90 → hI u a i = hI h a i) → KpI n L K G last P u i → x.toInt = (i : Int) → i ≤ (lgL L P).length → sX4_keep_12 F f u (n + 76) x = some o → DyK n g o ∧ FrW (fun a i => (a = n + 76 ∧ (i = 14 ∨ i = 15 ∨ i = 16)) ∨ a = n + 91 ∨ a = n + 92) h o ∧ KpI n L K G last P o (lgL L P).length ∧ hI o (n + 76) 16 = hI u (n + 76) 16 ∧ (hI o (n + 76) 15).toInt = (if K ≤ 1 then ((lgL L P).length : Int) else 0) ∧ (K ≤ 1 → ∀ j, j < (lgL L P).length → hI o (n + 92) j = hI h (n + 90) j) := by
  have z0 : (0 : Int32).toInt = 0 := rfl
  have z1 : (1 : Int32).toInt = 1 := rfl
  intro f
  induction f with
  | zero => intro u o x i _ _ _ _ _ _ e; exact absurd e (by rw [sX4_keep_12]; exact fun z => nomatch z)
  | succ f ih =>
    intro u o x i ku fu qu I ix il e
    have su := dk_610 ku
    rw [sX4_keep_12] at e
    rcases br_s e with ⟨c, e⟩ | ⟨c, e⟩ <;> rw [qu _ _ (Or.inl ⟨rfl, Or.inr rfl⟩)] at c
    · have c := le_i c
      have ii : i = (lgL L P).length := by omega
      have fin : ∀ {y : Int32}, y.toInt = (if K ≤ 1 then ((lgL L P).length : Int) else 0) → sX4_keep_79 F u (n + 76) y (n + 76) = some o → DyK n g o ∧ FrW (fun a i => (a = n + 76 ∧ (i = 14 ∨ i = 15 ∨ i = 16)) ∨ a = n + 91 ∨ a = n + 92) h o ∧ KpI n L K G last P o (lgL L P).length ∧ hI o (n + 76) 16 = hI u (n + 76) 16 ∧ (hI o (n + 76) 15).toInt = (if K ≤ 1 then ((lgL L P).length : Int) else 0) ∧ (K ≤ 1 → ∀ j, j < (lgL L P).length → hI o (n + 92) j = hI h (n + 90) j) := fun {y} ey e => by
        obtain ⟨r1, r2, r3, r4⟩ := kp_79 ku e
        have q : ∀ a i, (a = n + 76 ∧ (i = 14 ∨ i = 16)) ∨ a = n + 91 → hI o a i = hI u a i := fun a i hh => (r2.2 _ _ (by omega) (fun c => by omega)).1
        refine ⟨r1, fw_t (fw_s fu (fun a i c => by omega)) (fw_s r2 (fun a i c => by omega)), ?_, q _ _ (by omega), by rw [r3]; exact ey, fun k1 j hj => ?_⟩
        · rw [← ii]
          refine ⟨by rw [q _ _ (by omega)]; exact I.1, fun j hj => ?_⟩
          obtain ⟨y', a1, a2⟩ := I.2 j hj
          exact ⟨y', a1, by rw [q _ _ (by omega)]; exact a2⟩
        · rw [if_pos k1] at ey
          rw [r4 j (by omega), qu _ _ (by omega)]
      unfold sX4_keep_71 at e
      have h8 : hI u (n + 76) 8 = hI h (n + 76) 8 := qu _ _ (Or.inl ⟨rfl, Or.inr rfl⟩)
      have h5 : (hI u (n + 76) 5).toInt = K := by rw [qu _ _ (Or.inl ⟨rfl, Or.inl rfl⟩)]; exact kf
      rcases br_s e with ⟨c0, e⟩ | ⟨c0, e⟩
      · have k0 : K = 0 := by rw [← h5, c0]; rfl
        exact fin (by rw [if_pos (by omega), h8]; exact fm) e
      · rcases br_s e with ⟨c1, e⟩ | ⟨c1, e⟩
        · have k1 : K = 1 := by rw [← h5, c1]; rfl
          exact fin (by rw [if_pos (by omega), h8]; exact fm) e
        · have k0 : ¬ K = 0 := fun z => c0 (Int32.toInt_inj.mp (by rw [h5, z, z0]))
          have k1 : ¬ K = 1 := fun z => c1 (Int32.toInt_inj.mp (by rw [h5, z, z1]))
          exact fin (by rw [if_neg (by omega)]; rfl) e
    have c := nle_i c
    have li : i < (lgL L P).length := by omega
    have cx := nc_i (x := x) (by omega)
    have cx : x.toNatClampNeg = i := by omega
    replace e := ce_e (dk_e (a := 76) (f := 10) (b := 89) ku (by decide +kernel)) e
    replace e := gg_e e
    unfold sX4_keep_49 at e
    have v89 := wy i li
    rw [← qu (n + 89) i (by omega)] at v89
    rcases br_s e with ⟨cw, e⟩ | ⟨cw, e⟩ <;> rw [cx] at cw
    · have cw := le_i cw
      replace e := nx_e e
      have ky : kyL L K G last P (i + 1) = kyL L K G last P i := by rw [kyl_s, if_neg (by omega), List.append_nil]
      exact ih (i := i + 1) ku fu qu (by unfold KpI; rw [ky]; exact I) (by rw [ta (by omega), ix, z1]; omega) (by omega) e
    · have cw := nle_i cw
      have ky : kyL L K G last P (i + 1) = kyL L K G last P i ++ [i] := by rw [kyl_s, if_pos (by omega)]
      replace e := ce_e (dk_e (a := 76) (f := 12) (b := 91) ku (by decide +kernel)) e
      replace e := gg_e e
      obtain ⟨h9, w9, e⟩ := nm_s e
      obtain ⟨h10, w10, e⟩ := nm_s e
      replace e := nx_e e
      have k10 : DyK n g h10 := by rw [w10, w9]; exact dk_wI (dk_wI ku)
      have n14 := nc_i (x := hI u (n + 76) 14) (by rw [I.1]; omega)
      have n14 : (hI u (n + 76) 14).toNatClampNeg = (kyL L K G last P i).length := by have := I.1; omega
      have kl := kyl_le (L := L) (K := K) (G := G) (last := last) (P := P) i
      rw [n14] at w9
      have f10 : FrW (fun a i => (a = n + 76 ∧ (i = 14 ∨ i = 16)) ∨ a = n + 91) u h10 := by
        rw [w10, w9]
        exact fw_wI (fw_wI fw_0 (Or.inr rfl)) (Or.inl ⟨rfl, Or.inl rfl⟩)
      have r16 : hI h10 (n + 76) 16 = hI u (n + 76) 16 := by rw [w10, rI_o (by decide), w9, rI_a (by omega)]
      have res := ih (i := i + 1) k10 (fw_t fu f10) (fun a j hh => by rw [(f10.2 a j (by omega) (fun c => by omega)).1]; exact qu a j hh) ?_ (by rw [ta (by omega), ix, z1]; omega) (by omega) e
      · rw [r16] at res; exact res
      · unfold KpI
        rw [ky]
        refine ⟨?_, fun j hj => ?_⟩
        · rw [w10, rI_s, w9, rI_a (by omega), ta (by rw [I.1]; omega), I.1, z1, List.length_append]
          show _ + 1 = (((kyL L K G last P i).length + 1 : Nat) : Int)
          omega
        · rw [List.length_append] at hj
          have hj : j < (kyL L K G last P i).length + 1 := hj
          by_cases jl : j = (kyL L K G last P i).length
          · refine ⟨i, by rw [jl, List.getElem?_append_right (Nat.le_refl _), Nat.sub_self]; rfl, ?_⟩
            rw [w10, rI_a (by omega), w9, jl, rI_s]; exact ix
          · obtain ⟨y', a1, a2⟩ := I.2 j (by omega)
            refine ⟨y', by rw [List.getElem?_append_left (by omega)]; exact a1, ?_⟩
            rw [w10, rI_a (by omega), w9, rI_o jl]; exact a2
/-- PROBLEM: what it answers -/
def prV (x2 x3 x4 : Int32) : Prop := (0 ≤ x2.toInt ∧ x2.toInt ≤ 3) ∧ (0 ≤ x3.toInt ∧ x3.toInt ≤ 2) ∧ 1 ≤ x4.toInt ∧ x4.toInt ≤ 4
noncomputable def anPrb (σ : Sy) (x1 x2 x3 x4 : Int32) : Int := if prB' (prV x2 x3 x4) = true then plE σ x1 (-102) (fun P => if 0 < (enE (syL σ) P).1 then -103 else if prB' (ovR (syL σ) (decide (x2.toInt = 3)) (lsP x2.toInt x4.toNatClampNeg) P) = true then -104 else (trV (syL σ) x2.toInt x3.toInt (lsP x2.toInt x4.toNatClampNeg) true P : Int)) else -101
/-- the problem kept behind it -/
noncomputable def pbN (σ : Sy) (pb : Option Pb) (x1 x2 x3 x4 : Int32) : Option Pb := if prB' (prV x2 x3 x4) = true then (match sPl σ x1 with
  | none => pb
  | some P => if 0 < (enE (syL σ) P).1 then pb else if prB' (ovR (syL σ) (decide (x2.toInt = 3)) (lsP x2.toInt x4.toNatClampNeg) P) = true then pb else some (x1.toNatClampNeg, P, x2.toInt, x3.toInt, x4.toNatClampNeg)) else pb
def PbY (n a i : Nat) : Prop := PbZ n a i ∨ (a = n + 76 ∧ (i = 14 ∨ i = 15 ∨ i = 16)) ∨ a = n + 91 ∨ a = n + 92
theorem cpb_f {W : Nat → Nat → Prop} {h' : Hp} {pb : Option Pb} (k : DyK n g h) (f : FrW W h h') (nw : ∀ a i, W a i → ¬ ((a = n + 76 ∧ 14 ≤ i) ∨ a = n + 91 ∨ a = n + 92)) (C : CPb n h L pb) : CPb n h' L pb := by
  have s6 := dk_610 k
  have q : ∀ a i, (a = n + 76 ∧ 14 ≤ i) ∨ a = n + 91 ∨ a = n + 92 → hI h' a i = hI h a i := fun a i hh => (f.2 a i (by omega) (fun c => nw a i c hh)).1
  cases pb with
  | none => exact ⟨by rw [q _ _ (by omega)]; exact C.1, by rw [q _ _ (by omega)]; exact C.2⟩
  | some t =>
    obtain ⟨p, P, K, G, N⟩ := t
    obtain ⟨c1, ⟨c2, c3⟩, c4, c5⟩ := C
    exact ⟨by rw [q _ _ (by omega)]; exact c1, ⟨by rw [q _ _ (by omega)]; exact c2, fun i hi => by
      obtain ⟨y, a1, a2⟩ := c3 i hi
      exact ⟨y, a1, by rw [q _ _ (by omega)]; exact a2⟩⟩, by rw [q _ _ (by omega)]; exact c4, fun k1 i hi => by rw [q _ _ (by omega)]; exact c5 k1 i hi⟩
theorem relc_py {h' : Hp} (k : DyK n h h) (Ok : SyOk σ) (R : RelC n h σ) (F : FrW (fun a i => (CSc n a i ∨ (n + 93 ≤ a ∧ a < n + 147)) ∨ PbY n a i) h h') (k' : DyK n h h') : RelC n h' σ ∧ FrW (fun a i => CW n h a i ∨ PbY n a i) h h' := by
  refine ⟨relc_f k k' F (fun j i hj c => ?_) (fun q a hq e lo hi j f hj c => ?_) (lgle Ok) R, fw_s F (fun a i c => c.imp (fun c => Or.inl ?_) id)⟩
  · unfold CSc PbY PbZ at c
    rcases hj with hj | hj
    · unfold cFt at hj; omega
    · omega
  · unfold CSc PbY PbZ at c; omega
  · rcases c with c | c
    · exact cs_c c
    · omega
theorem ca_prob {pb : Option Pb} (k : DyK n h h) (Ok : SyOk σ) (R : RelC n h σ) (C : CPb n h (syL σ) pb) (e : sX11_problem F h n x1 x2 x3 x4 = some o) : CaZ n h σ (PbY n) o (anPrb σ x1 x2 x3 x4) ∧ CPb n o.2 (syL σ) (pbN σ pb x1 x2 x3 x4) := by
  have z0 : (0 : Int32).toInt = 0 := rfl
  have z1 : (1 : Int32).toInt = 1 := rfl
  have z2 : (2 : Int32).toInt = 2 := rfl
  have z3 : (3 : Int32).toInt = 3 := rfl
  have z4 : (4 : Int32).toInt = 4 := rfl
  unfold sX11_problem sX11_problem_30 at e
  unfold anPrb pbN
  have bad : ¬ prV x2 x3 x4 → o = ((-101 : Int32), h) → CaZ n h σ (PbY n) o (if prB' (prV x2 x3 x4) = true then plE σ x1 (-102) (fun P => if 0 < (enE (syL σ) P).1 then -103 else if prB' (ovR (syL σ) (decide (x2.toInt = 3)) (lsP x2.toInt x4.toNatClampNeg) P) = true then -104 else (trV (syL σ) x2.toInt x3.toInt (lsP x2.toInt x4.toNatClampNeg) true P : Int)) else -101) ∧ CPb n o.2 (syL σ) (if prB' (prV x2 x3 x4) = true then (match sPl σ x1 with
  | none => pb
  | some P => if 0 < (enE (syL σ) P).1 then pb else if prB' (ovR (syL σ) (decide (x2.toInt = 3)) (lsP x2.toInt x4.toNatClampNeg) P) = true then pb else some (x1.toNatClampNeg, P, x2.toInt, x3.toInt, x4.toNatClampNeg)) else pb) := fun nb eo => by
    rw [if_neg (fun z => nb (prb_e.mp z)), if_neg (fun z => nb (prb_e.mp z)), eo]
    exact ⟨caz_o (cao_0 k R rfl rfl), C⟩
  rcases br_s e with ⟨c, e⟩ | ⟨c1, e⟩
  · exact bad (fun z => by have := lt_i c; unfold prV at z; omega) (so_e e)
  rcases br_s e with ⟨c, e⟩ | ⟨c2, e⟩
  · exact bad (fun z => by have := lt_i c; unfold prV at z; omega) (so_e e)
  rcases br_s e with ⟨c, e⟩ | ⟨c3, e⟩
  · exact bad (fun z => by have := lt_i c; unfold prV at z; omega) (so_e e)
  rcases br_s e with ⟨c, e⟩ | ⟨c4, e⟩
  · exact bad (fun z => by have := lt_i c; unfold prV at z; omega) (so_e e)
  rcases br_s e with ⟨c, e⟩ | ⟨c5, e⟩
  · exact bad (fun z => by have := lt_i c; unfold prV at z; omega) (so_e e)
  rcases br_s e with ⟨c6, e⟩ | ⟨c, e⟩
  rotate_left
  · exact bad (fun z => by have := nle_i c; unfold prV at z; omega) (so_e e)
  have c1 := nlt_i c1
  have c2 := nlt_i c2
  have c3 := nlt_i c3
  have c4 := nlt_i c4
  have c5 := nlt_i c5
  have c6 := le_i c6
  have good : prV x2 x3 x4 := ⟨⟨by omega, by omega⟩, ⟨by omega, by omega⟩, by omega, by omega⟩
  rw [if_pos (prb_e.mpr good), if_pos (prb_e.mpr good)]
  have cx4 := nc_i (x := x4) (by omega)
  obtain ⟨o7, e7, e⟩ := cl_s e
  obtain ⟨h7, y7⟩ := isp_c k R.2.1 e7
  rw [h7] at e
  rcases y7 with ⟨y1, y2⟩ | ⟨y1, P, y2⟩
  · replace e := bp_e y1 e
    rw [so_e e, ple_n y2, y2]
    exact ⟨caz_o (cao_0 k R rfl rfl), C⟩
  replace e := bn_e y1 e
  rw [ple_s y2, y2]
  obtain ⟨p0, p1, p60, pP⟩ := spl_b y2
  have Oz := spl_ok Ok y2
  have A := cpl_p R.2.1 y2
  have s6 := dk_610 k
  replace e := ce_e (dk_e (a := 0) (f := 6) (b := 30) k (by decide +kernel)) e
  replace e := ce_e (dk_e (a := 0) (f := 13) (b := 148) k (by decide +kernel)) e
  replace e := gg_e e
  replace e := ce_e ((k.1.2.1.2.1 _ p60).1) e
  obtain ⟨o13, e13, e⟩ := cl_s e
  obtain ⟨own, Dw⟩ := k.1.1
  obtain ⟨f13, k13, v13⟩ := en_l k Dw.1 (bk_pl Dw.1 p60) (by omega) Ok.1.1 Ok.1.2.1 Oz R.1 A e13
  have s13 := dk_610 k13
  have F13 : FrW (fun a i => (CSc n a i ∨ (n + 93 ≤ a ∧ a < n + 147)) ∨ PbY n a i) h o13.2 := fw_s f13 (fun a i c => Or.inl (Or.inl (Or.inl c)))
  have nb := ene_b (L := syL σ) (P := P)
  rcases br_s e with ⟨c, e⟩ | ⟨c, e⟩
  rotate_left
  · have en : 0 < (enE (syL σ) P).1 := by
      have : ¬ o13.1.toInt = 0 := fun z => c (Int32.toInt_inj.mp (by rw [z, z0]))
      omega
    obtain ⟨R', F'⟩ := relc_py k Ok R F13 k13
    rw [so_e e, if_pos en]
    refine ⟨⟨rfl, R', k13, F'⟩, ?_⟩
    show CPb n o13.2 (syL σ) (if 0 < (enE (syL σ) P).1 then pb else _)
    rw [if_pos en]
    exact cpb_f k f13 (fun a i c => by unfold CRf at c; omega) C
  have en : ¬ 0 < (enE (syL σ) P).1 := by rw [c] at v13; omega
  have A13 : CpA o13.2 (n + (153 + 6 * x1.toNatClampNeg)) (syL σ 10 0) P := cpa_f A (fun q hq => pl_e k13 p60 hq) (fun j i hj => f13.2 _ _ (by omega) (fun c => by unfold CRf at c; omega))
  replace e := ce_e (dk_e (a := 0) (f := 11) (b := 76) k13 (by decide +kernel)) e
  replace e := ce_e (dk_e (a := 0) (f := 13) (b := 148) k13 (by decide +kernel)) e
  replace e := gg_e e
  replace e := ce_e ((k13.1.2.1.2.1 _ p60).1) e
  obtain ⟨u, eu, e⟩ := cl_s e
  obtain ⟨own13, Dw13⟩ := k13.1.1
  obtain ⟨ku, fu, Au, ⟨u5, u6⟩, u7, u9, u88⟩ := set_c k13 Dw13.1 (bk_pl Dw13.1 p60) (by omega) A13 eu
  have su := dk_610 ku
  have lst : (hI u (n + 76) 7).toInt = (lsP x2.toInt x4.toNatClampNeg : Int) := by
    rw [u7]
    have m2 : ((2 : Int32) * x4).toInt = 2 * x4.toInt := by rw [tm (by rw [z2]; omega), z2]
    unfold lsP
    by_cases q0 : x2 = 0
    · rw [if_pos q0, if_pos (by rw [q0]; rfl), ts (by rw [m2, z1]; omega), m2, z1]; omega
    · have q0' : ¬ x2.toInt = 0 := fun z => q0 (Int32.toInt_inj.mp (by rw [z, z0]))
      rw [if_neg q0, if_neg q0']
      by_cases q3 : x2 = 3
      · rw [if_pos q3, if_pos (by rw [q3]; rfl)]; omega
      · have q3' : ¬ x2.toInt = 3 := fun z => q3 (Int32.toInt_inj.mp (by rw [z, z3]))
        rw [if_neg q3, if_neg q3', m2]; omega
  have l18 : 1 ≤ lsP x2.toInt x4.toNatClampNeg ∧ lsP x2.toInt x4.toNatClampNeg ≤ 8 := by
    unfold lsP
    split
    · omega
    · split <;> omega
  have Fu : FrW (fun a i => (CSc n a i ∨ (n + 93 ≤ a ∧ a < n + 147)) ∨ PbZ n a i) h u := fw_t (fw_s f13 (fun a i c => Or.inl (Or.inl (Or.inl c)))) (fw_s fu (fun a i c => pbz_c (Or.inr c)))
  have Cu : ClL n u (syL σ) := cll_f k ku (fun j i hj => Fu.2 _ _ (by omega) (fun c => by unfold CSc PbZ at c; omega)) R.1
  replace e := ce_e (dk_e (a := 0) (f := 11) (b := 76) ku (by decide +kernel)) e
  obtain ⟨o21, e21, e⟩ := cl_s e
  have TP : TPre n (syL σ) x2.toInt x3.toInt 0 (lsP x2.toInt x4.toNatClampNeg) h u P := ⟨ku, ⟨Cu, by rw [u5], by rw [u6], lst⟩, Au, Oz, ⟨by omega, by omega⟩, u9, fun e' _ l => by
    rw [u88 e' (by omega)]; exact ⟨by decide, by decide⟩⟩
  obtain ⟨f21, k21, Y⟩ := tree_all (n := n) (F := F) (K := x2.toInt) (G := x3.toInt) Ok.1 good.2.1 (by omega) 40 TP rfl e21
  have s21 := dk_610 k21
  have FF : FrW (fun a i => (CSc n a i ∨ (n + 93 ≤ a ∧ a < n + 147)) ∨ PbZ n a i) h o21.2 := fw_t Fu (fw_s f21 (fun a i c => pbz_c (Or.inl c)))
  have r0 : ∀ e', e' < 8 → (hI u (n + 88) e').toInt = 0 := fun e' l => by rw [u88 e' l]; rfl
  replace e := ce_e (dk_e (a := 0) (f := 11) (b := 76) k21 (by decide +kernel)) e
  rw [if_neg en]
  show CaZ n h σ (PbY n) o (if prB' (ovR (syL σ) (decide (x2.toInt = 3)) (lsP x2.toInt x4.toNatClampNeg) P) = true then -104 else _) ∧ CPb n o.2 (syL σ) (if 0 < (enE (syL σ) P).1 then pb else if prB' (ovR (syL σ) (decide (x2.toInt = 3)) (lsP x2.toInt x4.toNatClampNeg) P) = true then pb else _)
  rw [if_neg en]
  rcases Y with ⟨y1, y2', y3, y4, y5⟩ | ⟨y1, e', _, l2, y2'⟩
  · replace e := bp_e y1 e
    have no : ¬ prB' (ovR (syL σ) (decide (x2.toInt = 3)) (lsP x2.toInt x4.toNatClampNeg) P) = true := fun z => by
      obtain ⟨j, j1, j2, j3⟩ := prb_e.mp z
      have := y2' (j - 1) (by omega) (by omega)
      rw [r0 _ (by omega), show j - 1 - 0 + 1 = j by omega] at this
      omega
    rw [if_neg no, if_neg no]
    obtain ⟨y51, y52⟩ := y5 rfl
    replace e := ce_e (dk_e (a := 0) (f := 11) (b := 76) k21 (by decide +kernel)) e
    obtain ⟨o25, e25, e⟩ := cl_s e
    unfold sX4_keep at e25
    obtain ⟨h1, w1, e25⟩ := nm_s e25
    obtain ⟨h2, w2, e25⟩ := nm_s e25
    have k2 : DyK n h h2 := by rw [w2, w1]; exact dk_wI (dk_wI k21)
    have f2 : FrW (fun a i => (a = n + 76 ∧ (i = 14 ∨ i = 16)) ∨ a = n + 91) o21.2 h2 := by
      rw [w2, w1]
      exact fw_wI (fw_wI fw_0 (Or.inl ⟨rfl, Or.inr rfl⟩)) (Or.inl ⟨rfl, Or.inl rfl⟩)
    have kf : (hI o21.2 (n + 76) 5).toInt = x2.toInt := by
      rw [(f21.2 (n + 76) 5 (by omega) (fun c => by unfold TrW CRf at c; omega)).1, u5]
    have ln := lgl_le Ok.1.1 Ok.1.2.1 Oz
    obtain ⟨r1, r2, r3, r4, r5, r6⟩ := kp_12 (K := x2.toInt) (G := x3.toInt) (last := lsP x2.toInt x4.toNatClampNeg) (L := syL σ) (P := P) (h := o21.2) (by omega) kf y51 (by omega) (fun i hi => (y52 (by omega) i hi).1) F (i := 0) k2 f2 (fun a i hh => by
      rw [w2, r_I, if_neg (fun z => by omega), w1, r_I, if_neg (fun z => by omega)]) ⟨by rw [w2, rI_s]; rfl, fun j hj => absurd hj (Nat.not_lt_zero _)⟩ rfl (Nat.zero_le _) e25
    have F25 : FrW (fun a i => (CSc n a i ∨ (n + 93 ≤ a ∧ a < n + 147)) ∨ PbY n a i) h o25 := fw_t (fw_s FF (fun a i c => c.imp id Or.inl)) (fw_s r2 (fun a i c => Or.inr (Or.inr (by
      rcases c with c | c | c
      · exact Or.inl c
      · exact Or.inr (Or.inl c)
      · exact Or.inr (Or.inr c)))))
    obtain ⟨R', F'⟩ := relc_py k Ok R F25 r1
    rw [so_e e]
    refine ⟨⟨?_, R', r1, F'⟩, ?_⟩
    · show o21.1.toInt = _
      rw [y3]; rfl
    · refine ⟨?_, r3, r5, fun k1 i hi => ?_⟩
      · show (hI o25 (n + 76) 16).toInt = _
        rw [r4, w2, rI_o (by decide), w1, rI_s]
        have := nc_i p0
        omega
      · show (hI o25 (n + 92) i).toInt = _
        rw [r6 k1 i hi]
        exact (y52 (by omega) i hi).2 k1
  · replace e := bn_e (by rw [y1]; decide) e
    have yes : prB' (ovR (syL σ) (decide (x2.toInt = 3)) (lsP x2.toInt x4.toNatClampNeg) P) = true := prb_e.mpr ⟨e' + 1, by omega, by omega, by
      rw [r0 e' (by omega), show e' - 0 + 1 = e' + 1 by omega] at y2'
      omega⟩
    rw [if_pos yes, if_pos yes]
    obtain ⟨R', F'⟩ := relc_py k Ok R (fw_s FF (fun a i c => c.imp id Or.inl)) k21
    rw [so_e e]
    exact ⟨⟨rfl, R', k21, F'⟩, cpb_f k FF (fun a i c => by unfold CSc PbZ at c; omega) C⟩
end
end
section
/-! the reference's deep boards -/
/-- boards and lists at depth d or deeper, and what the reference writes while it looks -/
def RdW (n : Nat) (h : Hp) (d a i : Nat) : Prop := RS n a i ∨ ∃ e b, d ≤ e ∧ e < 10 ∧ ((hR h (n + 573) e = some b ∧ b ≤ a ∧ a < b + 5) ∨ (hR h (n + 574) e = some b ∧ b ≤ a ∧ a < b + 8))
def FrD (n d : Nat) (h o : Hp) : Prop := FrW (RdW n h d) h o
section
variable {n d : Nat} {g h o v : Hp} {L : Nat → Nat → Int} {P : Pz}
theorem rdw_t {a i : Nat} (k : DyK n h o) (l : a < hS h) (c : RdW n o d a i) : RdW n h d a i := by
  rcases c with c | ⟨e, b, h1, h2, c⟩
  · exact Or.inl c
  · rcases c with ⟨c1, c2, c3⟩ | ⟨c1, c2, c3⟩
    · rcases k.2.2.1 (573, 10, 5, 4100, fsB) (by decide) e b c1 with z | z
      · exact Or.inr ⟨e, b, h1, h2, Or.inl ⟨z, c2, c3⟩⟩
      · omega
    · rcases k.2.2.1 (574, 10, 8, 4200, fsM) (by decide) e b c1 with z | z
      · exact Or.inr ⟨e, b, h1, h2, Or.inr ⟨z, c2, c3⟩⟩
      · omega
theorem frd_t (k : DyK n h o) (A : FrD n d h o) (B : FrD n d o v) : FrD n d h v := ⟨Nat.le_trans A.1 B.1, fun a i l nc => by
  have x := A.2 a i l nc
  have y := B.2 a i (Nat.lt_of_lt_of_le l A.1) (fun c => nc (rdw_t k l c))
  exact ⟨y.1.trans x.1, y.2.trans x.2⟩⟩
theorem frd_m {d' : Nat} (l : d ≤ d') (A : FrD n d' h o) : FrD n d h o := fw_s A (fun a i c => c.imp id (fun ⟨e, b, h1, h2, c⟩ => ⟨e, b, by omega, h2, c⟩))
theorem frd_0 : FrD n d h h := fw_0
theorem frd_s (A : FrW (RS n) h o) : FrD n d h o := fw_s A (fun _ _ c => Or.inl c)
/-- whose cells these are -/
theorem dp_tag {own : Nat → Nat} {b : Nat} (D : DnS n h own) (hd : d < 10) (e : hR h (n + 573) d = some b) : n + 610 ≤ b ∧ b + 5 ≤ hS h ∧ ∀ j, j < 5 → own (b + j) = 4100 + d := by
  obtain ⟨x1, ⟨x2, x3⟩, _⟩ := bk_dy D (q := (573, 10, 5, 4100, fsB)) (by decide) hd e
  exact ⟨x1, x2, x3⟩
theorem dl_tag {own : Nat → Nat} {b : Nat} (D : DnS n h own) (hd : d < 10) (e : hR h (n + 574) d = some b) : n + 610 ≤ b ∧ b + 8 ≤ hS h ∧ (∀ j, j < 8 → own (b + j) = 4200 + d) ∧ ∀ p, p ∈ fsM → hR h b p.1 = some (b + p.2) := by
  obtain ⟨x1, ⟨x2, x3⟩, x4⟩ := bk_dy D (q := (574, 10, 8, 4200, fsM)) (by decide) hd e
  exact ⟨x1, x2, x3, x4⟩
theorem dp_T {own : Nat → Nat} {b : Nat} (D : DnS n h own) (hd : d < 10) (e : hR h (n + 573) d = some b) : ∀ p, p ∈ fsB → hR h b p.1 = some (b + p.2) := (bk_dy D (q := (573, 10, 5, 4100, fsB)) (by decide) hd e).2.2
theorem dp_bk {own : Nat → Nat} {b : Nat} (D : DnS n h own) (hd : d < 10) (e : hR h (n + 573) d = some b) : BkE own h b 4 (4100 + d) := by
  obtain ⟨_, x2, x3⟩ := dp_tag D hd e
  exact Or.inl ⟨⟨x2, x3⟩, by omega, by omega⟩
theorem dl_bk {own : Nat → Nat} {b : Nat} (D : DnS n h own) (hd : d < 10) (e : hR h (n + 574) d = some b) : BkE own h b 7 (4200 + d) := by
  obtain ⟨_, x2, x3, _⟩ := dl_tag D hd e
  exact Or.inl ⟨⟨x2, x3⟩, by omega, by omega⟩
/-- not among what stands deeper -/
theorem nrd {own : Nat → Nat} {d' a i : Nat} (D : DnS n h own) (lo : n + 610 ≤ a) (t : ∀ e, d' ≤ e → e < 10 → ¬ own a = 4100 + e ∧ ¬ own a = 4200 + e) : ¬ RdW n h d' a i := fun c => by
  rcases c with c | ⟨e, b, h1, h2, c⟩
  · unfold RS at c; omega
  · have te := t e h1 h2
    rcases c with ⟨c1, c2, c3⟩ | ⟨c1, c2, c3⟩
    · have y := (dp_tag D h2 c1).2.2 (a - b) (by omega)
      rw [show b + (a - b) = a by omega] at y
      exact te.1 y
    · have y := (dl_tag D h2 c1).2.2.1 (a - b) (by omega)
      rw [show b + (a - b) = a by omega] at y
      exact te.2 y
/-- the position at depth d, the moves at depth d -/
def RbD (n : Nat) (h : Hp) (d : Nat) (P : Pz) : Prop := ∃ b, hR h (n + 573) d = some b ∧ RbA h b P
def RlD (n : Nat) (h : Hp) (d : Nat) (ms : List MvT) : Prop := ∃ b, hR h (n + 574) d = some b ∧ RlA h b ms
theorem rbd_f {d' : Nat} (k : DyK n g h) (k' : DyK n h o) (F : FrD n d' h o) (l : d < d') (hd : d < 10) (A : RbD n h d P) : RbD n o d P := by
  obtain ⟨b, eb, A⟩ := A
  obtain ⟨own, D⟩ := k.1.1
  obtain ⟨x1, x2, x3⟩ := dp_tag D hd eb
  obtain ⟨y1, y2⟩ := brd_f (W := RdW n h d') k k' F (q := (573, 10, 5, 4100, fsB)) (by decide) rfl rfl hd eb (fun j f hj => nrd D (by omega) (fun e h1 h2 => by rw [x3 j hj]; omega)) A
  exact ⟨b, y1, y2⟩
theorem rla_f {b : Nat} {ms : List MvT} (A : RlA h b ms) (I : ∀ j i, j < 8 → hI o (b + j) i = hI h (b + j) i) : RlA o b ms := by
  refine ⟨by show (hI o (b + 0) 0).toInt = _; rw [I 0 0 (by decide)]; exact A.1, fun i hi => ?_⟩
  rw [A.2 i hi]
  unfold rowM
  have q : ∀ k j, b + kof k = b + j → j < 8 → hI o (b + kof k) i = hI h (b + kof k) i := fun k j e hj => by rw [e]; exact I j i hj
  rw [q 66 1 rfl (by decide), q 67 2 rfl (by decide), q 68 3 rfl (by decide), q 69 4 rfl (by decide), q 70 5 rfl (by decide), q 71 6 rfl (by decide), q 72 7 rfl (by decide)]
theorem rld_f {d' : Nat} {ms : List MvT} (k : DyK n g h) (k' : DyK n h o) (F : FrD n d' h o) (l : d < d') (hd : d < 10) (A : RlD n h d ms) : RlD n o d ms := by
  obtain ⟨b, eb, A⟩ := A
  obtain ⟨own, D⟩ := k.1.1
  obtain ⟨x1, x2, x3, _⟩ := dl_tag D hd eb
  exact ⟨b, ks_r k' (q := (574, 10, 8, 4200, fsM)) (by decide) eb, rla_f A (fun j i hj => (F.2 _ _ (by omega) (nrd D (by omega) (fun e h1 h2 => by rw [x3 j hj]; omega))).1)⟩
/-- nothing that was there is written: a new board at most -/
def FrN (h o : Hp) : Prop := FrW (fun _ _ => False) h o
theorem frn_d (A : FrN h o) : FrD n d h o := fw_s A (fun _ _ c => c.elim)
theorem rbd_n (k : DyK n g h) (k' : DyK n h o) (F : FrN h o) (hd : d < 10) (A : RbD n h d P) : RbD n o d P := rbd_f (d' := d + 1) k k' (frn_d F) (by omega) hd A
theorem rld_n {ms : List MvT} (k : DyK n g h) (k' : DyK n h o) (F : FrN h o) (hd : d < 10) (A : RlD n h d ms) : RlD n o d ms := rld_f (d' := d + 1) k k' (frn_d F) (by omega) hd A
/-- the law in force stays -/
theorem rlw_k {W : Nat → Nat → Prop} (k : DyK n g h) (k' : DyK n h o) (F : FrW W h o) (dj : ∀ j i, (j = 513 ∧ (i = 11 ∨ i = 12 ∨ i = 13)) ∨ (516 ≤ j ∧ j ≤ 535) → ¬ W (n + j) i) (R : RLw n h L) : RLw n o L := by
  have s6 := dk_610 k
  have I : ∀ j i, (j = 513 ∧ (i = 11 ∨ i = 12 ∨ i = 13)) ∨ (516 ≤ j ∧ j ≤ 535) → hI o (n + j) i = hI h (n + j) i ∧ hJ o (n + j) i = hJ h (n + j) i := fun j i hj => F.2 _ _ (by omega) (dj j i hj)
  obtain ⟨w, hw, e4, e5, C⟩ := R
  have f4 := k'.1.2.2.2.2.2 4 (Or.inl rfl)
  have f5 := k'.1.2.2.2.2.2 5 (Or.inr rfl)
  refine ⟨w, hw, by rw [f4]; exact e4, by rw [f5]; exact e5, ?_⟩
  have e : ∀ j i, j < 10 → hI o (n + w + j) i = hI h (n + w + j) i ∧ hJ o (n + w + j) i = hJ h (n + w + j) i := fun j i hj => by
    have := I (w + j) i (by omega)
    rw [show n + (w + j) = n + w + j by omega] at this
    exact this
  refine rw0_i (V := vM n 0 0 0 0 0 (n + w)) C (funext fun i => (e 0 i (by decide)).1) (e 0 21 (by decide)).2 (fun q q1 q2 => ?_) (I 513 11 (by omega)).1 (I 513 12 (by omega)).1 (I 513 13 (by omega)).1 ⟨f4.trans e4, lx_e k' hw (f := 3) (b := 1) (by decide), lx_e k' hw (f := 4) (b := 2) (by decide), lx_e k' hw (f := 5) (b := 3) (by decide), lx_e k' hw (f := 6) (b := 4) (by decide), lx_e k' hw (f := 7) (b := 5) (by decide), lx_e k' hw (f := 8) (b := 6) (by decide), lx_e k' hw (f := 9) (b := 7) (by decide), lx_e k' hw (f := 13) (b := 8) (by decide), lx_e k' hw (f := 14) (b := 9) (by decide)⟩
  have : q = 73 ∨ q = 74 ∨ q = 75 ∨ q = 76 ∨ q = 77 ∨ q = 78 ∨ q = 79 ∨ q = 80 ∨ q = 81 := by omega
  rcases this with z | z | z | z | z | z | z | z | z <;> subst z
  · exact funext fun i => (e 1 i (by decide)).1
  · exact funext fun i => (e 2 i (by decide)).1
  · exact funext fun i => (e 3 i (by decide)).1
  · exact funext fun i => (e 4 i (by decide)).1
  · exact funext fun i => (e 5 i (by decide)).1
  · exact funext fun i => (e 6 i (by decide)).1
  · exact funext fun i => (e 7 i (by decide)).1
  · exact funext fun i => (e 8 i (by decide)).1
  · exact funext fun i => (e 9 i (by decide)).1
theorem rdw_lo {a i : Nat} (k : DyK n g h) (l : a < n + 610) (c : RdW n h d a i) : RS n a i := by
  rcases c with c | ⟨e, b, h1, h2, c⟩
  · exact c
  · obtain ⟨own, D⟩ := k.1.1
    rcases c with ⟨c1, c2, c3⟩ | ⟨c1, c2, c3⟩
    · have := (dp_tag D h2 c1).1
      omega
    · have := (dl_tag D h2 c1).1
      omega
theorem rlw_d (k : DyK n g h) (k' : DyK n h o) (F : FrD n d h o) (R : RLw n h L) : RLw n o L := rlw_k k k' F (fun j i hj c => by
  have := rdw_lo k (by omega) c
  unfold RS at this
  omega) R
/-- a deep board, made at need -/
theorem db_d {x : Int32} {o : Nat × Hp} (k : DyK n g h) (ix : x.toInt = (d : Int)) (e : sX15_deepBoard h (n + 513) x = some o) : (d < 10 ∧ x.toNatClampNeg = d) ∧ DyK n g o.2 ∧ DyK n h o.2 ∧ FrN h o.2 ∧ hR o.2 (n + 573) d = some o.1 ∧ ∃ l, hR o.2 (n + 574) d = some l := by
  have kk := dk_X15_deepBoard k e
  have kz := dk_X15_deepBoard (dk_self k) e
  obtain ⟨a, b, E, G⟩ := db_g k.1 k.2.1 e
  have xd : x.toNatClampNeg = d := by omega
  rw [xd] at G a
  refine ⟨⟨a, xd⟩, kk, kz, ?_, G.2.1, ?_⟩
  · rcases G.2.2 with ⟨_, y⟩ | ⟨_, _, _, s, W, _⟩
    · rw [y]; exact fw_0
    · exact ⟨s, fun y j l _ => W y j l⟩
  · cases q : hR o.2 (n + 574) d with
    | some l => exact ⟨l, rfl⟩
    | none =>
      have := (E d a).mpr q
      rw [G.2.1] at this
      exact nomatch this
/-- what the reference stands for stays -/
theorem relr_d {j : Nat} {σ : Sy} (k : DyK n g h) (k' : DyK n h o) (F : FrD n 0 h o) (lg : ∀ g, g < 8 → syG σ g ≤ 300) (R : RelR n j h σ) : RelR n j o σ := by
  obtain ⟨R1, R2, R3, R4, R5, R6⟩ := R
  obtain ⟨own, D⟩ := k.1.1
  have tg : ∀ {q : Nat × Nat × Nat × Nat × List (Nat × Nat)} {i a : Nat}, q ∈ fam → (q.2.2.2.1 + q.2.1 ≤ 4100 ∨ 5000 ≤ q.2.2.2.1) → i < q.2.1 → hR h (n + q.1) i = some a → ∀ j f, j < q.2.2.1 → ¬ RdW n h 0 (a + j) f := fun {q i a} hq t hi e j f hj => by
    obtain ⟨x1, ⟨x2, x3⟩, _⟩ := bk_dy D hq hi e
    exact nrd D (by omega) (fun e h1 h2 => by rw [x3 j hj]; omega)
  obtain ⟨x1, x2, x3⟩ := relr_g k k' F (fun j i hj c => by
    have := rdw_lo k (by unfold rFt at hj; omega) c
    unfold RS at this
    unfold rFt at hj
    omega) (fun q a hq e lo hi => tg (q := (583, 3000, 5, 8000, fsB)) (by decide) (by decide) hq e) R1 R4 R5
  exact ⟨x1, fun p hp => rpi_f k k' F hp (fun c => by
    have := rdw_lo k (by omega) c
    unfold RS at this
    omega) (fun a e lo hi => tg (q := (536, 60, 5, 4000, fsB)) (by decide) (by decide) hp e) (R2 p hp), fun g' hg => rgi_f k k' F hg (lg g' hg) (fun c => by
    have := rdw_lo k (by omega) c
    unfold RS at this
    omega) (fun q hq c => by
    have := rdw_lo k (by omega) c
    unfold RS at this
    omega) (fun q a hq e lo hi => tg (q := (580, 2408, 5, 5000, fsB)) (by decide) (by decide) (by show _ < 2408; omega) e) (R3 g' hg), x2, x3, rse_f k F (fun c => by
    have := rdw_lo k (by omega) c
    unfold RS at this
    omega) R6⟩
theorem ser_d (k : DyK n g h) (F : FrD n d h o) : SerN n h o := by
  have s6 := dk_610 k
  have q : ∀ a i, a = n + 537 ∨ (a = n + 513 ∧ i = 16) → hI o a i = hI h a i := fun a i hh => (F.2 a i (by omega) (fun c => by
    have := rdw_lo k (by omega) c
    unfold RS at this
    omega)).1
  exact ⟨by rw [q _ _ (Or.inr ⟨rfl, rfl⟩)]; exact Int.le_refl _, fun p _ => Or.inl (q _ _ (Or.inl rfl))⟩
theorem frr_d (k : DyK n g h) (F : FrD n 0 h o) : FrR n h o := ⟨fw_s F (fun a i c => by
  rcases c with c | ⟨e, b, h1, h2, c⟩
  · exact Or.inl (rs_c c)
  · rcases c with ⟨c1, c2, c3⟩ | ⟨c1, c2, c3⟩
    · exact Or.inr ⟨(573, 10, 5, 4100, fsB), by decide, by decide, e, b, h2, c1, c2, c3⟩
    · exact Or.inr ⟨(574, 10, 8, 4200, fsM), by decide, by decide, e, b, h2, c1, c2, c3⟩), ser_d k F⟩
end
section
variable {n d F : Nat} {g h : Hp} {L : Nat → Nat → Int} {P : Pz} {o : Int32 × Hp} {x : Int32}
/-- the LEGAL moves at depth d -/
theorem leg_d {b l : Nat} {o : Hp} (OK : LwOk L) (Oz : PzOk L P) (k : DyK n g h) (R : RLw n h L) (hd : d < 10) (eb : hR h (n + 573) d = some b) (A : RbA h b P) (el : hR h (n + 574) d = some l) (e : sX15_legal F h (n + 513) b l = some o) : DyK n g o ∧ DyK n h o ∧ FrD n d h o ∧ RlD n o d (lgL L P) ∧ RbD n o d P := by
  obtain ⟨own, D⟩ := k.1.1
  obtain ⟨w, hw, _, _, C⟩ := R
  obtain ⟨f, k1, A1⟩ := leg_m k D.1 hw (dp_bk D hd eb) (dl_bk D hd el) (by omega) OK.1 OK.2.1 Oz C A (dl_tag D hd el).2.2.2 e
  obtain ⟨_, k2, _⟩ := leg_m (dk_self k) D.1 hw (dp_bk D hd eb) (dl_bk D hd el) (by omega) OK.1 OK.2.1 Oz C A (dl_tag D hd el).2.2.2 e
  obtain ⟨t1, t2, t3⟩ := dp_tag D hd eb
  obtain ⟨u1, u2, u3, _⟩ := dl_tag D hd el
  have eb' := ks_r k2 (q := (573, 10, 5, 4100, fsB)) (by decide) eb
  obtain ⟨own', D'⟩ := k2.1.1
  refine ⟨k1, k2, fw_s f (fun a i c => c.imp id (fun c => ⟨d, l, Nat.le_refl _, hd, Or.inr ⟨el, c⟩⟩)), ⟨l, ks_r k2 (q := (574, 10, 8, 4200, fsM)) (by decide) el, A1⟩, b, eb', ?_⟩
  refine rba_f A (dp_T D' hd eb') (fun j i hj => f.2 _ _ (by omega) (fun c => ?_))
  rcases c with c | c
  · unfold RS at c; omega
  · have y1 := t3 j hj
    have y2 := u3 (b + j - l) (by omega)
    rw [show l + (b + j - l) = b + j by omega] at y2
    omega
/-- how the position at depth d ends -/
theorem end_d {b l : Nat} (OK : LwOk L) (Oz : PzOk L P) (k : DyK n g h) (R : RLw n h L) (hd : d < 10) (eb : hR h (n + 573) d = some b) (A : RbA h b P) (el : hR h (n + 574) d = some l) (M : RlA h l (lgL L P)) (e : sX15_endedBy F h (n + 513) b (hI h l 0) = some o) : DyK n g o.2 ∧ DyK n h o.2 ∧ FrW (RS n) h o.2 ∧ o.1.toInt = (enE L P).1 ∧ (0 < (enE L P).1 → (hI o.2 (n + 513) 29).toInt = (enE L P).2) := by
  obtain ⟨own, D⟩ := k.1.1
  obtain ⟨w, hw, _, _, C⟩ := R
  obtain ⟨f, k1, v1, v2⟩ := end_m k D.1 hw (dp_bk D hd eb) (by omega) OK.1 OK.2.1 Oz C A M.1 e
  obtain ⟨_, k2, _⟩ := end_m (dk_self k) D.1 hw (dp_bk D hd eb) (by omega) OK.1 OK.2.1 Oz C A M.1 e
  exact ⟨k1, k2, f, v1, v2⟩
/-- a move from depth d to depth d + 1 -/
theorem mk_d {b l c : Nat} {v : MvT} {i : Nat} {o : Hp} (OK : LwOk L) (Oz : PzOk L P) (k : DyK n g h) (R : RLw n h L) (hd : d + 1 < 10) (eb : hR h (n + 573) d = some b) (A : RbA h b P) (el : hR h (n + 574) d = some l) (M : RlA h l (lgL L P)) (ec : hR h (n + 573) (d + 1) = some c) (ix : x.toNatClampNeg = i) (ev : (lgL L P)[i]? = some v) (e : sX15_make F h (n + 513) b l x c = some o) : DyK n g o ∧ DyK n h o ∧ FrD n (d + 1) h o ∧ RbD n o (d + 1) (zAll L P v) := by
  obtain ⟨own, D⟩ := k.1.1
  obtain ⟨w, hw, _, _, C⟩ := R
  have Gv := lg_gd OK.1 OK.2.1 Oz ev
  have li : i < (lgL L P).length := by
    rcases Nat.lt_or_ge i (lgL L P).length with z | z
    · exact z
    · rw [List.getElem?_eq_none z] at ev; exact nomatch ev
  have row : rwA h l x.toNatClampNeg = v := by
    have := M.2 i li
    rw [ev] at this
    rw [ix]
    exact (Option.some.inj this).symm
  obtain ⟨f, k1, A1⟩ := mk_m k D.1 hw (dp_bk D (by omega) eb) (dp_bk D hd ec) (dl_bk D (by omega) el) (by omega) OK.1 OK.2.1 Oz Gv C A (dl_tag D (by omega) el).2.2.2 (dp_T D hd ec) row e
  obtain ⟨_, k2, _⟩ := mk_m (dk_self k) D.1 hw (dp_bk D (by omega) eb) (dp_bk D hd ec) (dl_bk D (by omega) el) (by omega) OK.1 OK.2.1 Oz Gv C A (dl_tag D (by omega) el).2.2.2 (dp_T D hd ec) row e
  exact ⟨k1, k2, fw_s f (fun a i c' => c'.imp id (fun c' => ⟨d + 1, c, Nat.le_refl _, hd, Or.inl ⟨ec, c'⟩⟩)), c, ks_r k2 (q := (573, 10, 5, 4100, fsB)) (by decide) ec, A1⟩
end
end
section
/-! ROWS of the reference -/
section
variable {n d F D : Nat} {g h : Hp} {L : Nat → Nat → Int} {P Q : Pz} {v : MvT} {o : Int32 × Hp} {x1 x2 x3 x4 : Int32} {ser : Bool}
theorem rba_fl {b : Nat} {y : Int32} (A : RbA h b Q) (ey : y.toInt = ((1 - pzS Q : Nat) : Int)) : RbA (wI (wI h b 1 y) b 3 0) b (fl2 Q) := by
  obtain ⟨c1, c2, c3, c4, c5, c6, c7, c8, c9⟩ := A
  have q : ∀ a i, ¬ (a = b ∧ (i = 1 ∨ i = 3)) → hI (wI (wI h b 1 y) b 3 0) a i = hI h a i := fun a i z => by
    rw [r_I, if_neg (fun w => z ⟨w.1, Or.inr w.2⟩), r_I, if_neg (fun w => z ⟨w.1, Or.inl w.2⟩)]
  refine ⟨c1, fun s hs => ?_, ?_, fun q hq => c4 q hq, ?_, fun i hi => absurd hi (Nat.not_lt_zero _), fun d hd => ?_, fun d hd => ?_, ?_⟩
  · show (hI _ (b + 1) s).toInt = _
    rw [q _ _ (by omega)]; exact c2 s hs
  · show (hI _ (b + 0) 1).toInt = ((1 - pzS Q : Nat) : Int)
    show (hI (wI (wI h b 1 y) b 3 0) b 1).toInt = _
    rw [rI_o (by decide), rI_s]; exact ey
  · show (hI (wI (wI h b 1 y) b 3 0) b 3).toInt = ((0 : Nat) : Int)
    rw [rI_s]; rfl
  · show (hI _ (b + 3) d).toInt = _
    rw [q _ _ (by omega)]; exact c7 d hd
  · show (hI _ (b + 4) d).toInt = _
    rw [q _ _ (by omega)]; exact c8 d hd
  · show (hI (wI (wI h b 1 y) b 3 0) b 7).toInt = pzK Q
    rw [q _ _ (by omega)]; exact c9
/-- the royal man at depth d is attacked -/
theorem ryh_d {b : Nat} {o2 : Int32 × Hp} (OK : LwOk L) (Oz : PzOk L Q) (k : DyK n g h) (R : RLw n h L) (A : RbA h b Q) (e : sX15_royalOf F h (n + 513) b (hI h b 1) = some o2) : o2.2 = h ∧ RoA o2.1 Q.1 (L 10 0) (pzS Q) := by
  obtain ⟨w, hw, _, _, C⟩ := R
  have W0 : RW0 (vM n 0 b 0 0 0 (n + w)) h L := rfl_m.mpr C
  have A' : RbP (vM n 0 b 0 0 0 (n + w)) h Q := rba_m.mpr A
  have sd : (hI h b 1).toInt = (pzS Q : Int) := A.2.2.1
  have lk := OK.2.1.2.1
  have l12 := OK.1.2.2.1
  exact roy_r (V := vM n 0 b 0 0 0 (n + w)) OK.1 Oz.1 ⟨W0.1, W0.2, A'.1.1, A'.2.1⟩ (by omega) sd Oz.2.2.1 e
theorem tb_d (OK : LwOk L) (Oz : PzOk L Q) (k : DyK n h h) (R : RLw n h L) (A : RbD n h d Q) (ix : x1.toInt = (d : Int)) (e : sX15_turnsBack F h (n + 513) x1 = some o) : DyK n h o.2 ∧ FrD n d h o.2 ∧ ((o.1 = 0 ∧ (0 < (enE L Q).1 ∨ RyH L Q.1 (pzS Q))) ∨ (¬ o.1 = 0 ∧ ¬ (0 < (enE L Q).1 ∨ RyH L Q.1 (pzS Q)) ∧ RbD n o.2 d (fl2 Q))) := by
  have z1 : (1 : Int32).toInt = 1 := rfl
  have z0 : (0 : Int32).toInt = 0 := rfl
  unfold sX15_turnsBack at e
  obtain ⟨o1, e1, e⟩ := cl_s e
  obtain ⟨⟨d10, xd⟩, k1, _, f1, eb, l, el⟩ := db_d k ix e1
  obtain ⟨b', eb', A1⟩ := rbd_n k k1 f1 d10 A
  have y := r_eq eb eb'
  subst y
  have R1 := rlw_d (d := d) k k1 (frn_d f1) R
  unfold sX15_turnsBack_5 at e
  replace e := ce_e (dk_e (a := 513) (f := 34) (b := 574) k1 (by decide +kernel)) e
  replace e := gg_e e
  replace e := ce_e (show hR o1.2 (n + 574) x1.toNatClampNeg = some l by rw [xd]; exact el) e
  obtain ⟨o4, e4, en0⟩ := cl_s e
  obtain ⟨k4, k4', f4, ⟨l', el', M4⟩, b4, eb4, A4⟩ := leg_d OK Oz k1 R1 d10 eb A1 el e4
  have F4 : FrD n d h o4 := frd_t k1 (frn_d f1) f4
  have R4 := rlw_d k1 k4' f4 R1
  have eb4' : hR o4 (n + 573) d = some o1.1 := ks_r k4' (q := (573, 10, 5, 4100, fsB)) (by decide) eb
  have yb : b4 = o1.1 := r_eq eb4' eb4
  subst yb
  have el4 : hR o4 (n + 574) d = some l := ks_r k4' (q := (574, 10, 8, 4200, fsM)) (by decide) el
  have yl : l' = l := r_eq el4 el'
  subst yl
  replace e := en0
  unfold sX15_turnsBack_17 sX15_turnsBack_26 at e
  obtain ⟨o5, e5, e⟩ := cl_s e
  obtain ⟨h5, ro⟩ := ryh_d OK Oz k4 R4 A4 e5
  rw [h5] at e
  replace e := ce_e (dk_e (a := 513) (f := 34) (b := 574) k4 (by decide +kernel)) e
  replace e := gg_e e
  replace e := ce_e (show hR o4 (n + 574) x1.toNatClampNeg = some l' by rw [xd]; exact el4) e
  obtain ⟨o6, e6, e⟩ := cl_s e
  obtain ⟨k6, k6', f6, v6, _⟩ := end_d OK Oz k4 R4 d10 eb4' A4 el4 M4 e6
  have F6 : FrD n d h o6.2 := frd_t k4 F4 (frd_s f6)
  have R6 := rlw_d (d := d) k4 k6' (frd_s f6) R4
  have eb6 : hR o6.2 (n + 573) d = some o1.1 := ks_r k6' (q := (573, 10, 5, 4100, fsB)) (by decide) eb4'
  obtain ⟨b6, eb6', A6⟩ := rbd_f (d' := d + 1) k4 k6' (frd_s f6) (by omega) d10 ⟨_, eb4', A4⟩
  have yb6 := r_eq eb6 eb6'
  subst yb6
  unfold sX15_turnsBack_41 sX15_turnsBack_61 sX15_turnsBack_64 sX15_turnsBack_66 at e
  rcases br_s e with ⟨c, e⟩ | ⟨c, e⟩
  · have c := lt_i c
    rw [so_e e]
    exact ⟨k6, F6, Or.inl ⟨rfl, Or.inl (by omega)⟩⟩
  have c := nlt_i c
  have en : ¬ 0 < (enE L Q).1 := by omega
  -- it turns back
  have back : ∀ {u : Hp}, DyK n h u → FrD n d h u → hR u (n + 573) d = some o1.1 → RbA u o1.1 Q → ¬ RyH L Q.1 (pzS Q) → some ((1 : Int32), wI (wI u o1.1 1 ((1 : Int32) - hI u o1.1 1)) o1.1 3 0) = some o → DyK n h o.2 ∧ FrD n d h o.2 ∧ ((o.1 = 0 ∧ (0 < (enE L Q).1 ∨ RyH L Q.1 (pzS Q))) ∨ (¬ o.1 = 0 ∧ ¬ (0 < (enE L Q).1 ∨ RyH L Q.1 (pzS Q)) ∧ RbD n o.2 d (fl2 Q))) := fun {u} ku fu eu Au ny e => by
    have sd : (hI u o1.1 1).toInt = (pzS Q : Int) := Au.2.2.1
    have s2 := Oz.2.2.1
    have vy : ((1 : Int32) - hI u o1.1 1).toInt = ((1 - pzS Q : Nat) : Int) := by rw [ts (by rw [sd, z1]; omega), sd, z1]; omega
    rw [so_e e]
    refine ⟨dk_wI (dk_wI ku), frd_t ku fu ?_, Or.inr ⟨show ¬ (1 : Int32) = 0 by decide, fun z => z.elim en ny, o1.1, eu, rba_fl Au vy⟩⟩
    exact fw_wI (fw_wI fw_0 (Or.inr ⟨d, o1.1, Nat.le_refl _, d10, Or.inl ⟨eu, by omega, by omega⟩⟩)) (Or.inr ⟨d, o1.1, Nat.le_refl _, d10, Or.inl ⟨eu, by omega, by omega⟩⟩)
  rcases br_s e with ⟨cr, e⟩ | ⟨cr, e⟩
  · refine back k6 F6 eb6 A6 (fun z => ?_) e
    obtain ⟨s, s1, s2, s3, _⟩ := z
    rcases ro with ⟨_, r2⟩ | ⟨r1, _⟩
    · exact r2 s s1 s2 s3
    · rw [cr] at r1; exact absurd r1.1 (by decide)
  · have ro' := ro.resolve_left (fun z => cr z.1)
    obtain ⟨o3, e3, e⟩ := cl_s e
    have sd : (hI o6.2 o1.1 1).toInt = (pzS Q : Int) := A6.2.2.1
    have s2 := Oz.2.2.1
    have vy : ((1 : Int32) - hI o6.2 o1.1 1).toInt = 1 - (pzS Q : Int) := by rw [ts (by rw [sd, z1]; omega), sd, z1]
    obtain ⟨own6, D6⟩ := k6.1.1
    obtain ⟨w6, hw6, _, _, C6⟩ := R6
    obtain ⟨f3, k3, y3⟩ := att_m k6 D6.1 hw6 (dp_bk D6 d10 eb6) (by omega) OK.1 Oz.1 C6 A6 ro'.1.1 ⟨by omega, by omega⟩ e3
    obtain ⟨_, k3', _⟩ := att_m (dk_self k6) D6.1 hw6 (dp_bk D6 d10 eb6) (by omega) OK.1 Oz.1 C6 A6 ro'.1.1 ⟨by omega, by omega⟩ e3
    rw [vy] at y3
    have U := Oz.2.1
    have ry : RyH L Q.1 (pzS Q) ↔ AttP L Q.1 (1 - (pzS Q : Int)) o5.1.toNatClampNeg := by
      have n5 := nc_i ro'.1.1
      have lt5 : o5.1.toNatClampNeg < 64 := by have := ro'.1.2; omega
      constructor
      · rintro ⟨s, s1, s2', s3, s4⟩
        have : s = o5.1.toNatClampNeg := U s2' (pzS Q) s o5.1.toNatClampNeg s2 s1 lt5 s3 ro'.2.2
        rw [← this]; exact s4
      · intro z
        exact ⟨_, lt5, ro'.2.1, ro'.2.2, z⟩
    have F3 : FrD n d h o3.2 := frd_t k6 F6 (frd_s f3)
    rcases y3 with ⟨y1, y2⟩ | ⟨y1, y2⟩
    · replace e := bp_e y1 e
      have eb3 : hR o3.2 (n + 573) d = some o1.1 := ks_r k3' (q := (573, 10, 5, 4100, fsB)) (by decide) eb6
      obtain ⟨b7, eb7, A7⟩ := rbd_f (d' := d + 1) k6 k3' (frd_s f3) (by omega) d10 ⟨o1.1, eb6, A6⟩
      have yb7 := r_eq eb3 eb7
      subst yb7
      exact back k3 F3 eb3 A7 (fun z => y2 (ry.mp z)) e
    · replace e := bn_e (by rw [y1]; decide) e
      rw [so_e e]
      exact ⟨k3, F3, Or.inl ⟨rfl, Or.inr (ry.mpr y2)⟩⟩
/-- a number counted up to a bound -/
def Cap (x : Int) (t k : Nat) : Prop := 0 ≤ x ∧ x ≤ 103000 * (k : Int) + 1 ∧ (t ≤ 100000 → x = (t : Int)) ∧ (100000 < t → 100000 < x)
def CrOK (n F : Nat) (L : Nat → Nat → Int) (ser : Bool) (D : Nat) : Prop := ∀ {h : Hp} {P : Pz} {d k : Nat} {x1 x2 : Int32} {o : Int32 × Hp}, DyK n h h → RLw n h L → RbD n h d P → PzOk L P → d + k ≤ 9 → x1.toInt = (d : Int) → x2.toInt = (k : Int) → (qX15_countRows F D) h (n + 513) x1 x2 (if ser = true then 1 else 0) = some o → DyK n h o.2 ∧ FrD n d h o.2 ∧ Cap o.1.toInt (rwN L ser k P) k
theorem cr_46 {h0 : Hp} {k b l : Nat} (OK : LwOk L) (C : CrOK n F L ser D) (Oz : PzOk L P) (hd : d + k ≤ 9) (k2 : 2 ≤ k) (i1 : x1.toInt = (d : Int)) (i2 : x2.toInt = (k : Int)) : ∀ (f : Nat) {u : Hp} {x6 x7 : Int32} {i : Nat}, DyK n h0 u → FrD n d h0 u → RLw n u L → (hR u (n + 573) d = some b ∧ RbA u b P) → (hR u (n + 574) d = some l ∧ RlA u l (lgL L P)) → x7.toInt = (i : Int) → i ≤ (lgL L P).length → Cap x6.toInt (smT (mvG L P (fun v => oZ (nxP L ser P v) (fun Q => rwN L ser (k - 1) Q))) i) k → sX15_countRows_46 F (qX15_countRows F D) f u (n + 513) x1 x2 (if ser = true then 1 else 0) b l x6 x7 = some o → DyK n h0 o.2 ∧ FrD n d h0 o.2 ∧ Cap o.1.toInt (smT (mvG L P (fun v => oZ (nxP L ser P v) (fun Q => rwN L ser (k - 1) Q))) (lgL L P).length) k := by
  have z1 : (1 : Int32).toInt = 1 := rfl
  have zM : (100000 : Int32).toInt = 100000 := rfl
  have i1' : (x1 + (1 : Int32)).toInt = ((d + 1 : Nat) : Int) := by rw [ta (by omega), i1, z1]; omega
  have i2' : (x2 - (1 : Int32)).toInt = ((k - 1 : Nat) : Int) := by rw [ts (by omega), i2, z1]; omega
  have ln := lgl_le OK.1 OK.2.1 Oz
  intro f
  induction f with
  | zero => intro u x6 x7 i _ _ _ _ _ _ _ _ e; exact absurd e (by rw [sX15_countRows_46]; exact fun z => nomatch z)
  | succ f ih =>
    intro u x6 x7 i ku fu Ru Ab Al i7 il Ca e
    rw [sX15_countRows_46] at e
    unfold sX15_countRows_117 at e
    have m0 : (hI u l 0).toInt = ((lgL L P).length : Int) := Al.2.1
    rcases br_s e with ⟨c, e⟩ | ⟨c, e⟩
    · have c := le_i c
      have ii : i = (lgL L P).length := by omega
      rw [so_e e, ← ii]
      exact ⟨ku, fu, Ca⟩
    have c := nle_i c
    have li : i < (lgL L P).length := by omega
    rcases br_s e with ⟨c6, e⟩ | ⟨c6, e⟩
    · -- more than enough
      have c6 := lt_i c6
      rw [so_e e]
      have m : smT (mvG L P (fun v => oZ (nxP L ser P v) (fun Q => rwN L ser (k - 1) Q))) i ≤ smT (mvG L P (fun v => oZ (nxP L ser P v) (fun Q => rwN L ser (k - 1) Q))) (lgL L P).length := smt_m il
      refine ⟨ku, fu, Ca.1, Ca.2.1, fun z => ?_, fun _ => by show 100000 < x6.toInt; omega⟩
      have := Ca.2.2.1 (by omega)
      show x6.toInt = _
      omega
    have c6 := nlt_i c6
    obtain ⟨v, ev⟩ : ∃ v, (lgL L P)[i]? = some v := ⟨_, List.getElem?_eq_getElem li⟩
    obtain ⟨o3, e3, e⟩ := cl_s e
    obtain ⟨⟨d10, _⟩, k3, k3', f3, ec, _⟩ := db_d ku i1' e3
    have F3 : FrD n d h0 o3.2 := frd_t ku fu (frn_d f3)
    have R3 := rlw_d (d := d) ku k3' (frn_d f3) Ru
    obtain ⟨b3, eb3, A3⟩ := rbd_n ku k3' f3 (d := d) (by omega) ⟨b, Ab⟩
    have eb3' : hR o3.2 (n + 573) d = some b := ks_r k3' (q := (573, 10, 5, 4100, fsB)) (by decide) Ab.1
    have yb3 := r_eq eb3' eb3
    subst yb3
    obtain ⟨l3, el3, M3⟩ := rld_n ku k3' f3 (d := d) (by omega) ⟨l, Al⟩
    have el3' : hR o3.2 (n + 574) d = some l := ks_r k3' (q := (574, 10, 8, 4200, fsM)) (by decide) Al.1
    have yl3 := r_eq el3' el3
    subst yl3
    unfold sX15_countRows_78 sX15_countRows_81 at e
    obtain ⟨o4, e4, e⟩ := cl_s e
    have c7 := nc_i (x := x7) (by omega)
    obtain ⟨k4, k4', f4, A4⟩ := mk_d OK Oz k3 R3 d10 eb3' A3 el3' M3 ec (show x7.toNatClampNeg = i by omega) ev e4
    have Gv := lg_gd OK.1 OK.2.1 Oz ev
    have Oq := pz_ok OK.1 OK.2.1 Oz Gv
    have F4 : FrD n d h0 o4 := frd_t k3 F3 (frd_m (by omega) f4)
    have R4 := rlw_d k3 k4' f4 R3
    have B4 := rbd_f k3 k4' f4 (d := d) (by omega) (by omega) ⟨b3, eb3', A3⟩
    have L4 := rld_f k3 k4' f4 (d := d) (by omega) (by omega) ⟨l3, el3', M3⟩
    have s1 : smT (mvG L P (fun v => oZ (nxP L ser P v) (fun Q => rwN L ser (k - 1) Q))) (i + 1) = smT (mvG L P (fun v => oZ (nxP L ser P v) (fun Q => rwN L ser (k - 1) Q))) i + oZ (nxP L ser P v) (fun Q => rwN L ser (k - 1) Q) := by
      show smT _ i + mvG L P _ i = _
      rw [mvg_s ev]
    have i7' : (x7 + (1 : Int32)).toInt = ((i + 1 : Nat) : Int) := by rw [ta (by omega), i7, z1]; omega
    -- back at this depth, y more
    have nxt : ∀ {w : Hp} {y : Int32}, DyK n h0 w → DyK n o4 w → FrD n (d + 1) o4 w → y.toInt = y.toInt → Cap y.toInt (smT (mvG L P (fun v => oZ (nxP L ser P v) (fun Q => rwN L ser (k - 1) Q))) (i + 1)) k → sX15_countRows_111 F (qX15_countRows F D) (sX15_countRows_46 F (qX15_countRows F D) f) w (n + 513) x1 x2 (if ser = true then 1 else 0) b3 l3 y x7 = some o → DyK n h0 o.2 ∧ FrD n d h0 o.2 ∧ Cap o.1.toInt (smT (mvG L P (fun v => oZ (nxP L ser P v) (fun Q => rwN L ser (k - 1) Q))) (lgL L P).length) k := fun {w y} kw kw' fw _ Cy e => by
      unfold sX15_countRows_111 at e
      replace e := nx_e e
      obtain ⟨b5, eb5, A5⟩ := rbd_f k4 kw' fw (d := d) (by omega) (by omega) B4
      obtain ⟨l5, el5, M5⟩ := rld_f k4 kw' fw (d := d) (by omega) (by omega) L4
      have kw3 : DyK n o3.2 w := dk_t k4' kw'
      have yb5 : b5 = b3 := r_eq (ks_r kw3 (q := (573, 10, 5, 4100, fsB)) (by decide) eb3') eb5
      have yl5 : l5 = l3 := r_eq (ks_r kw3 (q := (574, 10, 8, 4200, fsM)) (by decide) el3') el5
      subst yb5
      subst yl5
      exact ih (i := i + 1) kw (frd_t k4 F4 (frd_m (by omega) fw)) (rlw_d k4 kw' fw R4) ⟨eb5, A5⟩ ⟨el5, M5⟩ i7' (by omega) Cy e
    -- one child
    have chd : ∀ {w : Hp} {Q : Pz}, DyK n h0 w → DyK n o4 w → FrD n (d + 1) o4 w → RbD n w (d + 1) Q → PzOk L Q → nxP L ser P v = some Q → sX15_countRows_95 F (qX15_countRows F D) (sX15_countRows_46 F (qX15_countRows F D) f) w (n + 513) x1 x2 (if ser = true then 1 else 0) b3 l3 x6 x7 = some o → DyK n h0 o.2 ∧ FrD n d h0 o.2 ∧ Cap o.1.toInt (smT (mvG L P (fun v => oZ (nxP L ser P v) (fun Q => rwN L ser (k - 1) Q))) (lgL L P).length) k := fun {w Q} kw kw' fw Bw Ow nx e => by
      unfold sX15_countRows_95 sX15_countRows_108 at e
      obtain ⟨o1, e1, e⟩ := cl_s e
      obtain ⟨k1, f1, C1⟩ := C (dk_self kw) (rlw_d k4 kw' fw R4) Bw Ow (by omega) i1' i2' e1
      replace e := nx_e e
      rw [nx] at s1
      have s1 : smT (mvG L P (fun v => oZ (nxP L ser P v) (fun Q => rwN L ser (k - 1) Q))) (i + 1) = smT (mvG L P (fun v => oZ (nxP L ser P v) (fun Q => rwN L ser (k - 1) Q))) i + rwN L ser (k - 1) Q := s1
      obtain ⟨a1, a2, a3, a4⟩ := Ca
      obtain ⟨b1, b2, b3', b4⟩ := C1
      have sl : smT (mvG L P (fun v => oZ (nxP L ser P v) (fun Q => rwN L ser (k - 1) Q))) i ≤ 100000 := by
        rcases Nat.lt_or_ge 100000 (smT (mvG L P (fun v => oZ (nxP L ser P v) (fun Q => rwN L ser (k - 1) Q))) i) with z | z
        · have := a4 z; omega
        · exact z
      have a3 := a3 sl
      have sum : (x6 + o1.1).toInt = x6.toInt + o1.1.toInt := ta (by omega)
      refine nxt (dk_t kw k1) (dk_t kw' k1) (frd_t kw' fw f1) rfl ?_ e
      rw [sum, s1]
      refine ⟨by omega, by omega, fun z => ?_, fun z => ?_⟩
      · have := b3' (by omega)
        omega
      · rcases Nat.lt_or_ge 100000 (rwN L ser (k - 1) Q) with y | y
        · have := b4 y; omega
        · have := b3' y; omega
    cases ser with
    | false =>
      replace e := bp_e rfl e
      exact chd k4 (dk_self k4) frd_0 A4 Oq rfl e
    | true =>
      replace e := bn_e (by decide) e
      obtain ⟨o2, e2, e⟩ := cl_s e
      obtain ⟨k2', f2, y2⟩ := tb_d OK Oq (dk_self k4) R4 A4 i1' e2
      unfold sX15_countRows_92 at e
      rcases y2 with ⟨y1, y3⟩ | ⟨y1, y3, y4⟩
      · replace e := bp_e y1 e
        have nx : nxP L true P v = none := by
          unfold nxP
          rw [if_pos rfl, if_pos (prb_e.mpr y3)]
        rw [nx] at s1
        have s1 : smT (mvG L P (fun v => oZ (nxP L true P v) (fun Q => rwN L true (k - 1) Q))) (i + 1) = smT (mvG L P (fun v => oZ (nxP L true P v) (fun Q => rwN L true (k - 1) Q))) i + 0 := s1
        rw [Nat.add_zero] at s1
        exact nxt (dk_t k4 k2') k2' f2 rfl (by rw [s1]; exact Ca) e
      · replace e := bn_e y1 e
        have nx : nxP L true P v = some (fl2 (zAll L P v)) := by
          unfold nxP
          rw [if_pos rfl, if_neg (fun z => y3 (prb_e.mp z))]
        exact chd (dk_t k4 k2') k2' f2 y4 (fl2_ok Oq) nx e
theorem cr_all (OK : LwOk L) : ∀ D, CrOK n F L ser D := by
  intro D
  induction D with
  | zero => intro h P d k x1 x2 o _ _ _ _ _ _ _ e; exact nomatch e
  | succ D ih =>
    intro h P d kk x1 x2 o k R A Oz hd i1 i2 e
    have z0 : (0 : Int32).toInt = 0 := rfl
    have z1 : (1 : Int32).toInt = 1 := rfl
    have e : oX15_countRows F (qX15_countRows F D) h (n + 513) x1 x2 (if ser = true then 1 else 0) = some o := e
    unfold oX15_countRows at e
    rcases br_s e with ⟨c, e⟩ | ⟨c, e⟩
    · have k0 : kk = 0 := by rw [c, z0] at i2; omega
      subst k0
      rw [so_e e]
      exact ⟨k, frd_0, by show (0 : Int) ≤ 1; decide, by show (1 : Int) ≤ 103000 * ((0 : Nat) : Int) + 1; decide, fun _ => rfl, fun z => absurd z (by show ¬ 100000 < 1; decide)⟩
    have k1 : 1 ≤ kk := by
      have : ¬ x2.toInt = 0 := fun z => c (Int32.toInt_inj.mp (by rw [z, z0]))
      omega
    have ln := lgl_le OK.1 OK.2.1 Oz
    obtain ⟨o2, e2, e⟩ := cl_s e
    obtain ⟨⟨d10, xd⟩, k2, _, f2, eb, l, el⟩ := db_d k i1 e2
    obtain ⟨b', eb', A2⟩ := rbd_n k k2 f2 d10 A
    have y := r_eq eb eb'
    subst y
    have R2 := rlw_d (d := d) k k2 (frn_d f2) R
    unfold sX15_countRows_11 at e
    replace e := ce_e (dk_e (a := 513) (f := 34) (b := 574) k2 (by decide +kernel)) e
    replace e := gg_e e
    replace e := ce_e (show hR o2.2 (n + 574) x1.toNatClampNeg = some l by rw [xd]; exact el) e
    obtain ⟨o4, e4, e⟩ := cl_s e
    obtain ⟨k4, k4', f4, ⟨l', el', M4⟩, b4, eb4, A4⟩ := leg_d OK Oz k2 R2 d10 eb A2 el e4
    have F4 : FrD n d h o4 := frd_t k2 (frn_d f2) f4
    have R4 := rlw_d k2 k4' f4 R2
    have eb4' : hR o4 (n + 573) d = some o2.1 := ks_r k4' (q := (573, 10, 5, 4100, fsB)) (by decide) eb
    have yb : b4 = o2.1 := r_eq eb4' eb4
    subst yb
    have el4 : hR o4 (n + 574) d = some l := ks_r k4' (q := (574, 10, 8, 4200, fsM)) (by decide) el
    have yl : l' = l := r_eq el4 el'
    subst yl
    unfold sX15_countRows_29 at e
    rcases br_s e with ⟨c1, e⟩ | ⟨c1, e⟩
    · have kk1 : kk = 1 := by rw [c1, z1] at i2; omega
      subst kk1
      rw [so_e e, rwn_1]
      have m0 : (hI o4 l' 0).toInt = ((lgL L P).length : Int) := M4.1
      exact ⟨k4, F4, by show 0 ≤ (hI o4 l' 0).toInt; omega, by show (hI o4 l' 0).toInt ≤ _; omega, fun _ => m0, fun z => by omega⟩
    · have k2' : 2 ≤ kk := by
        have : ¬ x2.toInt = 1 := fun z => c1 (Int32.toInt_inj.mp (by rw [z, z1]))
        omega
      have Y := cr_46 (i := 0) (x6 := 0) (x7 := 0) (h0 := h) OK ih Oz hd k2' i1 i2 F k4 F4 R4 ⟨eb4', A4⟩ ⟨el4, M4⟩ rfl (Nat.zero_le _) ⟨Int.le_refl _, by show (0 : Int) ≤ _; omega, fun _ => rfl, fun z => absurd z (Nat.not_lt_zero _)⟩ e
      rw [show kk = kk - 1 + 1 by omega, rwn_s (by omega), show kk - 1 + 1 = kk by omega]
      exact Y
end
end
