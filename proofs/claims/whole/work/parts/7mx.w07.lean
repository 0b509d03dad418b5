section
/-! both readings of a position, at once -/
def bA (n s p b w : Nat) : Nat → Nat := fun c => if c = 0 then n else if c = 1 then p else if c = 4 then b else if c = 8 then w else s + 1000 * c
/-- places of both; three keys are nothing -/
def vA (n s p b w : Nat) : Nat → Nat := fun k => if k = 996 ∨ k = 997 ∨ k = 998 then 0 else vV (bA n s p b w) k
def CRa (h : Hp) (b : Nat) (ro : Int) (P : Pz) : Prop := CpR (fun k => b + kof k) h ro P
section
variable {n s p b w : Nat} {h : Hp} {own : Nat → Nat} {t1 t2 t3 : Nat} {L : Nat → Nat → Int} {P : Pz} {ro : Int}
theorem vd_a (O : OwS n h own) (b1 : BkE own h p 1 t1) (b2 : BkE own h b 4 t2) (b3 : BkE own h w 8 t3) (d : ¬ t1 = t2 ∧ ¬ t1 = t3 ∧ ¬ t2 = t3) : VD (vA n (hS h) p b w) := by
  have g : ∀ {b c t : Nat}, BkE own h b c t → (0 < t ∧ t < 20000) ∨ t = 20000 + c := fun z => by
    rcases z with z | z
    · exact Or.inl z.2
    · exact Or.inr z.2
  have g1 := g b1
  have g2 := g b2
  have g3 := g b3
  have D : VD (vV (bA n (hS h) p b w)) := by
    refine vd_own (t := fun c => if c = 0 then 0 else if c = 1 then t1 else if c = 4 then t2 else if c = 8 then t3 else 20000 + c) O rfl (fun c h1 h2 => ?_) (fun c c' h1 h2 h3 => ?_) rfl
    · have : c = 1 ∨ c = 2 ∨ c = 3 ∨ c = 4 ∨ c = 5 ∨ c = 6 ∨ c = 7 ∨ c = 8 ∨ c = 9 ∨ c = 10 ∨ c = 11 := by omega
      rcases this with z | z | z | z | z | z | z | z | z | z | z <;> subst z
      · exact b1
      · exact bke_o
      · exact bke_o
      · exact b2
      · exact bke_o
      · exact bke_o
      · exact bke_o
      · exact b3
      · exact bke_o
      · exact bke_o
      · exact bke_o
    · skip
      repeat' split
      all_goals omega
  have nk : ∀ k, k ∈ vql → ¬ (k = 996 ∨ k = 997 ∨ k = 998) := by decide +kernel
  intro x hx y hy ne e
  unfold vA at e
  rw [if_neg (nk x hx), if_neg (nk y hy)] at e
  exact D x hx y hy ne e
theorem rfl_a : RW0 (vA n s p b w) h L ↔ RfL n h w L := by
  unfold RfL RW0 WRf GRf
  have : lwR (vA n s p b w) h = lwR (vM n 0 0 0 0 0 w) h := by
    funext k i
    unfold lwR
    have a : vA n s p b w 15 = vM n 0 0 0 0 0 w 15 := rfl
    rw [a]
    by_cases c : k < 30
    · rw [if_pos c, if_pos c]
    · rw [if_neg c, if_neg c]
      by_cases c2 : 73 ≤ k ∧ k ≤ 81
      · rw [if_pos c2, if_pos c2]
        have : k = 73 ∨ k = 74 ∨ k = 75 ∨ k = 76 ∨ k = 77 ∨ k = 78 ∨ k = 79 ∨ k = 80 ∨ k = 81 := by omega
        rcases this with z | z | z | z | z | z | z | z | z <;> subst z <;> rfl
      · rw [if_neg c2, if_neg c2]
  rw [this]
  exact Iff.rfl
theorem rba_a : RbP (vA n s p b w) h P ↔ RbA h b P := Iff.rfl
theorem cra_a : CpR (vA n s p b w) h ro P ↔ CRa h p ro P := Iff.rfl
theorem cra_k {q r x l : Nat} : CpR (vK n s p q r x l) h ro P ↔ CRa h p ro P := Iff.rfl
/-- RULES compared, at other places -/
theorem lwq_v {Z V : Nat → Nat} {hc hr : Hp} (e : ∀ k, k ∈ ([2, 15, 27, 28, 29, 30, 31, 73, 74, 75, 76, 77, 78, 79, 80, 81, 996, 997, 998] : List Nat) → Z k = V k) (Q : LwQ Z hc hr) : LwQ V hc hr := by
  unfold LwQ LT1 LT2 LT3 LT4 LT5 LT6 LT7 SXs at *
  rw [e 2 (by decide), e 15 (by decide), e 27 (by decide), e 28 (by decide), e 29 (by decide), e 30 (by decide), e 31 (by decide), e 73 (by decide), e 74 (by decide), e 75 (by decide), e 76 (by decide), e 77 (by decide), e 78 (by decide), e 79 (by decide), e 80 (by decide), e 81 (by decide), e 996 (by decide), e 997 (by decide), e 998 (by decide)] at Q
  exact Q
end
section
variable {n F q w : Nat} {gc gr hc hr : Hp} {own : Nat → Nat} {L : Nat → Nat → Int} {N : Int32} {o o' : Int32 × Hp}
theorem rd_j (kc : DyK n gc hc) (kr : DyK n gr hr) (O : OwS n hc own) (hq : q < 60) (hw : w = 516 ∨ w = 526) (r4 : hR hr (n + 513) 4 = some (n + w)) (H : LOk L) (Cc : ClL n hc L) (Cr : RfL n hr (n + w) L) (Q : LwQ (vA n (hS hc) (n + (153 + 6 * q)) (n + 538) (n + w)) hc hr) (Ln : hN hc (n + (153 + 6 * q) + 1) = 64 ∧ hN hc (n + (153 + 6 * q) + 2) = 2 ∧ hN hc (n + (153 + 6 * q) + 3) = 2 ∧ hN hc (n + (153 + 6 * q) + 4) = 2 ∧ hN hc (n + (153 + 6 * q) + 5) = 2) (t1 : hI hc (n + 1) 1 = N) (t3 : Rg 0 1200 N) (t4 : ∀ i, Rg 0 255 (hI hc (n + 2) i)) (t5 : ∀ i : Nat, (i : Int) < N.toInt → (hI hr (n + 514) i).toInt = sg (hI hc (n + 2) i).toInt) (e : sX7_read F hc (n + 38) (n + 1) (n + (153 + 6 * q)) = some o) (e' : sX15_isPosition F hr (n + 513) (n + 514) N (n + 538) = some o') : (¬ o.1 = (-1 : Int32) ∧ o'.1 = 0 ∧ o.1 = hI o'.2 (n + 513) 19 ∧ 0 ≤ o.1.toInt) ∨ (o.1 = (-1 : Int32) ∧ o'.1 = 1 ∧ ∃ P, PzRd L P ∧ RbA o'.2 (n + 538) P ∧ CRa o.2 (n + (153 + 6 * q)) (L 10 0) P) := by
  have s6 := dk_610 kc
  have D : VD (vA n (hS hc) (n + (153 + 6 * q)) (n + 538) (n + w)) := vd_a O (bk_pl O hq) (Or.inl ⟨bk_st (t := 102) O (by decide) (by decide), by decide, by decide⟩) (bk_lw O hw) (by split <;> omega)
  have Pe := fun {p : Nat × Nat} (hp : p ∈ fsP) => pl_e kc hq hp
  have Pc : VPc (vA n (hS hc) (n + (153 + 6 * q)) (n + 538) (n + w)) hc := ⟨Pe (p := (0, 1)) (by decide), Pe (p := (1, 2)) (by decide), Pe (p := (2, 3)) (by decide), Pe (p := (3, 4)) (by decide), Pe (p := (4, 5)) (by decide)⟩
  have Pr : VPr (vA n (hS hc) (n + (153 + 6 * q)) (n + 538) (n + w)) hr := ⟨dk_e (a := 538) (f := 0) (b := 539) kr (by decide +kernel), dk_e (a := 538) (f := 4) (b := 540) kr (by decide +kernel), dk_e (a := 538) (f := 5) (b := 541) kr (by decide +kernel), dk_e (a := 538) (f := 6) (b := 542) kr (by decide +kernel)⟩
  have W0 : RW0 (vA n (hS hc) (n + (153 + 6 * q)) (n + 538) (n + w)) hr L := rfl_a.mpr Cr
  obtain ⟨_, ⟨l0, l1, _⟩, _, ⟨l4, _⟩, _⟩ := Cc
  have l0 : (hI hc (n + 5) 0).toInt = L 0 0 := l0
  have l1 : (hI hc (n + 5) 1).toInt = L 1 0 := l1
  have l4 : (hI hc (n + 5) 4).toInt = L 10 0 := l4
  have m0 : (hI hr (n + 513) 11).toInt = L 0 0 := Cr.2.2.1
  have m1 : (hI hr (n + 513) 12).toInt = L 1 0 := Cr.2.2.2.1
  have G : GeV (vA n (hS hc) (n + (153 + 6 * q)) (n + 538) (n + w)) hc hr := ⟨Int32.toInt_inj.mp (l0.trans m0.symm), Int32.toInt_inj.mp (l1.trans m1.symm), ⟨by show 3 ≤ (hI hc (n + 5) 0).toInt; rw [l0]; exact H.1.1, by show (hI hc (n + 5) 0).toInt ≤ 8; rw [l0]; exact H.1.2⟩, ⟨by show 3 ≤ (hI hc (n + 5) 1).toInt; rw [l1]; exact H.2.1.1, by show (hI hc (n + 5) 1).toInt ≤ 8; rw [l1]; exact H.2.1.2⟩⟩
  have A : ZA (vA n (hS hc) (n + (153 + 6 * q)) (n + 538) (n + w)) (n + 5) (n + w) hc hr := by
    obtain ⟨_, x3, x4, x5, x6, x7, x8, x9, x13, x14⟩ := W0.1
    exact ⟨⟨rfl, dk_e (a := 5) (f := 14) (b := 6) kc (by decide +kernel), dk_e (a := 5) (f := 15) (b := 7) kc (by decide +kernel), dk_e (a := 5) (f := 16) (b := 8) kc (by decide +kernel), dk_e (a := 5) (f := 17) (b := 9) kc (by decide +kernel), dk_e (a := 5) (f := 18) (b := 10) kc (by decide +kernel)⟩, ⟨rfl, x3, x4, x5, x6, x7, x8, x9, x13, x14⟩, rfl, rfl, rfl⟩
  have x := posr_p (V := vA n (hS hc) (n + (153 + 6 * q)) (n + 538) (n + w)) D Pc Pr Ln (dk_e (a := 38) (f := 0) (b := 5) kc (by decide +kernel)) (dk_e (a := 1) (f := 0) (b := 2) kc (by decide +kernel)) r4 t1 t3 t4 t5 G A Q e e'
  rcases x with ⟨y1, y2, y3, y4⟩ | ⟨y1, y2, y3⟩
  · exact Or.inl ⟨y1, y2, y3, y4⟩
  · right
    refine ⟨y1, y2, ?_⟩
    have z := ri_all (V := vA n (hS hc) (n + (153 + 6 * q)) (n + 538) (n + w)) D H W0 Pr e'
    rcases z with z | ⟨I, cl⟩
    · rw [z] at y2; exact absurd y2 (by decide)
    obtain ⟨kc', fc'⟩ := wf_X7_read hq kc e
    have Pe' := fun {p : Nat × Nat} (hp : p ∈ fsP) => pl_e kc' hq hp
    have l4' : (hI o.2 (n + 5) 4).toInt = L 10 0 := by
      rw [(fc'.2 (n + 5) 4 (by omega) (fun c => by unfold WRd at c; omega)).1]
      exact l4
    refine ⟨_, pzb_ok I cl, rba_a.mp (pzb_r I), ?_⟩
    exact cra_a.mp (pzb_c (V := vA n (hS hc) (n + (153 + 6 * q)) (n + 538) (n + w)) ⟨Pe' (p := (0, 1)) (by decide), Pe' (p := (1, 2)) (by decide), Pe' (p := (2, 3)) (by decide), Pe' (p := (3, 4)) (by decide), Pe' (p := (4, 5)) (by decide)⟩ I y3 l4')
end
end
section
/-! POSITION, both sides at once -/
section
variable {n j F : Nat} {h : Hp} {σ : Sy} {o : Int32 × Hp}
theorem wrn_b {L : Nat → Nat → Int} {P : Pz} : 0 ≤ wrN L P ∧ wrN L P ≤ 8 := by
  unfold wrN wr3 wr4 wr5 wr6 wr7
  repeat' split
  all_goals decide
theorem put_no {q : Nat} (e : syP σ q = none) : syPut σ q none = σ := by
  have : (fun p => if p = q then none else syP σ p) = syP σ := by
    funext p
    by_cases c : p = q
    · rw [if_pos c, c, e]
    · rw [if_neg c]
  show (syL σ, (fun p => if p = q then none else syP σ p), syG σ, syQ σ, syMv σ, syF σ, syO σ) = σ
  rw [this]
theorem psn_c (k : DyK n h h) (R : RelC n h σ) (e : sX11_position F h n = some o) : (frE σ 60 = -1 ∧ o = ((-104 : Int32), wI h (n + 1) 1 0)) ∨ ∃ q : Nat, q < 60 ∧ frE σ 60 = (q : Int) ∧ syP σ q = none ∧ ∃ o8, sX7_read F h (n + 38) (n + 1) (n + (153 + 6 * q)) = some o8 ∧ ((¬ o8.1 = (-1 : Int32) ∧ o = ((-200 : Int32) - o8.1, wI (wI o8.2 (n + 149) q 0) (n + 1) 1 0)) ∨ (o8.1 = (-1 : Int32) ∧ ∃ o11, sX5_faultOf F o8.2 (n + 30) (n + (153 + 6 * q)) = some o11 ∧ ((o11.1 = 0 ∧ ∃ x : Int32, x.toInt = (q : Int) ∧ o = (x, wI (wI o11.2 (n + 149) q 1) (n + 1) 1 0)) ∨ (¬ o11.1 = 0 ∧ o = (-o11.1, wI (wI o11.2 (n + 149) q 0) (n + 1) 1 0))))) := by
  have zm : (-1 : Int32).toInt = -1 := rfl
  have W0 : ∀ {g : Hp}, DyK n h g → hR g (n + 0) 0 = some (n + 1) := fun k => dk_e (a := 0) (f := 0) (b := 1) k (by decide +kernel)
  unfold sX11_position at e
  obtain ⟨o1, e1, e⟩ := cl_s e
  obtain ⟨q1, v1⟩ := fp_c k R.2.1 e1
  rw [q1] at e
  rcases br_s e with ⟨c, e⟩ | ⟨c, e⟩
  · have c : o1.1 = -1 := c
    left
    refine ⟨by rw [← v1, c]; rfl, ?_⟩
    unfold sX11_position_104 sX9_clear at e
    replace e := ce_e (W0 k) e
    obtain ⟨h2, e2, e⟩ := cl_s e
    rw [so_e e, so_e (nx_e e2)]
  have c := ne_i c
  have c : ¬ o1.1.toInt = -1 := c
  right
  rcases fre_b (σ := σ) 60 (Nat.le_refl _) with z | ⟨q, hq, eq, no⟩
  · rw [← v1] at z; exact absurd z c
  have v : o1.1.toInt = (q : Int) := v1.trans eq
  have nc : o1.1.toNatClampNeg = q := by have := nc_i (x := o1.1) (by omega); omega
  refine ⟨q, hq, eq, no, ?_⟩
  replace e := ce_e (dk_e (a := 0) (f := 13) (b := 148) k (by decide +kernel)) e
  replace e := gg_e e
  obtain ⟨r5, e5, e⟩ := cl_s e
  rw [nc] at e5
  have y5 := pl_at k hq e5
  subst y5
  replace e := ce_e (dk_e (a := 0) (f := 7) (b := 38) k (by decide +kernel)) e
  replace e := ce_e (W0 k) e
  obtain ⟨o8, e8, e⟩ := cl_s e
  have k8 := (wf_X7_read hq k e8).1
  have fin : ∀ {g : Hp} {x4 x5 : Int32} {fl : Int32}, DyK n h g → sX11_position_75 F g n o1.1 x4 x5 fl o1.1 (n + 149) = some o → ∃ t : Int32, o = (t, wI (wI g (n + 149) q (vp_nar .boolean fl)) (n + 1) 1 0) ∧ ((x4 = -1 ∧ ((x5 = 0 ∧ t = o1.1) ∨ (¬ x5 = 0 ∧ t = -x5))) ∨ (¬ x4 = -1 ∧ t = (-200 : Int32) - x4)) := fun {g x4 x5 fl} kg u => by
    unfold sX11_position_75 sX11_position_103 sX11_position_104 sX9_clear at u
    replace u := gg_e u
    obtain ⟨h2, w2, u⟩ := nm_s u
    rw [nc] at w2
    have k2 : DyK n h h2 := by rw [w2]; exact dk_wI kg
    have tl : ∀ {t : Int32}, (cl (hR h2 n 0) fun r_1 => cl (nm (wI h2 r_1 1 0) fun h_1 => some h_1) fun o_2 => some (t, o_2)) = some o → o = (t, wI h2 (n + 1) 1 0) := fun {t} u => by
      replace u := ce_e (W0 k2) u
      obtain ⟨h3, e3, u⟩ := cl_s u
      rw [so_e u, so_e (nx_e e3)]
    rw [← w2]
    rcases br_s u with ⟨c1, u⟩ | ⟨c1, u⟩
    · rcases br_s u with ⟨c2, u⟩ | ⟨c2, u⟩
      · exact ⟨_, tl u, Or.inl ⟨c1, Or.inl ⟨c2, rfl⟩⟩⟩
      · exact ⟨_, tl u, Or.inl ⟨c1, Or.inr ⟨c2, rfl⟩⟩⟩
    · exact ⟨_, tl u, Or.inr ⟨c1, rfl⟩⟩
  refine ⟨o8, e8, ?_⟩
  rcases br_s e with ⟨c8, e⟩ | ⟨c8, e⟩
  · have c8 : o8.1 = -1 := c8
    right
    refine ⟨c8, ?_⟩
    replace e := ce_e (dk_e (a := 0) (f := 6) (b := 30) k8 (by decide +kernel)) e
    obtain ⟨o11, e11, e⟩ := cl_s e
    have k11 : DyK n h o11.2 := dk_X5_faultOf k8 e11
    unfold sX11_position_52 sX11_position_74 at e
    replace e := ce_e (dk_e (a := 0) (f := 14) (b := 149) k11 (by decide +kernel)) e
    replace e := bp_e c8 e
    refine ⟨o11, e11, ?_⟩
    rcases br_s e with ⟨c9, e⟩ | ⟨c9, e⟩
    · obtain ⟨t, et, d⟩ := fin k11 e
      left
      refine ⟨c9, t, ?_, et⟩
      rcases d with ⟨_, ⟨_, d⟩ | ⟨d, _⟩⟩ | ⟨d, _⟩
      · rw [d]; exact v
      · exact absurd c9 d
      · exact absurd c8 d
    · obtain ⟨t, et, d⟩ := fin k11 e
      right
      refine ⟨c9, ?_⟩
      rcases d with ⟨_, ⟨d, _⟩ | ⟨_, d⟩⟩ | ⟨d, _⟩
      · exact absurd d c9
      · rw [et, d]; rfl
      · exact absurd c8 d
  · left
    unfold sX11_position_52 sX11_position_74 at e
    replace e := ce_e (dk_e (a := 0) (f := 14) (b := 149) k8 (by decide +kernel)) e
    obtain ⟨t, et, d⟩ := fin k8 (bn_e c8 e)
    refine ⟨c8, ?_⟩
    rcases d with ⟨d, _⟩ | ⟨_, d⟩
    · exact absurd d c8
    · rw [et, d]; rfl
theorem psn_r (k : DyK n h h) (R : RelR n j h σ) (e : sX15_position F h (n + 513) = some o) (R2 : RPl n (wI h (n + 513) 1 0) σ) : (frE σ 60 = -1 ∧ o = ((-104 : Int32), wI h (n + 513) 1 0)) ∨ (¬ frE σ 60 = -1 ∧ ∃ o4, sX15_isPosition F (wI h (n + 513) 1 0) (n + 513) (n + 514) (hI h (n + 513) 1) (n + 538) = some o4 ∧ ((o4.1 = 0 ∧ o = ((-200 : Int32) - hI o4.2 (n + 513) 19, o4.2)) ∨ (¬ o4.1 = 0 ∧ ∃ o3, sX15_wrongOf F o4.2 (n + 513) (n + 538) = some o3 ∧ ((o3.1 ≤ 0 ∧ sX15_keep F o3.2 (n + 513) (n + 538) = some o) ∨ (¬ o3.1 ≤ 0 ∧ o = ((0 : Int32) - o3.1, o3.2)))))) := by
  unfold sX15_position sX15_position_14 sX15_position_34 sX15_position_54 sX15_position_73 at e
  replace e := nx_e e
  obtain ⟨h2, w2, e⟩ := nm_s e
  rw [← w2]
  rw [← w2] at R2
  have k2 : DyK n h h2 := by rw [w2]; exact dk_wI k
  obtain ⟨o1, e1, e⟩ := cl_s e
  obtain ⟨q1, v1⟩ := rfp_r k2 R2 e1
  rw [q1] at e
  rcases br_s e with ⟨c, e⟩ | ⟨c, e⟩
  · have c : o1.1 = -1 := c
    exact Or.inl ⟨by rw [← v1, c]; rfl, so_e e⟩
  have c := ne_i c
  have c : ¬ o1.1.toInt = -1 := c
  right
  refine ⟨by rw [← v1]; exact c, ?_⟩
  replace e := ce_e (dk_e (a := 513) (f := 0) (b := 514) k2 (by decide +kernel)) e
  replace e := ce_e (dk_e (a := 513) (f := 21) (b := 538) k2 (by decide +kernel)) e
  obtain ⟨o4, e4, e⟩ := cl_s e
  have k4 := (wg_X15_isPosition k2 e4).1
  refine ⟨o4, e4, ?_⟩
  rcases br_s e with ⟨c4, e⟩ | ⟨c4, e⟩
  · exact Or.inl ⟨c4, so_e e⟩
  right
  refine ⟨c4, ?_⟩
  replace e := ce_e (dk_e (a := 513) (f := 21) (b := 538) k4 (by decide +kernel)) e
  obtain ⟨o3, e3, e⟩ := cl_s e
  have k3 := dk_X15_wrongOf k4 e3
  refine ⟨o3, e3, ?_⟩
  rcases br_s e with ⟨c3, e⟩ | ⟨c3, e⟩
  · replace e := ce_e (dk_e (a := 513) (f := 21) (b := 538) k3 (by decide +kernel)) e
    obtain ⟨o5, e5, e⟩ := cl_s e
    rw [so_e e]
    exact Or.inl ⟨c3, e5⟩
  · exact Or.inr ⟨c3, so_e e⟩
end
end
section
/-! POSITION: both answer the same, and stand for the same -/
section
variable {n j F : Nat} {h : Hp} {σ : Sy} {o o' : Int32 × Hp}
theorem fw_cl {a i : Nat} {v : Int32} {W : Nat → Nat → Prop} (w : W a i) : FrW W h (wI h a i v) := fw_wI fw_0 w
theorem psn_q {w q : Nat} {h2 : Hp} (k : DyK n h h) (k2 : DyK n h h2) (hw : w = 516 ∨ w = 526) (r4 : hR h (n + 513) 4 = some (n + w)) (LA : LwA n (n + 513) h) (C : RfL n h (n + w) (syL σ)) (I : ∀ a i, n + 516 ≤ a → a ≤ n + 535 → hI h2 a i = hI h a i ∧ hJ h2 a i = hJ h a i) : LwQ (vA n (hS h) (n + (153 + 6 * q)) (n + 538) (n + w)) h h2 := by
  obtain ⟨Z, ⟨⟨z2, a1, a2, a3, a4, a5⟩, ⟨z15, b3, b4, b5, b6, b7, b8, b9, b13, b14⟩, z6, z7, z8⟩, Q0⟩ := LA _ _ (dk_e (a := 0) (f := 2) (b := 5) k (by decide +kernel)) r4
  obtain ⟨_, x3, x4, x5, x6, x7, x8, x9, x13, x14⟩ := C.1
  have Q1 : LwQ (vA n (hS h) (n + (153 + 6 * q)) (n + 538) (n + w)) h h := lwq_v (fun i hi => by
    simp only [List.mem_cons, List.not_mem_nil, or_false] at hi
    rcases hi with z | z | z | z | z | z | z | z | z | z | z | z | z | z | z | z | z | z | z <;> subst z
    · exact z2
    · exact z15
    · exact r_eq (dk_e (a := 5) (f := 14) (b := 6) k (by decide +kernel)) a1
    · exact r_eq (dk_e (a := 5) (f := 15) (b := 7) k (by decide +kernel)) a2
    · exact r_eq (dk_e (a := 5) (f := 16) (b := 8) k (by decide +kernel)) a3
    · exact r_eq (dk_e (a := 5) (f := 17) (b := 9) k (by decide +kernel)) a4
    · exact r_eq (dk_e (a := 5) (f := 18) (b := 10) k (by decide +kernel)) a5
    · exact r_eq x3 b3
    · exact r_eq x4 b4
    · exact r_eq x5 b5
    · exact r_eq x6 b6
    · exact r_eq x7 b7
    · exact r_eq x8 b8
    · exact r_eq x9 b9
    · exact r_eq x13 b13
    · exact r_eq x14 b14
    · exact z6
    · exact z7
    · exact z8) Q0
  refine lwq_k Q1 (fun _ => rfl) rfl (fun _ _ _ => rfl) (fun i => (I (n + w) i (by omega) (by omega)).1) (I (n + w) 21 (by omega) (by omega)).2 (fun i hi f => ?_)
  simp only [List.mem_cons, List.not_mem_nil, or_false] at hi
  rcases hi with z | z | z | z | z | z | z | z | z <;> subst z
  · exact (I (n + w + 1) f (by omega) (by omega)).1
  · exact (I (n + w + 2) f (by omega) (by omega)).1
  · exact (I (n + w + 3) f (by omega) (by omega)).1
  · exact (I (n + w + 4) f (by omega) (by omega)).1
  · exact (I (n + w + 5) f (by omega) (by omega)).1
  · exact (I (n + w + 6) f (by omega) (by omega)).1
  · exact (I (n + w + 7) f (by omega) (by omega)).1
  · exact (I (n + w + 8) f (by omega) (by omega)).1
  · exact (I (n + w + 9) f (by omega) (by omega)).1
/-- what POSITION of the class writes -/
def WPc (n q a i : Nat) : Prop := WRd n q a i ∨ (a = n + 149 ∧ i = q)
theorem psn_j (k : DyK n h h) (Ok : SyOk σ) (RC : RelC n h σ) (RR : RelR n j h σ) (j1 : j < 100000) (LA : LwA n (n + 513) h) (T1 : hI h (n + 1) 1 = hI h (n + 513) 1) (T3 : Rg 0 1200 (hI h (n + 513) 1)) (T4 : ∀ i, Rg 0 255 (hI h (n + 2) i)) (T5 : ∀ i : Nat, (i : Int) < (hI h (n + 513) 1).toInt → (hI h (n + 514) i).toInt = sg (hI h (n + 2) i).toInt) (LP : ∀ q, q < 60 → hN h (n + (153 + 6 * q) + 1) = 64 ∧ hN h (n + (153 + 6 * q) + 2) = 2 ∧ hN h (n + (153 + 6 * q) + 3) = 2 ∧ hN h (n + (153 + 6 * q) + 4) = 2 ∧ hN h (n + (153 + 6 * q) + 5) = 2) (e : sX11_position F h n = some o) (e' : sX15_position F o.2 (n + 513) = some o') : o.1.toInt = o'.1.toInt ∧ ∃ σ', SyOk σ' ∧ RelC n o.2 σ' ∧ RelR n (j + 1) o'.2 σ' ∧ DyK n h o.2 ∧ DyK n o.2 o'.2 ∧ FrW (fun a i => CW n h a i ∨ TwC n a i) h o.2 ∧ FrW (fun a i => RWr n o.2 a i ∨ TwR n a i) o.2 o'.2 := by
  have z0 : (0 : Int32).toInt = 0 := rfl
  have s6 := dk_610 k
  have kc := dk_X11_position k e
  have kr := dk_X15_position (dk_self kc) e'
  have H := Ok.1.1
  have K := Ok.1.2.1
  -- behind the class's call: what the reference stands for
  have refl : ∀ {q : Nat} {W : Nat → Nat → Prop}, q < 60 → FrW W h o.2 → (∀ a i, W a i → WPc n q a i ∨ TwC n a i) → RelR n j o.2 σ ∧ FrW (fun a i => CW n h a i ∨ TwC n a i) h o.2 ∧ ∀ a i, n + 513 ≤ a → a < n + 610 → hI o.2 a i = hI h a i ∧ hJ o.2 a i = hJ h a i := fun {q W} hq F w => by
    have st : ∀ a i, W a i → a < n + 513 := fun a i c => by
      have := w a i c
      unfold WPc WRd TwC at this
      omega
    refine ⟨relr_f k kc F (fun j i hj c => ?_) (fun q' hq' h5 i a hi e lo hi' j f hj c => by have := st _ _ c; omega) (lgle Ok) RR, fw_s F (fun a i c => ?_), fun a i l l' => F.2 a i (by omega) (fun c => by have := st _ _ c; omega)⟩
    · have := st _ _ c
      rcases hj with hj | hj
      · unfold rFt at hj; omega
      · omega
    · have c := w a i c
      rcases c with c | c
      · unfold WPc WRd at c
        exact Or.inl (Or.inl (by omega))
      · exact Or.inr c
  -- the reference's tape is cleared
  have tape : ∀ {g : Hp}, DyK n h g → RelR n j g σ → RelR n j (wI g (n + 513) 1 0) σ ∧ FrW (fun a i => RWr n g a i ∨ TwR n a i) g (wI g (n + 513) 1 0) := fun {g} kg R => by
    have F : FrW (TwR n) g (wI g (n + 513) 1 0) := fw_cl (Or.inl ⟨rfl, rfl⟩)
    exact ⟨relr_tp (dk_self kg) (dk_wI (dk_self kg)) Ok F R, fw_s F (fun _ _ c => Or.inr c)⟩
  rcases psn_c k RC e with ⟨c1, eo⟩ | ⟨q, hq, fq, no, o8, e8, cc⟩
  · -- no place is free
    have F : FrW (TwC n) h o.2 := by rw [eo]; exact fw_cl (Or.inl rfl)
    obtain ⟨R1, F1, _⟩ := refl (q := 0) (by decide) F (fun a i c => Or.inr c)
    obtain ⟨R2, F2⟩ := tape kc R1
    rcases psn_r (dk_self kc) R1 e' R2.2.1 with ⟨_, eo'⟩ | ⟨c2, _⟩
    · refine ⟨by rw [eo, eo'], σ, Ok, relc_tp k kc Ok F RC, ?_, kc, kr, F1, ?_⟩
      · rw [eo']; exact rse_m R2 (by omega) (by omega)
      · rw [eo']; exact F2
    · exact absurd c1 c2
  have kf8 := wf_X7_read hq k e8
  obtain ⟨k8, f8⟩ := kf8
  -- the class behind its reading, its flag v set
  have cls : ∀ {v : Int32} {t : Int32} {Pq : Option Pz}, o = (t, wI (wI o8.2 (n + 149) q v) (n + 1) 1 0) → CPi n (wI o8.2 (n + 149) q v) (syPut σ q Pq) q → SyOk (syPut σ q Pq) → RelC n o.2 (syPut σ q Pq) ∧ RelR n j o.2 σ ∧ FrW (fun a i => CW n h a i ∨ TwC n a i) h o.2 ∧ ∀ a i, n + 513 ≤ a → a < n + 610 → hI o.2 a i = hI h a i ∧ hJ o.2 a i = hJ h a i := fun {v t Pq} eo N Ok' => by
    have F9 : FrW (WPc n q) h (wI o8.2 (n + 149) q v) := fw_wI (fw_s f8 (fun _ _ c => Or.inl c)) (Or.inr ⟨rfl, rfl⟩)
    have k9 : DyK n h (wI o8.2 (n + 149) q v) := dk_wI k8
    have R9 := relc_pl k Ok RC hq F9 k9 (fun a i c => by
      unfold WPc WRd at c
      rcases c with (c | c) | c
      · exact Or.inl (Or.inl ⟨by omega, by omega⟩)
      · exact Or.inr (Or.inr c)
      · exact Or.inr (Or.inl c)) N
    have F10 : FrW (TwC n) (wI o8.2 (n + 149) q v) (wI (wI o8.2 (n + 149) q v) (n + 1) 1 0) := fw_cl (Or.inl rfl)
    have FF : FrW (fun a i => WPc n q a i ∨ TwC n a i) h o.2 := by rw [eo]; exact fw_t (fw_s F9 (fun _ _ c => Or.inl c)) (fw_s F10 (fun _ _ c => Or.inr c))
    refine ⟨?_, refl hq FF (fun _ _ c => c)⟩
    rw [eo]
    exact relc_tp (dk_self k9) (dk_wI (dk_self k9)) Ok' F10 R9
  -- the reference reads, given what the class left
  obtain ⟨w, hw, r4, _, Cr⟩ := RR.1
  have flag0 : ∀ {g : Hp}, CPi n (wI g (n + 149) q 0) (syPut σ q none) q := fun {g} => Or.inl ⟨if_pos rfl, by rw [r_I, if_pos ⟨rfl, rfl⟩]⟩
  have Ok0 : SyOk (syPut σ q none) := by rw [put_no no]; exact Ok
  have common : RelR n j o.2 σ → (∀ a i, n + 513 ≤ a → a < n + 610 → hI o.2 a i = hI h a i ∧ hJ o.2 a i = hJ h a i) → ∃ o4 : Int32 × Hp, RelR n j o4.2 σ ∧ DyK n o.2 o4.2 ∧ FrW (fun a i => RWr n o.2 a i ∨ TwR n a i) o.2 o4.2 ∧ ((o4.1 = 0 ∧ o' = ((-200 : Int32) - hI o4.2 (n + 513) 19, o4.2)) ∨ (¬ o4.1 = 0 ∧ ∃ o3, sX15_wrongOf F o4.2 (n + 513) (n + 538) = some o3 ∧ ((o3.1 ≤ 0 ∧ sX15_keep F o3.2 (n + 513) (n + 538) = some o') ∨ (¬ o3.1 ≤ 0 ∧ o' = ((0 : Int32) - o3.1, o3.2))))) ∧ ((¬ o8.1 = (-1 : Int32) ∧ o4.1 = 0 ∧ o8.1 = hI o4.2 (n + 513) 19 ∧ 0 ≤ o8.1.toInt) ∨ (o8.1 = (-1 : Int32) ∧ o4.1 = 1 ∧ ∃ P, PzRd (syL σ) P ∧ RbA o4.2 (n + 538) P ∧ CRa o8.2 (n + (153 + 6 * q)) (syL σ 10 0) P)) := fun R1 Ic => by
    obtain ⟨R2, F2⟩ := tape kc R1
    rcases psn_r (dk_self kc) R1 e' R2.2.1 with ⟨c, _⟩ | ⟨_, o4, e4, c4⟩
    · omega
    have k2 : DyK n o.2 (wI o.2 (n + 513) 1 0) := dk_wI (dk_self kc)
    obtain ⟨k4, f4⟩ := wg_X15_isPosition k2 e4
    obtain ⟨_, f4'⟩ := wg_X15_isPosition (dk_self k2) e4
    have s6' := dk_610 kc
    have R4 : RelR n j o4.2 σ := relr_f (dk_self k2) (wg_X15_isPosition (dk_self k2) e4).1 f4' (fun j i hj c => by
      unfold WIp at c
      rcases hj with hj | hj
      · unfold rFt at hj; omega
      · omega) (fun q' hq' h5 i a hi e lo hi' j f hj c => by unfold WIp at c; omega) (lgle Ok) R2
    obtain ⟨own, Dw⟩ := k.1.1
    obtain ⟨w', hw', r4', _, Cr'⟩ := R2.1
    have r42 : hR (wI o.2 (n + 513) 1 0) (n + 513) 4 = some (n + w) := by
      show hR o.2 (n + 513) 4 = _
      rw [kc.1.2.2.2.2.2 4 (Or.inl rfl)]; exact r4
    have ww : n + w' = n + w := r_eq r42 r4'
    have ww : w' = w := by omega
    subst ww
    have I2 : ∀ a i, n + 514 ≤ a → a < n + 610 → hI (wI o.2 (n + 513) 1 0) a i = hI h a i ∧ hJ (wI o.2 (n + 513) 1 0) a i = hJ h a i := fun a i l l' => by
      have := Ic a i (by omega) l'
      rw [rI_a (by omega)]
      exact this
    have kk2 : DyK n h (wI o.2 (n + 513) 1 0) := dk_wI kc
    have Q := psn_q (q := q) k kk2 hw r4 LA Cr (fun a i l l' => I2 a i (by omega) (by omega))
    have N1 : hI o.2 (n + 513) 1 = hI h (n + 513) 1 := (Ic _ _ (by omega) (by omega)).1
    rw [N1] at e4
    have X := rd_j k kk2 Dw.1 hq hw r42 H RC.1 Cr' Q (LP q hq) T1 T3 T4 (fun i hi => by rw [(I2 (n + 514) i (by omega) (by omega)).1]; exact T5 i hi) e8 e4
    refine ⟨o4, R4, k4, fw_t F2 (fw_s f4' (fun a i c => Or.inl (Or.inl (by unfold WIp at c; omega)))), c4, X⟩
  rcases cc with ⟨c8, eo⟩ | ⟨c8, o11, e11, cc⟩
  · -- it cannot be read
    obtain ⟨RC', R1, F1, Ic⟩ := cls (Pq := none) eo flag0 Ok0
    rw [put_no no] at RC'
    obtain ⟨o4, R4, k4, F4, c4, X⟩ := common R1 Ic
    rcases X with ⟨_, x2, x3, _⟩ | ⟨x1, _⟩
    · rcases c4 with ⟨_, eo'⟩ | ⟨c, _⟩
      · refine ⟨by rw [eo, eo', x3], σ, Ok, RC', ?_, kc, kr, F1, ?_⟩
        · rw [eo']; exact rse_m R4 (by omega) (by omega)
        · rw [eo']; exact F4
      · exact absurd x2 c
    · exact absurd x1 c8
  -- it is read: P
  have ft : ∀ {P : Pz}, PzRd (syL σ) P → CRa o8.2 (n + (153 + 6 * q)) (syL σ 10 0) P → o11.2 = o8.2 ∧ o11.1.toInt = wrN (syL σ) P := fun {P} Pd Ca => by
    have C8 : ClL n o8.2 (syL σ) := cll_f k k8 (fun j i hj => f8.2 _ _ (by omega) (fun c => by unfold WRd at c; omega)) RC.1
    have M : MkC (vK n 0 (n + (153 + 6 * q)) 0 0 0 0) o8.2 (syL σ) := cll_k.mpr C8
    exact ft_c (V := vK n 0 (n + (153 + 6 * q)) 0 0 0 0) H K Pd.1 M.1 M.2 (cra_k.mpr Ca) e11
  -- and the reference's judgement
  have rf : ∀ {P : Pz} {o4 o3 : Int32 × Hp}, PzRd (syL σ) P → RelR n j o4.2 σ → DyK n o.2 o4.2 → RbA o4.2 (n + 538) P → sX15_wrongOf F o4.2 (n + 513) (n + 538) = some o3 → RelR n j o3.2 σ ∧ DyK n o4.2 o3.2 ∧ FrW (RS n) o4.2 o3.2 ∧ RbA o3.2 (n + 538) P ∧ o3.1.toInt = wrN (syL σ) P := fun {P o4 o3} Pd R4 k4 A e3 => by
    obtain ⟨own, Dw⟩ := k4.1.1
    obtain ⟨w', hw', _, _, C4⟩ := R4.1
    have s4 := dk_610 k4
    have b538 : BkE own o4.2 (n + 538) 4 102 := Or.inl ⟨bk_st Dw.1 (by decide) (by decide), by decide, by decide⟩
    have D : VD (vM n (hS o4.2) (n + 538) (hS o4.2 + 1000 * 5) (hS o4.2 + 1000 * 6) (hS o4.2 + 1000 * 7) (n + w')) := vd_m Dw.1 b538 (bke_o (c := 5)) (bke_o (c := 6)) (bke_o (c := 7)) (bk_lw Dw.1 hw') (by split <;> omega)
    obtain ⟨f, v⟩ := wr_r D H K Pd.1 (rfl_m.mpr C4) (rba_m.mpr A) (dk_e (a := 513) (f := 22) (b := 543) k4 (by decide +kernel)) e3
    have k3 := dk_X15_wrongOf (dk_self k4) e3
    have F3 : FrW (RS n) o4.2 o3.2 := fw_v (W := RS n) (sb := rsB) (cs := []) f (hs_g k3.1) (by decide +kernel) (fun j f i z y => rsb_c z y) (fun c hc => absurd hc (List.not_mem_nil))
    refine ⟨relr_rs (dk_self k4) Ok R4 F3 k3, k3, F3, rba_f A (fun p hp => ?_) (fun j i hj => F3.2 _ _ (by omega) (fun c => by unfold RS at c; omega)), v⟩
    have : ∀ q, q ∈ fsB → (538, q.1, 538 + q.2) ∈ edL := by decide +kernel
    have := dk_e k3 (this p hp)
    rw [show n + (538 + p.2) = n + 538 + p.2 by omega] at this
    exact this
  have wb := fun {P : Pz} => wrn_b (L := syL σ) (P := P)
  rcases cc with ⟨c11, x, ex, eo⟩ | ⟨c11, eo⟩
  · -- nothing is wrong with it
    -- P is known only behind the reference's reading: the class's flag is 1 either way
    have F9 : FrW (fun a i => WPc n q a i ∨ TwC n a i) h o.2 := by
      have y := (wf_X7_read hq k e8).2
      have k11 := dk_X5_faultOf k8 e11
      have y' := (wh_X5_faultOf hq k8 e11).2
      rw [eo]
      exact fw_wI (fw_wI (fw_s (fw_t y y') (fun _ _ c => Or.inl (Or.inl c))) (Or.inl (Or.inr ⟨rfl, rfl⟩))) (Or.inr (Or.inl rfl))
    obtain ⟨R1, F1, Ic⟩ := refl hq F9 (fun _ _ c => c)
    obtain ⟨o4, R4, k4, F4, c4, X⟩ := common R1 Ic
    rcases X with ⟨x1, _⟩ | ⟨_, x2, P, Pd, A, Ca⟩
    · exact absurd c8 x1
    obtain ⟨g1, g2⟩ := ft Pd Ca
    have w0 : wrN (syL σ) P = 0 := by rw [← g2, c11]; rfl
    have Oz := wr_ok H K Pd w0
    have Cp : CpA o8.2 (n + (153 + 6 * q)) (syL σ 10 0) P := cpa_k.mp (cpr_ok (V := vK n 0 (n + (153 + 6 * q)) 0 0 0 0) H Pd (cra_k.mpr Ca) w0)
    rw [g1] at eo
    have Ok1 : SyOk (syPut σ q (some P)) := syput_o Ok (fun Q e => by rw [← Option.some.inj e]; exact ⟨Oz, pze_w Oz w0⟩)
    obtain ⟨RC', _⟩ := cls (Pq := some P) eo (Or.inr ⟨P, if_pos rfl, by rw [r_I, if_pos ⟨rfl, rfl⟩], cpa_f Cp (fun p hp => pl_e k8 hq hp) (fun j i hj => ⟨by rw [rI_a (by omega)], rfl⟩)⟩) Ok1
    rcases c4 with ⟨c, _⟩ | ⟨_, o3, e3, c4⟩
    · rw [c] at x2; exact absurd x2 (by decide)
    obtain ⟨R3, k3, F3, A3, v3⟩ := rf Pd R4 k4 A e3
    rcases c4 with ⟨_, e5⟩ | ⟨c, _⟩
    · rcases kp_m (dk_self k3) Ok R3 j1 (b := n + 538) (t := 102) (fun h' _ own D => Or.inl ⟨bk_st D.1 (by decide) (by decide), by decide, by decide⟩) (by decide) A3 e5 with ⟨c, _⟩ | ⟨p, hp, fp, Y⟩
      · omega
      · have pq : p = q := by omega
        subst pq
        have k13 : DyK n o.2 o3.2 := dk_t k4 k3
        refine ⟨?_, _, Ok1, RC', Y.2.1, kc, kr, F1, ?_⟩
        · rw [Y.1, eo]; exact ex
        · have F13 : FrW (fun a i => RWr n o.2 a i ∨ TwR n a i) o.2 o3.2 := fw_t F4 (fw_s F3 (fun a i c => Or.inl (Or.inl (rs_c c))))
          exact ⟨Nat.le_trans F13.1 Y.2.2.2.1.1, fun a i l nc => by
            have x := F13.2 a i l nc
            have y := Y.2.2.2.1.2 a i (Nat.lt_of_lt_of_le l F13.1) (fun c => nc (Or.inl (rw_t k13 l c)))
            exact ⟨y.1.trans x.1, y.2.trans x.2⟩⟩
    · have := nle_i c
      rw [v3, w0] at this
      exact absurd this (by decide)
  · -- it breaks a rule
    have F9 : FrW (fun a i => WPc n q a i ∨ TwC n a i) h o.2 := by
      have y := (wf_X7_read hq k e8).2
      have y' := (wh_X5_faultOf hq k8 e11).2
      rw [eo]
      exact fw_wI (fw_wI (fw_s (fw_t y y') (fun _ _ c => Or.inl (Or.inl c))) (Or.inl (Or.inr ⟨rfl, rfl⟩))) (Or.inr (Or.inl rfl))
    obtain ⟨R1, F1, Ic⟩ := refl hq F9 (fun _ _ c => c)
    obtain ⟨o4, R4, k4, F4, c4, X⟩ := common R1 Ic
    rcases X with ⟨x1, _⟩ | ⟨_, x2, P, Pd, A, Ca⟩
    · exact absurd c8 x1
    obtain ⟨g1, g2⟩ := ft Pd Ca
    rw [g1] at eo
    obtain ⟨RC', _⟩ := cls (Pq := none) eo flag0 Ok0
    rw [put_no no] at RC'
    rcases c4 with ⟨c, _⟩ | ⟨_, o3, e3, c4⟩
    · rw [c] at x2; exact absurd x2 (by decide)
    obtain ⟨R3, k3, F3, A3, v3⟩ := rf Pd R4 k4 A e3
    have eq : o3.1 = o11.1 := Int32.toInt_inj.mp (v3.trans g2.symm)
    have wp : ¬ wrN (syL σ) P = 0 := fun z => c11 (Int32.toInt_inj.mp (by rw [g2, z]; rfl))
    have wbb := wb (P := P)
    rcases c4 with ⟨c, _⟩ | ⟨_, eo'⟩
    · have := le_i c
      rw [v3] at this
      omega
    · refine ⟨?_, σ, Ok, RC', ?_, kc, kr, F1, ?_⟩
      · rw [eo, eo', eq]
        show (-o11.1).toInt = (0 - o11.1).toInt
        rw [Int32.zero_sub]
      · rw [eo']; exact rse_m R3 (by omega) (by omega)
      · rw [eo']; exact fw_t F4 (fw_s F3 (fun a i c => Or.inl (Or.inl (rs_c c))))
end
end
section
/-! BEFOREAT, the reference -/
noncomputable def anBat (σ : Sy) (x1 : Int32) : Int := if 0 ≤ x1.toInt ∧ x1.toInt < ((syF σ).length : Int) then (if frE σ 60 = -1 then -104 else frE σ 60) else -102
noncomputable def syBat (σ : Sy) (x1 : Int32) : Sy := if 0 ≤ x1.toInt ∧ x1.toInt < ((syF σ).length : Int) then (if frE σ 60 = -1 then σ else syPut σ (frE σ 60).toNat ((syF σ)[x1.toNatClampNeg]?)) else σ
section
variable {n j F : Nat} {h : Hp} {σ : Sy} {o : Int32 × Hp} {x1 : Int32}
theorem ra_bat (k : DyK n h h) (Ok : SyOk σ) (R : RelR n j h σ) (j1 : j < 100000) (e : sX15_beforeAt F h (n + 513) x1 = some o) : RaO n (j + 1) h (syBat σ x1) o (anBat σ x1) := by
  have z0 : (0 : Int32).toInt = 0 := rfl
  obtain ⟨f1, f2⟩ := R.2.2.2.1
  unfold sX15_beforeAt sX15_beforeAt_12 sX15_beforeAt_32 at e
  unfold anBat syBat
  rcases br_s e with ⟨c, e⟩ | ⟨c, e⟩
  · have c := lt_i c
    have hn : ¬ (0 ≤ x1.toInt ∧ x1.toInt < ((syF σ).length : Int)) := by omega
    rw [so_e e, if_neg hn, if_neg hn]
    exact rao_m (j := j) (rao_0 k R rfl rfl) (by omega) (by omega)
  have c := nlt_i c
  rcases br_s e with ⟨c2, e⟩ | ⟨c2, e⟩
  rotate_left
  · have c2 := nlt_i c2
    have hn : ¬ (0 ≤ x1.toInt ∧ x1.toInt < ((syF σ).length : Int)) := by omega
    rw [so_e e, if_neg hn, if_neg hn]
    exact rao_m (j := j) (rao_0 k R rfl rfl) (by omega) (by omega)
  have c2 := lt_i c2
  have hy : 0 ≤ x1.toInt ∧ x1.toInt < ((syF σ).length : Int) := by omega
  rw [if_pos hy, if_pos hy]
  have nc := nc_i (x := x1) (by omega)
  obtain ⟨P, a, p1, p2, p3, p4⟩ := f2 x1.toNatClampNeg (by omega)
  have nb := nc_i p2.1
  have lt : (hI h (n + 585) x1.toNatClampNeg).toNatClampNeg < 3000 := by omega
  replace e := ce_e (dk_e (a := 513) (f := 40) (b := 583) k (by decide +kernel)) e
  replace e := ce_e (dk_e (a := 513) (f := 42) (b := 585) k (by decide +kernel)) e
  replace e := gg_e e
  replace e := gg_e e
  replace e := ce_e p3 e
  obtain ⟨o8, e8, e⟩ := cl_s e
  rw [so_e e]
  rcases kp_m k Ok R j1 (b := a) (t := 8000 + (hI h (n + 585) x1.toNatClampNeg).toNatClampNeg) (fun h' k' own D => bke_b (q := (583, 3000, 5, 8000, fsB)) D (by decide) rfl (by decide) lt (ks_r k' (q := (583, 3000, 5, 8000, fsB)) (by decide) p3)) (by omega) p4 e8 with ⟨c, y⟩ | ⟨p, hp, fp, Y⟩
  · rw [y, if_pos c, if_pos c]
    exact rao_m (j := j) (rao_0 k R rfl rfl) (by omega) (by omega)
  · have hf : ¬ frE σ 60 = -1 := by omega
    rw [if_neg hf, if_neg hf, p1, fp]
    exact Y
end
end
section
/-! BEFOREAT, the class -/
section
variable {n F q : Nat} {g h : Hp} {σ : Sy} {o : Int32 × Hp} {x1 : Int32}
/-- men laid out of a found number -/
theorem lay_k {L : Nat → Nat → Int} {B P : Pz} {x : Int32} {o : Hp} (k : DyK n g h) (hq : q < 60) (Bb : BareC B) (Ab : CpA h (n + 49) (L 10 0) B) (l4 : (hI h (n + 5) 4).toInt = L 10 0) (Fd : FdC L B x P) (e : sX6_lay F h (n + 48) (n + (153 + 6 * q)) x = some o) : FrW (fun a _ => n + (153 + 6 * q) ≤ a ∧ a < n + (153 + 6 * q) + 6) h o ∧ DyK n g o ∧ CpA o (n + (153 + 6 * q)) (L 10 0) P := by
  have z1 : (1 : Int32).toInt = 1 := rfl
  have z2 : (2 : Int32).toInt = 2 := rfl
  have z15 : (15 : Int32).toInt = 15 := rfl
  have zm : (-1 : Int32).toInt = -1 := rfl
  have s6 := dk_610 k
  obtain ⟨s, t, m, a, ls, lt, lm, la, ⟨st, Bs, Un⟩, ex, eP⟩ := Fd
  obtain ⟨b1, b2, b3, b4, b5, b6⟩ := Bb
  have x0 : 0 ≤ x.toInt := by omega
  have s16 : (x >>> ((16 : Int32) &&& 31)).toInt = x.toInt / 65536 := shr_i (s := 16) 16 rfl
  have s12 : (x >>> ((12 : Int32) &&& 31)).toInt = x.toInt / 4096 := shr_i (s := 12) 12 rfl
  have va : ((x >>> ((16 : Int32) &&& 31)) &&& (15 : Int32)).toInt = (a : Int) := by
    rw [and_i (m := 4) (by rw [s16]; omega) (by decide) rfl, s16]; omega
  have vm : ((x >>> ((12 : Int32) &&& 31)) &&& (15 : Int32)).toInt = (m : Int) := by
    rw [and_i (m := 4) (by rw [s12]; omega) (by decide) rfl, s12]; omega
  have vt : ((x >>> ((6 : Int32) &&& 31)) &&& (63 : Int32)).toInt = (t : Int) := by
    rw [and63_i (by rw [shr6_i]; omega), shr6_i]; omega
  have vs : (x &&& (63 : Int32)).toInt = (s : Int) := by rw [and63_i x0]; omega
  have nt : ((x >>> ((6 : Int32) &&& 31)) &&& (63 : Int32)).toNatClampNeg = t := by have := nc_i (x := (x >>> ((6 : Int32) &&& 31)) &&& (63 : Int32)) (by omega); omega
  have ns : (x &&& (63 : Int32)).toNatClampNeg = s := by have := nc_i (x := x &&& (63 : Int32)) (by omega); omega
  unfold sX6_lay at e
  replace e := ce_e (dk_e (a := 48) (f := 3) (b := 49) k (by decide +kernel)) e
  obtain ⟨h2, e2, e⟩ := cl_s e
  obtain ⟨own, Dw⟩ := k.1.1
  obtain ⟨f2, k2, A2⟩ := cpy_k k Dw.1 (Or.inl ⟨bk_st (t := 3) Dw.1 (by decide) (by decide), by decide, by decide⟩) (bk_12 (bk_pl Dw.1 hq) (by omega)) (by omega) Ab (fun p hp => pl_e k hq hp) e2
  generalize hp : n + (153 + 6 * q) = p at *
  have lp : n + 153 ≤ p := by omega
  have sd2 : (hI h2 (n + 49) 5).toInt = (pzS B : Int) := by
    rw [(f2.2 (n + 49) 5 (by omega) (fun c => by omega)).1]; exact Ab.2.2.1
  have l42 : (hI h2 (n + 5) 4).toInt = L 10 0 := by
    rw [(f2.2 (n + 5) 4 (by omega) (fun c => by omega)).1]; exact l4
  obtain ⟨o3, e3, e⟩ := cl_s e
  have q3 : o3.2 = h2 ∧ o3.1.toInt + 1 = (if a = 15 then 0 else cdV a (1 - (pzS B : Int))) ∧ Rg (-1) 23 o3.1 := by
    unfold sX6_takenIn sX6_takenIn_31 at e3
    replace e3 := nx_e e3
    rcases br_s e3 with ⟨c, e3⟩ | ⟨c, e3⟩
    · have c : ((x >>> ((16 : Int32) &&& 31)) &&& (15 : Int32)) = 15 := c
      rw [c] at va
      rw [so_e e3, if_pos (by omega)]
      exact ⟨rfl, rfl, show (-1 : Int) ≤ (-1 : Int32).toInt by decide, show (-1 : Int32).toInt ≤ 23 by decide⟩
    · have c := ne_i c
      have c : ¬ ((x >>> ((16 : Int32) &&& 31)) &&& (15 : Int32)).toInt = 15 := c
      replace e3 := ce_e (dk_e (a := 48) (f := 3) (b := 49) k2 (by decide +kernel)) e3
      rw [so_e e3, if_neg (by omega)]
      have v1 : ((2 : Int32) * ((x >>> ((16 : Int32) &&& 31)) &&& (15 : Int32))).toInt = 2 * (a : Int) := by rw [tm (by rw [z2]; omega), z2, va]
      have v2 : (((2 : Int32) * ((x >>> ((16 : Int32) &&& 31)) &&& (15 : Int32))) + (1 : Int32)).toInt = 2 * (a : Int) + 1 := by rw [ta (by omega), v1, z1]
      have v3 : ((((2 : Int32) * ((x >>> ((16 : Int32) &&& 31)) &&& (15 : Int32))) + (1 : Int32)) - hI h2 (n + 49) 5).toInt = 2 * (a : Int) + 1 - (pzS B : Int) := by rw [ts (by omega), v2, sd2]
      refine ⟨rfl, ?_, ?_, ?_⟩
      · show (_ - hI h2 (n + 49) 5).toInt + 1 = _
        rw [v3]
        unfold cdV
        omega
      · show (-1 : Int) ≤ (_ - hI h2 (n + 49) 5).toInt
        rw [v3]; omega
      · show (_ - hI h2 (n + 49) 5).toInt ≤ 23
        rw [v3]; omega
  obtain ⟨q31, q32, q33⟩ := q3
  rw [q31] at e
  replace e := ce_e (dk_e (a := 48) (f := 0) (b := 5) k2 (by decide +kernel)) e
  obtain ⟨h5, e5, e⟩ := cl_s e
  have c0 : hR h2 p 0 = some (p + 1) := A2.1.1
  have c1 : hR h2 p 1 = some (p + 2) := A2.1.2.1
  have c2 : hR h2 p 2 = some (p + 3) := A2.1.2.2.1
  have PC := A2.2.1
  have PC : PosC h2 (p + 1) (p + 2) (p + 3) B.1 (hI h2 (n + 5) 4).toInt := by rw [l42]; exact PC
  have R2 : ∀ i r, hR h2 p i = some r → hR h5 p i = some r := fun i r u => by
    rw [(put_c (on := p + 1) (of := p + 2) (ra := p + 3) c0 c1 c2 (by omega) (by omega) ⟨by omega, by omega⟩ q33 PC (Or.inr (by rw [l42]; exact Un)) e5).2.1]
    exact u
  obtain ⟨P5, r5, i5, j5, _⟩ := put_c (on := p + 1) (of := p + 2) (ra := p + 3) c0 c1 c2 (by omega) (by omega) ⟨by omega, by omega⟩ q33 PC (Or.inr (by rw [l42]; exact Un)) e5
  rw [nt, q32] at P5
  have k5 : DyK n g h5 := dk_X3_put k2 e5
  replace e := ce_e (dk_e (a := 48) (f := 3) (b := 49) k5 (by decide +kernel)) e
  replace e := ce_e (dk_e (a := 48) (f := 0) (b := 5) k5 (by decide +kernel)) e
  obtain ⟨h8, e8, e⟩ := cl_s e
  have sd5 : (hI h5 (n + 49) 5).toInt = (pzS B : Int) := by rw [i5 (n + 49) 5 (by omega) (by omega)]; exact sd2
  have l45 : (hI h5 (n + 5) 4).toInt = L 10 0 := by rw [i5 (n + 5) 4 (by omega) (by omega)]; exact l42
  have v1 : ((2 : Int32) * ((x >>> ((12 : Int32) &&& 31)) &&& (15 : Int32))).toInt = 2 * (m : Int) := by rw [tm (by rw [z2]; omega), z2, vm]
  have v2 : (((2 : Int32) * ((x >>> ((12 : Int32) &&& 31)) &&& (15 : Int32))) + hI h5 (n + 49) 5).toInt = 2 * (m : Int) + (pzS B : Int) := by rw [ta (by omega), v1, sd5]
  have PC5 : PosC h5 (p + 1) (p + 2) (p + 3) (updM B.1 t (if a = 15 then 0 else cdV a (1 - (pzS B : Int)))) (hI h5 (n + 5) 4).toInt := by rw [l45, ← l42]; exact P5
  obtain ⟨P8, r8, i8, j8, _⟩ := put_c (on := p + 1) (of := p + 2) (ra := p + 3) (R2 0 _ c0) (R2 1 _ c1) (R2 2 _ c2) (by omega) (by omega) ⟨by omega, by omega⟩ ⟨by omega, by omega⟩ PC5 (Or.inl (by rw [ns]; unfold updM; rw [if_neg st]; exact Bs)) e8
  rw [ns, v2, l45] at P8
  have k8 : DyK n g h8 := dk_X3_put k5 e8
  rw [so_e e]
  have fr : FrW (fun a _ => p ≤ a ∧ a < p + 6) h2 h8 := by
    have sz : hS h2 ≤ hS h8 := by
      have x := (dk_X3_put (dk_self k2) e5).1.2.2.2.1
      have y := (dk_X3_put (dk_self k5) e8).1.2.2.2.1
      omega
    exact ⟨sz, fun a i _ nw => ⟨by rw [i8 a i (by omega) (by omega), i5 a i (by omega) (by omega)], by rw [j8 a i (by omega) (by omega), j5 a i (by omega) (by omega)]⟩⟩
  have I : ∀ c i, ¬ c = p + 1 → ¬ c = p + 3 → hI h8 c i = hI h2 c i := fun c i c1 c2 => by rw [i8 c i c1 c2, i5 c i c1 c2]
  have J : ∀ c i, ¬ c = p + 2 → ¬ (c = p ∧ i = 7) → hJ h8 c i = hJ h2 c i := fun c i c1 c2 => by rw [j8 c i c1 c2, j5 c i c1 c2]
  refine ⟨fw_t f2 fr, k8, ?_⟩
  have RR : ∀ u, u ∈ fsP → hR h8 p u.1 = some (p + u.2) := fun u hu => by
    have := pl_e k8 hq hu
    rw [hp] at this
    exact this
  subst eP
  obtain ⟨_, _, a3, a4, a5, a6, a7, a8⟩ := A2
  refine ⟨⟨RR (0, 1) (by decide), RR (1, 2) (by decide), RR (2, 3) (by decide), RR (3, 4) (by decide), RR (4, 5) (by decide)⟩, ?_, ?_, fun u hu => ?_, ⟨?_, ?_⟩, ⟨fun u hu => ?_, fun d hd => ?_⟩, fun d hd => ?_, ?_⟩
  · have e1 : 2 * (m : Int) + (pzS B : Int) + 1 = cdV m (pzS B) := by unfold cdV; omega
    rw [← e1]
    exact P8
  · show (hI h8 (p + 0) 5).toInt = _
    rw [I _ _ (by omega) (by omega)]; exact a3
  · show bitJ (hJ h8 (p + 0) 8) u = false
    rw [J _ _ (by omega) (by omega), ← b1 u hu]; exact a4 u hu
  · have := a5.1
    rw [b2] at this
    show Pw (hJ h8 (p + 0) 9) 0 (pzQ B)
    rw [J _ _ (by omega) (by omega)]; exact this
  · have := a5.2
    rw [b2] at this
    show OvN (hJ h8 (p + 0) 10) 0 (pzQ B)
    rw [J _ _ (by omega) (by omega)]; exact this
  · show HdB (hJ h8 (p + 4) u)
    rw [J _ _ (by omega) (by omega)]; exact a6.1 u hu
  · show ((hv (hJ h8 (p + 4) (d % 2)) (d / 2) : Nat) : Int) = 0
    rw [J _ _ (by omega) (by omega), ← b3 d hd]; exact a6.2 d hd
  · show (hI h8 (p + 5) d).toInt = 0
    rw [I _ _ (by omega) (by omega), ← b4 d hd]; exact a7 d hd
  · show (hI h8 (p + 0) 6).toInt = 0
    rw [I _ _ (by omega) (by omega), ← b5]; exact a8
theorem ca_bat (k : DyK n h h) (Ok : SyOk σ) (R : RelC n h σ) (e : sX11_beforeAt F h n x1 = some o) : CaO n h (syBat σ x1) o (anBat σ x1) := by
  have z0 : (0 : Int32).toInt = 0 := rfl
  have s6 := dk_610 k
  obtain ⟨f1, f2⟩ := R.2.2.2.1
  unfold sX11_beforeAt sX11_beforeAt_15 at e
  unfold anBat syBat
  rcases br_s e with ⟨c, e⟩ | ⟨c, e⟩
  · have c := lt_i c
    have hn : ¬ (0 ≤ x1.toInt ∧ x1.toInt < ((syF σ).length : Int)) := by omega
    rw [so_e e, if_neg hn, if_neg hn]
    exact cao_0 k R rfl rfl
  have c := nlt_i c
  replace e := ce_e (dk_e (a := 0) (f := 9) (b := 48) k (by decide +kernel)) e
  rcases br_s e with ⟨c2, e⟩ | ⟨c2, e⟩
  rotate_left
  · have c2 := nlt_i c2
    have c2 : (hI h (n + 48) 6).toInt ≤ x1.toInt := c2
    have hn : ¬ (0 ≤ x1.toInt ∧ x1.toInt < ((syF σ).length : Int)) := by omega
    rw [so_e e, if_neg hn, if_neg hn]
    exact cao_0 k R rfl rfl
  have c2 := lt_i c2
  have c2 : x1.toInt < (hI h (n + 48) 6).toInt := c2
  have hy : 0 ≤ x1.toInt ∧ x1.toInt < ((syF σ).length : Int) := by omega
  rw [if_pos hy, if_pos hy]
  have nc := nc_i (x := x1) (by omega)
  obtain ⟨o4, e4, e⟩ := cl_s e
  obtain ⟨q4, v4⟩ := fp_c k R.2.1 e4
  rw [q4] at e
  rcases br_s e with ⟨c4, e⟩ | ⟨c4, e⟩
  · have c4 : o4.1 = -1 := c4
    have hf : frE σ 60 = -1 := by rw [← v4, c4]; rfl
    rw [so_e e, if_pos hf, if_pos hf]
    exact cao_0 k R rfl rfl
  have c4 := ne_i c4
  have c4 : ¬ o4.1.toInt = -1 := c4
  have hf : ¬ frE σ 60 = -1 := by rw [← v4]; exact c4
  rw [if_neg hf, if_neg hf]
  rcases fre_b (σ := σ) 60 (Nat.le_refl _) with z | ⟨q, hq, eq, no⟩
  · exact absurd z hf
  have v : o4.1.toInt = (q : Int) := v4.trans eq
  have n4 : o4.1.toNatClampNeg = q := by have := nc_i (x := o4.1) (by omega); omega
  have tq : (frE σ 60).toNat = q := by omega
  rw [tq, eq]
  replace e := ce_e (dk_e (a := 0) (f := 14) (b := 149) k (by decide +kernel)) e
  replace e := gg_e e
  obtain ⟨h8, w8, e⟩ := nm_s e
  rw [n4] at w8
  have k8 : DyK n h h8 := by rw [w8]; exact dk_wI k
  have F8 : FrW (fun a i => a = n + 149 ∧ i = q) h h8 := by rw [w8]; exact fw_wI fw_0 ⟨rfl, rfl⟩
  replace e := ce_e (dk_e (a := 0) (f := 9) (b := 48) k8 (by decide +kernel)) e
  replace e := ce_e (dk_e (a := 0) (f := 13) (b := 148) k8 (by decide +kernel)) e
  replace e := gg_e e
  obtain ⟨r12, e12, e⟩ := cl_s e
  rw [n4] at e12
  have y12 := pl_at k8 hq e12
  subst y12
  obtain ⟨h13, e13, e⟩ := cl_s e
  rcases f2 with z | ⟨B, Bb, Ab, Fk⟩
  · rw [z] at hy
    have hy2 := hy.2
    have : (([] : List Pz).length : Int) = 0 := rfl
    omega
  obtain ⟨P, p1, p2⟩ := Fk x1.toNatClampNeg (by omega)
  have i8 : ∀ a i, a < n + 610 → ¬ a = n + 149 → hI h8 a i = hI h a i := fun a i l c => (F8.2 a i (by omega) (fun z => c z.1)).1
  unfold sX6_fillIn sX6_fillIn_23 at e13
  replace e13 := bn_e (fun z => by have := lt_i z; omega) e13
  replace e13 := bn_e (fun z => by
    have z := le_i z
    have z : (hI h8 (n + 48) 6).toInt ≤ x1.toInt := z
    rw [i8 (n + 48) 6 (by omega) (by omega)] at z
    omega) e13
  replace e13 := ce_e (dk_e (a := 48) (f := 5) (b := 61) k8 (by decide +kernel)) e13
  replace e13 := gg_e e13
  obtain ⟨o5, e5, e13⟩ := cl_s e13
  have y13 := so_e e13
  subst y13
  have Ab8 : CpA h8 (n + 49) (syL σ 10 0) B := cpa_f Ab (fun u hu => by
      have : ∀ q, q ∈ fsP → (49, q.1, 49 + q.2) ∈ edL := by decide +kernel
      have := dk_e k8 (this u hu)
      rw [show n + (49 + u.2) = n + 49 + u.2 by omega] at this
      exact this) (fun j i hj => F8.2 _ _ (by omega) (fun z => by omega))
  have l48 : (hI h8 (n + 5) 4).toInt = syL σ 10 0 := by
    rw [i8 (n + 5) 4 (by omega) (by omega)]
    exact R.1.2.2.2.1.1
  obtain ⟨f13, k13, A13⟩ := lay_k (L := syL σ) k8 hq Bb Ab8 l48 (by rw [i8 (n + 61) _ (by omega) (by omega)]; exact p2) e5
  rw [so_e e, p1]
  have FF : FrW (fun a i => (a = n + 149 ∧ i = q) ∨ (n + (153 + 6 * q) ≤ a ∧ a < n + (153 + 6 * q) + 6)) h h13 := fw_t (fw_s F8 (fun _ _ c => Or.inl c)) (fw_s f13 (fun _ _ c => Or.inr c))
  exact ⟨v, relc_pl k Ok R hq FF k13 (fun _ _ c => Or.inr c) (Or.inr ⟨P, if_pos rfl, by
    rw [(f13.2 (n + 149) q (by have := F8.1; omega) (fun c => by omega)).1, w8, r_I, if_pos ⟨rfl, rfl⟩]
    rfl, A13⟩), k13, frc_w k FF (fun a i c _ => Or.inl (by omega))⟩
end
end
section
/-! what a state keeps to, behind each call -/
section
variable {σ : Sy} {x1 x2 : Int32}
theorem ok_drop (Ok : SyOk σ) : SyOk (syDrop σ x1) := by
  unfold syDrop
  cases sPl σ x1 with
  | none => exact Ok
  | some P => exact syput_o Ok (fun Q e => nomatch e)
theorem ok_go (Ok : SyOk σ) : SyOk (syGo σ x1 x2) := by
  unfold syGo
  cases e : sPl σ x1 with
  | none => exact Ok
  | some P =>
    cases e2 : mvI σ x1 x2 with
    | none => exact Ok
    | some v =>
      show SyOk (if frE σ 60 = -1 then σ else syPut σ (frE σ 60).toNat (some (zAll (syL σ) P v)))
      by_cases c : frE σ 60 = -1
      · rw [if_pos c]; exact Ok
      · rw [if_neg c]
        refine syput_o Ok (fun Q eq => ?_)
        rw [← Option.some.inj eq]
        have l : 0 ≤ x2.toInt := by
          by_cases z : 0 ≤ x2.toInt
          · exact z
          · rw [mvi_l z] at e2; exact nomatch e2
        rw [mvi_s e l] at e2
        exact ⟨pz_ok Ok.1.1 Ok.1.2.1 (spl_ok Ok e) (lg_gd Ok.1.1 Ok.1.2.1 (spl_ok Ok e) e2), pze_m Ok.1.1 Ok.1.2.1 Ok.2.2.2.2.1 (spl_ok Ok e) (spl_pe Ok e) e2⟩
theorem ok_gl {g : Nat} {l : Int} (Ok : SyOk σ) (b : -1 ≤ l ∧ l ≤ 300) (p : ∀ k : Nat, (k : Int) ≤ l → PzOk (syL σ) (syQ σ (301 * g + k))) (pe : ∀ k : Nat, (k : Int) ≤ l → PzE (syL σ) (syQ σ (301 * g + k))) : SyOk (syGl σ g l) := by
  refine ⟨Ok.1, Ok.2.1, fun q hq => ?_, Ok.2.2.2.1, Ok.2.2.2.2.1, Ok.2.2.2.2.2.1, fun q hq k hk => ?_, Ok.2.2.2.2.2.2.2⟩
  rotate_left
  · have hk : (k : Int) ≤ (if q = g then l else syG σ q) := hk
    by_cases c : q = g
    · rw [if_pos c] at hk
      rw [c]; exact pe k hk
    · rw [if_neg c] at hk
      exact Ok.2.2.2.2.2.2.1 q hq k hk
  show (-1 ≤ (if q = g then l else syG σ q) ∧ (if q = g then l else syG σ q) ≤ 300) ∧ ∀ k : Nat, (k : Int) ≤ (if q = g then l else syG σ q) → PzOk (syL σ) (syQ σ (301 * q + k))
  by_cases c : q = g
  · rw [if_pos c, c]
    exact ⟨b, p⟩
  · rw [if_neg c]
    exact Ok.2.2.1 q hq
theorem ok_back (Ok : SyOk σ) : SyOk (syBack σ x1) := by
  unfold syBack
  by_cases c : gmI x1
  · rw [prb_e.mpr c, if_pos rfl]
    obtain ⟨g8, _⟩ := gmi_n c
    obtain ⟨b, p⟩ := Ok.2.2.1 _ g8
    by_cases c1 : syG σ x1.toNatClampNeg = -1
    · rw [if_pos c1]; exact Ok
    · rw [if_neg c1]
      by_cases c2 : syG σ x1.toNatClampNeg = 0
      · rw [if_pos c2]; exact Ok
      · rw [if_neg c2]
        exact ok_gl Ok (by omega) (fun k hk => p k (by omega)) (fun k hk => Ok.2.2.2.2.2.2.1 _ g8 k (by omega))
  · rw [prb_f.mpr c, if_neg (by decide)]; exact Ok
theorem ok_sta (Ok : SyOk σ) : SyOk (sySta σ x1 x2) := by
  unfold sySta
  by_cases c : gmI x1
  · rw [prb_e.mpr c, if_pos rfl]
    obtain ⟨g8, _⟩ := gmi_n c
    cases e : sPl σ x2 with
    | none => exact Ok
    | some P =>
      have Oz := spl_ok Ok e
      refine ⟨Ok.1, Ok.2.1, fun q hq => ?_, Ok.2.2.2.1, Ok.2.2.2.2.1, Ok.2.2.2.2.2.1, fun q hq k hk => ?_, Ok.2.2.2.2.2.2.2⟩
      rotate_left
      · have hk : (k : Int) ≤ (if q = x1.toNatClampNeg then (0 : Int) else syG σ q) := hk
        show PzE (syL σ) (if 301 * q + k = 301 * x1.toNatClampNeg then P else syQ σ (301 * q + k))
        by_cases y : 301 * q + k = 301 * x1.toNatClampNeg
        · rw [if_pos y]; exact spl_pe Ok e
        · rw [if_neg y]
          by_cases z : q = x1.toNatClampNeg
          · rw [if_pos z] at hk; omega
          · rw [if_neg z] at hk; exact Ok.2.2.2.2.2.2.1 q hq k hk
      have b := Ok.2.2.1 q hq
      show (-1 ≤ (if q = x1.toNatClampNeg then (0 : Int) else syG σ q) ∧ (if q = x1.toNatClampNeg then (0 : Int) else syG σ q) ≤ 300) ∧ ∀ k : Nat, (k : Int) ≤ (if q = x1.toNatClampNeg then (0 : Int) else syG σ q) → PzOk (syL σ) (if 301 * q + k = 301 * x1.toNatClampNeg then P else syQ σ (301 * q + k))
      by_cases z : q = x1.toNatClampNeg
      · rw [if_pos z]
        refine ⟨by omega, fun k hk => ?_⟩
        rw [if_pos (by omega)]
        exact Oz
      · rw [if_neg z]
        refine ⟨b.1, fun k hk => ?_⟩
        by_cases y : 301 * q + k = 301 * x1.toNatClampNeg
        · rw [if_pos y]; exact Oz
        · rw [if_neg y]; exact b.2 k hk
  · rw [prb_f.mpr c, if_neg (by decide)]; exact Ok
theorem ok_now (Ok : SyOk σ) : SyOk (syNow σ x1) := by
  unfold syNow
  by_cases c : gmI x1
  · rw [prb_e.mpr c, if_pos rfl]
    obtain ⟨g8, _⟩ := gmi_n c
    obtain ⟨b, p⟩ := Ok.2.2.1 _ g8
    by_cases c1 : syG σ x1.toNatClampNeg = -1
    · rw [if_pos c1]; exact Ok
    · rw [if_neg c1]
      by_cases c2 : frE σ 60 = -1
      · rw [if_pos c2]; exact Ok
      · rw [if_neg c2]
        exact syput_o Ok (fun Q e => by rw [← Option.some.inj e]; exact ⟨p _ (by omega), Ok.2.2.2.2.2.2.1 _ g8 _ (by omega)⟩)
  · rw [prb_f.mpr c, if_neg (by decide)]; exact Ok
theorem ok_add (Ok : SyOk σ) : SyOk (syAdd σ x1 x2) := by
  unfold syAdd
  by_cases c : gmI x1
  · rw [prb_e.mpr c, if_pos rfl]
    obtain ⟨g8, _⟩ := gmi_n c
    obtain ⟨b, p⟩ := Ok.2.2.1 _ g8
    by_cases c1 : syG σ x1.toNatClampNeg = -1
    · rw [if_pos c1]; exact Ok
    · rw [if_neg c1]
      cases e : gmV σ x1 x2 with
      | none => exact Ok
      | some v =>
        show SyOk (if syG σ x1.toNatClampNeg = 300 then σ else syAdd1 σ x1.toNatClampNeg x2.toInt v)
        by_cases c2 : syG σ x1.toNatClampNeg = 300
        · rw [if_pos c2]; exact Ok
        · rw [if_neg c2]
          have e : (lgL (syL σ) (syQ σ (301 * x1.toNatClampNeg + (syG σ x1.toNatClampNeg).toNat)))[x2.toNatClampNeg]? = some v := by
            unfold gmV at e
            by_cases z : 0 ≤ x2.toInt
            · rw [if_pos z] at e; exact e
            · rw [if_neg z] at e; exact nomatch e
          have Oz := p (syG σ x1.toNatClampNeg).toNat (by omega)
          have On := pz_ok Ok.1.1 Ok.1.2.1 Oz (lg_gd Ok.1.1 Ok.1.2.1 Oz e)
          have Oe := Ok.2.2.2.2.2.2.1 _ g8 (syG σ x1.toNatClampNeg).toNat (by omega)
          have Ne := pze_m Ok.1.1 Ok.1.2.1 Ok.2.2.2.2.1 Oz Oe e
          refine ⟨Ok.1, Ok.2.1, fun q hq => ?_, Ok.2.2.2.1, Ok.2.2.2.2.1, Ok.2.2.2.2.2.1, fun q hq k hk => ?_, Ok.2.2.2.2.2.2.2⟩
          rotate_left
          · have hk : (k : Int) ≤ (if q = x1.toNatClampNeg then syG σ x1.toNatClampNeg + 1 else syG σ q) := hk
            show PzE (syL σ) (if 301 * q + k = 301 * x1.toNatClampNeg + (syG σ x1.toNatClampNeg).toNat + 1 then zAll (syL σ) (syQ σ (301 * x1.toNatClampNeg + (syG σ x1.toNatClampNeg).toNat)) v else syQ σ (301 * q + k))
            by_cases y : 301 * q + k = 301 * x1.toNatClampNeg + (syG σ x1.toNatClampNeg).toNat + 1
            · rw [if_pos y]; exact Ne
            · rw [if_neg y]
              by_cases z : q = x1.toNatClampNeg
              · rw [if_pos z] at hk
                exact Ok.2.2.2.2.2.2.1 q hq k (by rw [z]; omega)
              · rw [if_neg z] at hk
                exact Ok.2.2.2.2.2.2.1 q hq k hk
          have bq := Ok.2.2.1 q hq
          show (-1 ≤ (if q = x1.toNatClampNeg then syG σ x1.toNatClampNeg + 1 else syG σ q) ∧ (if q = x1.toNatClampNeg then syG σ x1.toNatClampNeg + 1 else syG σ q) ≤ 300) ∧ ∀ k : Nat, (k : Int) ≤ (if q = x1.toNatClampNeg then syG σ x1.toNatClampNeg + 1 else syG σ q) → PzOk (syL σ) (if 301 * q + k = 301 * x1.toNatClampNeg + (syG σ x1.toNatClampNeg).toNat + 1 then zAll (syL σ) (syQ σ (301 * x1.toNatClampNeg + (syG σ x1.toNatClampNeg).toNat)) v else syQ σ (301 * q + k))
          by_cases z : q = x1.toNatClampNeg
          · rw [if_pos z]
            refine ⟨by omega, fun k hk => ?_⟩
            by_cases y : 301 * q + k = 301 * x1.toNatClampNeg + (syG σ x1.toNatClampNeg).toNat + 1
            · rw [if_pos y]; exact On
            · rw [if_neg y, z]
              exact p k (by omega)
          · rw [if_neg z]
            refine ⟨bq.1, fun k hk => ?_⟩
            by_cases y : 301 * q + k = 301 * x1.toNatClampNeg + (syG σ x1.toNatClampNeg).toNat + 1
            · rw [if_pos y]; exact On
            · rw [if_neg y]; exact bq.2 k hk
  · rw [prb_f.mpr c, if_neg (by decide)]; exact Ok
theorem ok_wrt (Ok : SyOk σ) : SyOk (syWrt σ x1) := by
  unfold syWrt
  cases sPl σ x1 with
  | none => exact Ok
  | some P => exact syo_ok Ok
theorem ok_viw (Ok : SyOk σ) : SyOk (syViw σ x1 x2) := by
  unfold syViw
  by_cases c : sdI x2
  · rw [prb_e.mpr c, if_pos rfl]
    cases sPl σ x1 with
    | none => exact Ok
    | some P => exact syo_ok Ok
  · rw [prb_f.mpr c, if_neg (by decide)]; exact Ok
theorem ok_bat (Ok : SyOk σ) : SyOk (syBat σ x1) := by
  unfold syBat
  by_cases c : 0 ≤ x1.toInt ∧ x1.toInt < ((syF σ).length : Int)
  · rw [if_pos c]
    by_cases c2 : frE σ 60 = -1
    · rw [if_pos c2]; exact Ok
    · rw [if_neg c2]
      exact syput_o Ok (fun Q e => ⟨Ok.2.2.2.1.2 Q (List.mem_of_getElem? e), Ok.2.2.2.2.2.2.2 Q (List.mem_of_getElem? e)⟩)
  · rw [if_neg c]; exact Ok
end
end
section
/-! what SI tells of the tape and of places, for POSITION -/
section
variable {n : Nat} {L : Nat × Nat} {h : Hp}
theorem si_psn (k : DyK n h h) (I : SI n (n + 513) L h) : LwA n (n + 513) h ∧ hI h (n + 1) 1 = hI h (n + 513) 1 ∧ Rg 0 1200 (hI h (n + 513) 1) ∧ (∀ i, Rg 0 255 (hI h (n + 2) i)) ∧ (∀ i : Nat, (i : Int) < (hI h (n + 513) 1).toInt → (hI h (n + 514) i).toInt = sg (hI h (n + 2) i).toInt) ∧ ∀ q, q < 60 → hN h (n + (153 + 6 * q) + 1) = 64 ∧ hN h (n + (153 + 6 * q) + 2) = 2 ∧ hN h (n + (153 + 6 * q) + 3) = 2 ∧ hN h (n + (153 + 6 * q) + 4) = 2 ∧ hN h (n + (153 + 6 * q) + 5) = 2 := by
  obtain ⟨ρ, c, T, r0, rm, _, _, _, tp, tb, xb⟩ := I
  have e1 : hR h n 0 = some (n + 1) := dk_e (a := 0) (f := 0) (b := 1) k (by decide +kernel)
  have e2 : hR h (n + 1) 0 = some (n + 2) := dk_e (a := 1) (f := 0) (b := 2) k (by decide +kernel)
  have e3 : hR h (n + 513) 0 = some (n + 514) := dk_e (a := 513) (f := 0) (b := 514) k (by decide +kernel)
  have q1 : ρ (n + 1) = 10 := rr T (thR T r0 (i := 0) (k2 := 10) rfl (by decide)) e1
  have q2 : ρ (n + 2) = 49 := rr T (thR T q1 (i := 0) (k2 := 49) rfl (by decide)) e2
  have t1 := tp (n + 1) e1
  refine ⟨xb.1, t1, ?_, fun i => thI T q2 rfl, fun i hi => tb (n + 1) (n + 2) (n + 514) e1 e2 e3 i hi, fun q hq => ?_⟩
  · rw [← t1]
    exact thI T q1 rfl
  · have e13 : hR h n 13 = some (n + 148) := dk_e (a := 0) (f := 13) (b := 148) k (by decide +kernel)
    have ep : hR h (n + 148) q = some (n + (153 + 6 * q)) := (k.1.2.1.2.1 q hq).1
    have q148 : ρ (n + 148) = 57 := rr T (thR T r0 (i := 13) (k2 := 57) rfl (by decide)) e13
    have fx : ∀ i, i < 60 → rfK 57 i = 4 := by decide
    have qp : ρ (n + (153 + 6 * q)) = 4 := rr T (thR T q148 (i := q) (k2 := 4) (fx q hq) (by decide)) ep
    have w : ∀ {i k2 b : Nat}, hR h (n + (153 + 6 * q)) i = some b → rfK 4 i = k2 → k2 ≠ 0 → ρ b = k2 := fun {i k2 b} e a z => rr T (thR T qp (i := i) (k2 := k2) a z) e
    exact ⟨thN T (w (pl_e k hq (p := (0, 1)) (by decide)) (k2 := 34) rfl (by decide)) rfl (by decide), thN T (w (pl_e k hq (p := (1, 2)) (by decide)) (k2 := 35) rfl (by decide)) rfl (by decide), thN T (w (pl_e k hq (p := (2, 3)) (by decide)) (k2 := 36) rfl (by decide)) rfl (by decide), thN T (w (pl_e k hq (p := (3, 4)) (by decide)) (k2 := 37) rfl (by decide)) rfl (by decide), thN T (w (pl_e k hq (p := (4, 5)) (by decide)) (k2 := 38) rfl (by decide)) rfl (by decide)⟩
end
end
