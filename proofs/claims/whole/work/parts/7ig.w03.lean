section
/-! positions: the whole reading of both -/
def RdBad (V : Nat → Nat) (o o' : Int32 × Hp) : Prop := ¬ o.1 = (-1 : Int32) ∧ o'.1 = 0 ∧ o.1 = hI o'.2 (V 16) 19 ∧ 0 ≤ o.1.toInt
section
variable {F : Nat} {V : Nat → Nat} {N : Int32} {hc hr oc or g g' : Hp} {o o' o1 o1' : Int32 × Hp}
theorem bad_1 (a : AtV V N g g') (e : sX7_read_143 F g (V 7) = some o) (e' : sX15_isPosition_71 F g' = some o') : RdBad V o o' := by
  unfold sX7_read_143 sX7_read_144 sX7_read_157 at e
  unfold sX15_isPosition_71 sX15_isPosition_72 at e'
  rw [so_e (bp_e rfl e), so_e (gg_e e')]
  refine ⟨fun z => ?_, rfl, a.1, a.2.1⟩
  have z' : hI g (V 7) 2 = (-1 : Int32) := z
  have := a.2.1
  rw [z'] at this
  exact absurd this (by decide)
theorem stg {Q : Hp → Prop} {K : Int32 × Hp → Option (Int32 × Hp)} {X : Option (Int32 × Hp)} (D : VD V) (R : (o1.1 = 0 ∧ o1'.1 = 0 ∧ AtV V N o1.2 o1'.2) ∨ (o1.1 = 1 ∧ ∃ g, Q g ∧ RdV V N o1.2 g ∧ sX15_reads g (V 16) (32 : Int32) = some o1')) (e : br (o1.1 = 0) (sX7_read_143 F o1.2 (V 7)) (cl (sX7_takeByte o1.2 (V 7) (32 : Int32)) fun o_6 => br (o_6.1 = 0) (sX7_read_143 F o_6.2 (V 7)) (K o_6)) = some o) (e' : br (o1'.1 = 0) (sX15_isPosition_71 F o1'.2) X = some o') : RdBad V o o' ∨ ∃ g, Q g ∧ RdV V N (wI o1.2 (V 7) 2 ((hI o1.2 (V 7) 2) + (1 : Int32))) (wI g (V 16) 19 ((hI g (V 16) 19) + (1 : Int32))) ∧ K ((1 : Int32), wI o1.2 (V 7) 2 ((hI o1.2 (V 7) 2) + (1 : Int32))) = some o ∧ o1' = ((1 : Int32), wI g (V 16) 19 ((hI g (V 16) 19) + (1 : Int32))) ∧ X = some o' := by
  rcases R with ⟨a, b, at'⟩ | ⟨a, g, q, S, er⟩
  · exact Or.inl (bad_1 at' (bp_e a e) (bp_e b e'))
  · replace e := bn_e (fun z => by rw [a] at z; exact absurd z (by decide)) e
    replace e := cl_s e; obtain ⟨o6, eo6, e⟩ := e
    rcases tk_p D S ⟨by decide, by decide⟩ eo6 er with ⟨y, y'⟩ | ⟨y, y', S1⟩
    · rw [y] at e
      have v' : o1'.1 = 0 := by rw [y']
      have w' : o1'.2 = g := by rw [y']
      rw [w'] at e'
      exact Or.inl (bad_1 S.2.2.2.1 (bp_e rfl e) (bp_e v' e'))
    · rw [y, y'] at S1
      rw [y] at e
      have v' : o1'.1 = 1 := by rw [y']
      exact Or.inr ⟨g, q, S1, bn_e (show ¬ (1 : Int32) = 0 by decide) e, y', bn_e (fun z => by rw [v'] at z; exact absurd z (by decide)) e'⟩
theorem byt_v (S : RdV V N hc hr) (e : sX9_byteAt hc (V 10) (hI hc (V 7) 2) = some o) : o.2 = hc ∧ ((hI hc (V 7) 2 = N ∧ o.1 = (-1 : Int32)) ∨ ((hI hc (V 7) 2).toInt < N.toInt ∧ Rg 0 255 o.1)) := by
  have z0 : (0 : Int32).toInt = 0 := rfl
  obtain ⟨⟨a1, a2, a3⟩, _, ⟨t1, t2, t3, t4, t5⟩, ⟨p1, p2, p3⟩, _⟩ := S
  unfold sX9_byteAt sX9_byteAt_21 sX9_byteAt_22 at e
  replace e := bn_e (fun z => by have := lt_i z; rw [z0] at this; omega) e
  rw [t1] at e
  rcases br_s e with ⟨l, e⟩ | ⟨l, e⟩
  · have l := le_i l
    rw [so_e e]
    exact ⟨rfl, Or.inl ⟨Int32.toInt_inj.mp (by omega), rfl⟩⟩
  · have l := nle_i l
    replace e := ce_e a3 e
    rw [so_e (gg_e e)]
    exact ⟨rfl, Or.inr ⟨l, t4 _⟩⟩
/-- no figure at the clock -/
theorem rc_z (S : RdV V N hc hr) (z6 : hI hc (V 4) 6 = 0) {o3 o4 : Int32 × Hp} (eb : sX9_byteAt hc (V 10) (hI hc (V 7) 2) = some o3) (ed : sX2_isDigit hc o3.1 = some o4) (w4 : o4.2 = hc) (n : o4.1 = 0) : ∀ f : Nat, sX7_readClock_7 F f hc (V 7) (V 4) (hI hc (V 7) 2) (0 : Int32) = some o → o = ((0 : Int32), hc) := by
  intro f e
  cases f with
  | zero => exact absurd e (by rw [sX7_readClock_7]; exact fun z => nomatch z)
  | succ f =>
    rw [sX7_readClock_7] at e
    replace e := bn_e (by decide) e
    replace e := ce_e S.1.2.1 e
    replace e := ce_e eb e
    rw [byt_g eb] at e
    replace e := ce_e ed e
    replace e := bp_e n e
    rw [w4] at e
    unfold sX7_readClock_71 sX7_readClock_86 sX7_readClock_99 at e
    replace e := bp_e (by rw [z6]; decide) e
    replace e := bp_e (ii_le.mpr (Int.le_refl _)) e
    exact so_e (gg_e e)
theorem posr_p (D : VD V) (Pc : VPc V hc) (Pr : VPr V hr) (Ln : LnV V hc) (c0 : hR hc (V 7) 0 = some (V 2)) (c1 : hR hc (V 10) 0 = some (V 49)) (b0 : hR hr (V 16) 4 = some (V 15)) (t1 : hI hc (V 10) 1 = N) (t3 : Rg 0 1200 N) (t4 : ∀ i, Rg 0 255 (hI hc (V 49) i)) (t5 : ∀ i : Nat, (i : Int) < N.toInt → (hI hr (V 82) i).toInt = sg (hI hc (V 49) i).toInt) (G : GeV V hc hr) (A : ZA V (V 2) (V 15) hc hr) (Q : LwQ V hc hr) (e : sX7_read F hc (V 7) (V 10) (V 4) = some o) (e' : sX15_isPosition F hr (V 16) (V 82) N (V 13) = some o') : RdBad V o o' ∨ (o.1 = (-1 : Int32) ∧ o'.1 = 1 ∧ PosV V o.2 o'.2) := by
  have z0 : (0 : Int32).toInt = 0 := rfl
  have n0 := t3.1
  unfold sX7_read at e
  unfold sX15_isPosition at e'
  replace e := nm_s e; obtain ⟨h1, w1, e⟩ := e
  replace e := nm_s e; obtain ⟨h2, w2, e⟩ := e
  replace e := cl_s e; obtain ⟨h3, e3, e⟩ := e
  replace e' := nm_s e'; obtain ⟨k1, u1, e'⟩ := e'
  replace e' := nm_s e'; obtain ⟨k2, u2, e'⟩ := e'
  replace e' := nm_s e'; obtain ⟨k3, u3, e'⟩ := e'
  replace e' := cl_s e'; obtain ⟨k4, f4, e'⟩ := e'
  have Rh : ∀ a i, ¬ (a = V 7 ∧ i = 1) → hR h2 a i = hR hc a i := fun a i n => by
    rw [w2]
    show hR h1 a i = _
    rw [w1, r_R, if_neg n]
  have Rk : ∀ a i, ¬ (a = V 16 ∧ i = 17) → hR k3 a i = hR hr a i := fun a i n => by
    rw [u3]
    show hR k2 a i = _
    rw [u2]
    show hR k1 a i = _
    rw [u1, r_R, if_neg n]
  have Ih : ∀ a i, ¬ a = V 7 → hI h2 a i = hI hc a i := fun a i n => by
    rw [w2, rI_a n, w1]; rfl
  have Ik : ∀ a i, ¬ (a = V 16 ∧ (i = 18 ∨ i = 19)) → hI k3 a i = hI hr a i := fun a i n => by
    rw [u3, r_I, if_neg (fun z => n ⟨z.1, Or.inr z.2⟩), u2, r_I, if_neg (fun z => n ⟨z.1, Or.inl z.2⟩), u1]; rfl
  have Jh : ∀ a i, hJ h2 a i = hJ hc a i := fun a i => by rw [w2, w1]; rfl
  have Jk : ∀ a i, hJ k3 a i = hJ hr a i := fun a i => by rw [u3, u2, u1]; rfl
  have h72 : hI h2 (V 7) 2 = 0 := by rw [w2, rI_s]
  have k19 : hI k3 (V 16) 19 = 0 := by rw [u3, rI_s]
  have vc1 : ∀ k, k ∈ vcr → k ∈ vql ∧ ¬ k = 7 := by decide
  have vr1 : ∀ k, k ∈ vrr → k ∈ vql ∧ ¬ k = 16 := by decide
  have ic : ∀ k, k ∈ vcr → ∀ i, hI h2 (V k) i = hI hc (V k) i := fun k hk i => Ih _ _ (vne D (vc1 k hk).2 (vc1 k hk).1)
  have ir : ∀ k, k ∈ vrr → ∀ i, hI k3 (V k) i = hI hr (V k) i := fun k hk i => Ik _ _ (fun z => vne D (vr1 k hk).2 (vr1 k hk).1 (by decide) z.1)
  have nR : ∀ i, ¬ (V 2 = V 7 ∧ i = 1) := fun i z => (vne D : ¬ V 2 = V 7) z.1
  have nK : ∀ i, ¬ (V 15 = V 16 ∧ i = 17) := fun i z => (vne D : ¬ V 15 = V 16) z.1
  obtain ⟨⟨a1, a2, a3, a4, a5, a6⟩, ⟨v1, v2, v3, v4, v5, v6, v7, v8, v9, v10⟩, ww⟩ := A
  obtain ⟨g1, g2, g3, g4⟩ := G
  have S2 : RdV V N h2 k3 := by
    refine ⟨⟨?_, ?_, ?_⟩, ⟨?_, ?_⟩, ⟨?_, ?_, t3, ?_, ?_⟩, ⟨by rw [h72, k19], by rw [h72]; decide, by rw [h72, z0]; exact n0⟩, ⟨?_, ?_, ?_, ?_⟩, ⟨⟨a1, ?_, ?_, ?_, ?_, ?_⟩, ⟨v1, ?_, ?_, ?_, ?_, ?_, ?_, ?_, ?_, ?_⟩, ww⟩, lwq_k Q (ic 2 (by decide)) (Jh _ _) (fun k hk => ic k (by
      have : ∀ k, k ∈ lc5 → k ∈ vcr := by decide
      exact this k hk)) (ir 15 (by decide)) (Jk _ _) (fun k hk => ir k (by
      have : ∀ k, k ∈ lr9 → k ∈ vrr := by decide
      exact this k hk))⟩
    · rw [Rh _ _ (fun z => absurd z.2 (by decide))]; exact c0
    · rw [w2]
      show hR h1 (V 7) 1 = _
      rw [w1, r_R, if_pos ⟨rfl, rfl⟩]
    · rw [Rh _ _ (fun z => (vne D : ¬ V 10 = V 7) z.1)]; exact c1
    · rw [u3]
      show hR k2 (V 16) 17 = _
      rw [u2]
      show hR k1 (V 16) 17 = _
      rw [u1, r_R, if_pos ⟨rfl, rfl⟩]
    · rw [Rk _ _ (fun z => absurd z.2 (by decide))]; exact b0
    · rw [ic 10 (by decide)]; exact t1
    · rw [u3, rI_o (by decide), u2, rI_s]
    · intro i; rw [ic 49 (by decide)]; exact t4 i
    · intro i hi; rw [ir 82 (by decide), ic 49 (by decide)]; exact t5 i hi
    · rw [ic 2 (by decide), Ik _ _ (fun z => by omega)]; exact g1
    · rw [ic 2 (by decide), Ik _ _ (fun z => by omega)]; exact g2
    · rw [ic 2 (by decide)]; exact g3
    · rw [ic 2 (by decide)]; exact g4
    · rw [Rh _ _ (nR _)]; exact a2
    · rw [Rh _ _ (nR _)]; exact a3
    · rw [Rh _ _ (nR _)]; exact a4
    · rw [Rh _ _ (nR _)]; exact a5
    · rw [Rh _ _ (nR _)]; exact a6
    · rw [Rk _ _ (nK _)]; exact v2
    · rw [Rk _ _ (nK _)]; exact v3
    · rw [Rk _ _ (nK _)]; exact v4
    · rw [Rk _ _ (nK _)]; exact v5
    · rw [Rk _ _ (nK _)]; exact v6
    · rw [Rk _ _ (nK _)]; exact v7
    · rw [Rk _ _ (nK _)]; exact v8
    · rw [Rk _ _ (nK _)]; exact v9
    · rw [Rk _ _ (nK _)]; exact v10
  have n47 : ∀ i, ¬ (V 4 = V 7 ∧ i = 1) := fun i z => (vne D : ¬ V 4 = V 7) z.1
  have n13 : ∀ i, ¬ (V 13 = V 16 ∧ i = 17) := fun i z => (vne D : ¬ V 13 = V 16) z.1
  have Pc2 : VPc V h2 := ⟨by rw [Rh _ _ (n47 _)]; exact Pc.1, by rw [Rh _ _ (n47 _)]; exact Pc.2.1, by rw [Rh _ _ (n47 _)]; exact Pc.2.2.1, by rw [Rh _ _ (n47 _)]; exact Pc.2.2.2.1, by rw [Rh _ _ (n47 _)]; exact Pc.2.2.2.2⟩
  have Pr3 : VPr V k3 := ⟨by rw [Rk _ _ (n13 _)]; exact Pr.1, by rw [Rk _ _ (n13 _)]; exact Pr.2.1, by rw [Rk _ _ (n13 _)]; exact Pr.2.2.1, by rw [Rk _ _ (n13 _)]; exact Pr.2.2.2⟩
  have Ln2 : LnV V h2 := by rw [w2, w1]; exact Ln
  obtain ⟨A3, d1, d2, d3, d4, d5, d6, d7, d8, d9, d10⟩ := clear_v D Pc2 Ln2 e3
  unfold sX12_clear at f4
  obtain ⟨B4, m1, m2, m3, m4, m5, m6, m7⟩ := clr_2 D F Pr3 (by decide) (by decide) (fun d hd => by rw [z0] at hd; omega) f4
  have S3 : RdV V N h3 k4 := rdv_w D S2 (sub_l A3 (by decide)) (sub_l B4 (by decide)) ⟨by rw [fvi D A3 7 2, fvi D B4 16 19, h72, k19], by rw [fvi D A3 7 2, h72]; decide, by rw [fvi D A3 7 2, h72, z0]; exact n0⟩
  have Pc3 := vpc_f Pc2 A3
  have Pr4 := vpr_f Pr3 B4
  have zm : (-1 : Int32).toInt = -1 := by decide
  have P3 : PosV V h3 k4 := by
    refine ⟨⟨fun s hs => ?_, fun d hd s hs => ?_, fun d hd => ?_, fun s hs => ?_⟩, ?_, ?_, Or.inl ⟨m6, d9, d10⟩, ⟨fun s hs => ?_, fun d hd => ?_⟩, fun i hi => ?_, ?_⟩
    · show _ = (hI k4 (V 62) s).toInt - 1
      rw [d1 s hs, m1 s hs, zm, z0]; rfl
    · show bitJ _ s = true ↔ 0 < (hI k4 (V 62) s).toInt ∧ _
      rw [d2 d hd, m1 s hs, bj_zero]
      exact ⟨fun z => absurd z (by decide), fun z => absurd z.1 (by decide)⟩
    · refine Or.inl ⟨d3 d hd, fun s hs z y => ?_⟩
      have y' : (hI k4 (V 62) s).toInt = _ := y
      rw [m1 s hs, z0] at y'
      omega
    · show 0 ≤ (hI k4 (V 62) s).toInt ∧ (hI k4 (V 62) s).toInt ≤ 24
      rw [m1 s hs]
      exact ⟨by decide, by decide⟩
    · show hI h3 (V 4) 5 = hI k4 (V 13) 1
      rw [d6, m4]
    · show hJ h3 (V 4) 8 = hJ k4 (V 13) 2
      rw [d8, m5]
    · rw [d4 s hs]; show (0 : Int64).toBitVec.toNat < 2 ^ 60; decide
    · rw [m2 d hd, d4 _ (Nat.mod_lt _ (by decide)), z0]
      refine ⟨?_, by decide⟩
      show (0 : Int) = ((0 / 2 ^ (5 * (d / 2)) % 32 : Nat) : Int)
      rw [Nat.zero_div]; rfl
    · have : i < 2 := by omega
      rw [d5 i this, m3 i this]
    · show hI h3 (V 4) 6 = hI k4 (V 13) 7
      rw [d7, m7]
  -- men
  replace e := cl_s e; obtain ⟨o4, e4, e⟩ := e
  replace e' := cl_s e'; obtain ⟨q5, f5, e'⟩ := e'
  rcases stg (Q := fun g => FrV V (wl wcM) h3 o4.2 ∧ FrV V (wl wrM) k4 g ∧ PMe V o4.2 g) D (by
    rcases rk_p D S3 Pc3 Pr4 P3.1 (fun s hs => by unfold mV; rw [m1 s hs]; rfl) e4 f5 with r | ⟨r1, r2, g, r3, r4, r5, r6⟩
    · exact Or.inl r
    · exact Or.inr ⟨r1, g, ⟨r2, r3, r5⟩, r4, r6⟩) e e' with r | ⟨g, ⟨A4, B5, q1⟩, S4, e, yq, e'⟩
  · exact Or.inl r
  rw [yq] at e'
  have P4 : PosV V o4.2 g := ⟨q1, psd_k P3.2.1 (fvi D A4 4 5) (fvi D B5 13 1), prt_k P3.2.2.1 (fvj D A4 4 8) (fvj D B5 13 2), pps_k P3.2.2.2.1 (fvj D A4 4 9) (fvj D A4 4 10) (fvi D B5 13 3) (fun i => fvI D B5 63 i), phd_k P3.2.2.2.2.1 (fun i => fvJ D A4 37 i) (fun i => fvI D B5 64 i), pck_k P3.2.2.2.2.2.1 (fun i => fvI D A4 38 i) (fun i => fvI D B5 65 i), pcl_k P3.2.2.2.2.2.2 (fvi D A4 4 6) (fvi D B5 13 7)⟩
  have A4' : FrV V (wl [(7, 2)]) o4.2 (wI o4.2 (V 7) 2 ((hI o4.2 (V 7) 2) + (1 : Int32))) := fv_w rfl
  have B5' : FrV V (wl [(16, 19)]) g (wI g (V 16) 19 ((hI g (V 16) 19) + (1 : Int32))) := fv_w rfl
  have P5 := pos_at D P4 A4' B5'
  have Pc5 := vpc_f (vpc_f Pc3 A4) A4'
  have Pr5 := vpr_f (vpr_f Pr4 B5) B5'
  have y9 : hJ (wI o4.2 (V 7) 2 ((hI o4.2 (V 7) 2) + (1 : Int32))) (V 4) 9 = 0 := by rw [fvj D A4' 4 9, fvj D A4 4 9]; exact d9
  have y10 : hJ (wI o4.2 (V 7) 2 ((hI o4.2 (V 7) 2) + (1 : Int32))) (V 4) 10 = 0 := by rw [fvj D A4' 4 10, fvj D A4 4 10]; exact d10
  have y3 : hI (wI g (V 16) 19 ((hI g (V 16) 19) + (1 : Int32))) (V 13) 3 = 0 := by rw [fvi D B5' 13 3, fvi D B5 13 3]; exact m6
  have y6 : hI (wI o4.2 (V 7) 2 ((hI o4.2 (V 7) 2) + (1 : Int32))) (V 4) 6 = 0 := by rw [fvi D A4' 4 6, fvi D A4 4 6]; exact d7
  clear yq A4 B5 q1 P4 A3 B4 d1 d2 d3 d4 d5 d6 d7 d8 d9 d10 m1 m2 m3 m4 m5 m6 m7 S3 P3
  dsimp only at e e'
  generalize wI o4.2 (V 7) 2 ((hI o4.2 (V 7) 2) + (1 : Int32)) = c5 at *
  generalize wI g (V 16) 19 ((hI g (V 16) 19) + (1 : Int32)) = r5 at *
  -- whose turn
  replace e := cl_s e; obtain ⟨o8, e8, e⟩ := e
  replace e' := cl_s e'; obtain ⟨q7, f7, e'⟩ := e'
  rcases stg (Q := fun g => FrV V (wl wcS) c5 o8.2 ∧ FrV V (wl wrS) r5 g ∧ PSd V o8.2 g) D (by
    rcases side_p D S4 e8 f7 with r | ⟨r1, r2, g, r3, r4, r5, r6⟩
    · exact Or.inl r
    · exact Or.inr ⟨r1, g, ⟨r2, r3, r5⟩, r4, r6⟩) e e' with r | ⟨g2, ⟨A8, B7, q2⟩, S8, e, yq, e'⟩
  · exact Or.inl r
  rw [yq] at e'
  have P8 : PosV V o8.2 g2 := ⟨pme_k P5.1 (fun i => fvI D A8 34 i) (fun i => fvI D A8 36 i) (fun i => fvJ D A8 35 i) (fvi D A8 2 4) (fun i => fvI D B7 62 i), q2, prt_k P5.2.2.1 (fvj D A8 4 8) (fvj D B7 13 2), pps_k P5.2.2.2.1 (fvj D A8 4 9) (fvj D A8 4 10) (fvi D B7 13 3) (fun i => fvI D B7 63 i), phd_k P5.2.2.2.2.1 (fun i => fvJ D A8 37 i) (fun i => fvI D B7 64 i), pck_k P5.2.2.2.2.2.1 (fun i => fvI D A8 38 i) (fun i => fvI D B7 65 i), pcl_k P5.2.2.2.2.2.2 (fvi D A8 4 6) (fvi D B7 13 7)⟩
  have A8' : FrV V (wl [(7, 2)]) o8.2 (wI o8.2 (V 7) 2 ((hI o8.2 (V 7) 2) + (1 : Int32))) := fv_w rfl
  have B7' : FrV V (wl [(16, 19)]) g2 (wI g2 (V 16) 19 ((hI g2 (V 16) 19) + (1 : Int32))) := fv_w rfl
  have P9 := pos_at D P8 A8' B7'
  have Pc9 := vpc_f (vpc_f Pc5 A8) A8'
  have Pr9 := vpr_f (vpr_f Pr5 B7) B7'
  rw [← fvj D A8 4 9, ← fvj D A8' 4 9] at y9
  rw [← fvj D A8 4 10, ← fvj D A8' 4 10] at y10
  rw [← fvi D B7 13 3, ← fvi D B7' 13 3] at y3
  rw [← fvi D A8 4 6, ← fvi D A8' 4 6] at y6
  clear yq A8 B7 q2 P8 P5 Pc5 Pr5 S4
  dsimp only at e e'
  generalize wI o8.2 (V 7) 2 ((hI o8.2 (V 7) 2) + (1 : Int32)) = c9 at *
  generalize wI g2 (V 16) 19 ((hI g2 (V 16) 19) + (1 : Int32)) = r9 at *
  -- rights
  replace e := cl_s e; obtain ⟨o12, e12, e⟩ := e
  replace e' := cl_s e'; obtain ⟨q9, f9, e'⟩ := e'
  rcases stg (Q := fun g => FrV V (wl wcT) c9 o12.2 ∧ FrV V (wl wrT) r9 g ∧ PRt V o12.2 g) D (by
    rcases rt_p D S8 P9.2.2.1 e12 f9 with r | ⟨r1, r2, g, r3, r4, r5, r6⟩
    · exact Or.inl r
    · exact Or.inr ⟨r1, g, ⟨r2, r3, r5⟩, r4, r6⟩) e e' with r | ⟨g3, ⟨A12, B9, q3⟩, S12, e, yq, e'⟩
  · exact Or.inl r
  rw [yq] at e'
  have P12 : PosV V o12.2 g3 := ⟨pme_k P9.1 (fun i => fvI D A12 34 i) (fun i => fvI D A12 36 i) (fun i => fvJ D A12 35 i) (fvi D A12 2 4) (fun i => fvI D B9 62 i), psd_k P9.2.1 (fvi D A12 4 5) (fvi D B9 13 1), q3, pps_k P9.2.2.2.1 (fvj D A12 4 9) (fvj D A12 4 10) (fvi D B9 13 3) (fun i => fvI D B9 63 i), phd_k P9.2.2.2.2.1 (fun i => fvJ D A12 37 i) (fun i => fvI D B9 64 i), pck_k P9.2.2.2.2.2.1 (fun i => fvI D A12 38 i) (fun i => fvI D B9 65 i), pcl_k P9.2.2.2.2.2.2 (fvi D A12 4 6) (fvi D B9 13 7)⟩
  have A12' : FrV V (wl [(7, 2)]) o12.2 (wI o12.2 (V 7) 2 ((hI o12.2 (V 7) 2) + (1 : Int32))) := fv_w rfl
  have B9' : FrV V (wl [(16, 19)]) g3 (wI g3 (V 16) 19 ((hI g3 (V 16) 19) + (1 : Int32))) := fv_w rfl
  have P13 := pos_at D P12 A12' B9'
  have Pc13 := vpc_f (vpc_f Pc9 A12) A12'
  have Pr13 := vpr_f (vpr_f Pr9 B9) B9'
  rw [← fvj D A12 4 9, ← fvj D A12' 4 9] at y9
  rw [← fvj D A12 4 10, ← fvj D A12' 4 10] at y10
  rw [← fvi D B9 13 3, ← fvi D B9' 13 3] at y3
  rw [← fvi D A12 4 6, ← fvi D A12' 4 6] at y6
  clear yq A12 B9 q3 P12 P9 Pc9 Pr9 S8
  dsimp only at e e'
  generalize wI o12.2 (V 7) 2 ((hI o12.2 (V 7) 2) + (1 : Int32)) = c13 at *
  generalize wI g3 (V 16) 19 ((hI g3 (V 16) 19) + (1 : Int32)) = r13 at *
  -- PASS
  replace e := cl_s e; obtain ⟨o16, e16, e⟩ := e
  replace e' := cl_s e'; obtain ⟨q11, f11, e'⟩ := e'
  rcases stg (Q := fun g => FrV V (wl wcP) c13 o16.2 ∧ FrV V (wl wrP) r13 g ∧ PPs V o16.2 g) D (by
    rcases ps_p D S12 Pr13 y9 y10 y3 e16 f11 with r | ⟨r1, r2, g, r3, r4, r5, r6⟩
    · exact Or.inl r
    · exact Or.inr ⟨r1, g, ⟨r2, r3, r5⟩, r4, r6⟩) e e' with r | ⟨g4, ⟨A16, B11, q4⟩, S16, e, yq, e'⟩
  · exact Or.inl r
  rw [yq] at e'
  have P16 : PosV V o16.2 g4 := ⟨pme_k P13.1 (fun i => fvI D A16 34 i) (fun i => fvI D A16 36 i) (fun i => fvJ D A16 35 i) (fvi D A16 2 4) (fun i => fvI D B11 62 i), psd_k P13.2.1 (fvi D A16 4 5) (fvi D B11 13 1), prt_k P13.2.2.1 (fvj D A16 4 8) (fvj D B11 13 2), q4, phd_k P13.2.2.2.2.1 (fun i => fvJ D A16 37 i) (fun i => fvI D B11 64 i), pck_k P13.2.2.2.2.2.1 (fun i => fvI D A16 38 i) (fun i => fvI D B11 65 i), pcl_k P13.2.2.2.2.2.2 (fvi D A16 4 6) (fvi D B11 13 7)⟩
  have A16' : FrV V (wl [(7, 2)]) o16.2 (wI o16.2 (V 7) 2 ((hI o16.2 (V 7) 2) + (1 : Int32))) := fv_w rfl
  have B11' : FrV V (wl [(16, 19)]) g4 (wI g4 (V 16) 19 ((hI g4 (V 16) 19) + (1 : Int32))) := fv_w rfl
  have P17 := pos_at D P16 A16' B11'
  have Pc17 := vpc_f (vpc_f Pc13 A16) A16'
  have Pr17 := vpr_f (vpr_f Pr13 B11) B11'
  rw [← fvi D A16 4 6, ← fvi D A16' 4 6] at y6
  clear yq A16 B11 q4 P16 P13 Pc13 Pr13 S12 y9 y10 y3
  dsimp only at e e'
  generalize wI o16.2 (V 7) 2 ((hI o16.2 (V 7) 2) + (1 : Int32)) = c17 at *
  generalize wI g4 (V 16) 19 ((hI g4 (V 16) 19) + (1 : Int32)) = r17 at *
  -- hands
  replace e := cl_s e; obtain ⟨o20, e20, e⟩ := e
  replace e' := cl_s e'; obtain ⟨q13, f13, e'⟩ := e'
  rcases stg (Q := fun g => FrV V (wl wcH) c17 o20.2 ∧ FrV V (wl wrH) r17 g ∧ PHd V o20.2 g) D (by
    rcases hd_p D S16 Pc17 Pr17 P17.2.2.2.2.1 e20 f13 with r | ⟨r1, r2, g, r3, r4, r5, r6⟩
    · exact Or.inl r
    · exact Or.inr ⟨r1, g, ⟨r2, r3, r5⟩, r4, r6⟩) e e' with r | ⟨g5, ⟨A20, B13, q5⟩, S20, e, yq, e'⟩
  · exact Or.inl r
  rw [yq] at e'
  have P20 : PosV V o20.2 g5 := ⟨pme_k P17.1 (fun i => fvI D A20 34 i) (fun i => fvI D A20 36 i) (fun i => fvJ D A20 35 i) (fvi D A20 2 4) (fun i => fvI D B13 62 i), psd_k P17.2.1 (fvi D A20 4 5) (fvi D B13 13 1), prt_k P17.2.2.1 (fvj D A20 4 8) (fvj D B13 13 2), pps_k P17.2.2.2.1 (fvj D A20 4 9) (fvj D A20 4 10) (fvi D B13 13 3) (fun i => fvI D B13 63 i), q5, pck_k P17.2.2.2.2.2.1 (fun i => fvI D A20 38 i) (fun i => fvI D B13 65 i), pcl_k P17.2.2.2.2.2.2 (fvi D A20 4 6) (fvi D B13 13 7)⟩
  have A20' : FrV V (wl [(7, 2)]) o20.2 (wI o20.2 (V 7) 2 ((hI o20.2 (V 7) 2) + (1 : Int32))) := fv_w rfl
  have B13' : FrV V (wl [(16, 19)]) g5 (wI g5 (V 16) 19 ((hI g5 (V 16) 19) + (1 : Int32))) := fv_w rfl
  have P21 := pos_at D P20 A20' B13'
  have Pc21 := vpc_f (vpc_f Pc17 A20) A20'
  have Pr21 := vpr_f (vpr_f Pr17 B13) B13'
  rw [← fvi D A20 4 6, ← fvi D A20' 4 6] at y6
  clear yq A20 B13 q5 P20 P17 Pc17 Pr17 S16
  dsimp only at e e'
  generalize wI o20.2 (V 7) 2 ((hI o20.2 (V 7) 2) + (1 : Int32)) = c21 at *
  generalize wI g5 (V 16) 19 ((hI g5 (V 16) 19) + (1 : Int32)) = r21 at *
  -- checks
  replace e := cl_s e; obtain ⟨o24, e24, e⟩ := e
  replace e' := cl_s e'; obtain ⟨q15, f15, e'⟩ := e'
  unfold sX7_readChecks at e24
  unfold sX15_readRest at f15
  have no : ∀ {g : Hp}, q15 = ((0 : Int32), g) → sX15_isPosition_71 F g = some o' := fun {g} z => by
    rw [z] at e'
    exact bp_e rfl e'
  rcases ck_2 D F F S20 Pc21 Pr21 (by decide) (by decide) (fun i hi => by rw [z0] at hi; omega) e24 f15 with ⟨r1, r2, r3⟩ | ⟨r1, A24, g6, B15, S24, q6, f15⟩
  · exact Or.inl (bad_1 r3 (bp_e r1 e) (bp_e r2 e'))
  have P24 : PosV V o24.2 g6 := ⟨pme_k P21.1 (fun i => fvI D A24 34 i) (fun i => fvI D A24 36 i) (fun i => fvJ D A24 35 i) (fvi D A24 2 4) (fun i => fvI D B15 62 i), psd_k P21.2.1 (fvi D A24 4 5) (fvi D B15 13 1), prt_k P21.2.2.1 (fvj D A24 4 8) (fvj D B15 13 2), pps_k P21.2.2.2.1 (fvj D A24 4 9) (fvj D A24 4 10) (fvi D B15 13 3) (fun i => fvI D B15 63 i), phd_k P21.2.2.2.2.1 (fun i => fvJ D A24 37 i) (fun i => fvI D B15 64 i), q6, pcl_k P21.2.2.2.2.2.2 (fvi D A24 4 6) (fvi D B15 13 7)⟩
  rw [← fvi D A24 4 6] at y6
  replace e := bn_e (fun z => by rw [r1] at z; exact absurd z (by decide)) e
  replace e := cl_s e; obtain ⟨o26, e26, e⟩ := e
  replace f15 := cl_s f15; obtain ⟨q2, f2, f15⟩ := f15
  unfold sX15_readRest_67 at f15
  rcases tk_p D S24 ⟨by decide, by decide⟩ e26 f2 with ⟨y, y'⟩ | ⟨y, y', S26⟩
  · rw [y] at e
    rw [y'] at f15
    exact Or.inl (bad_1 S24.2.2.2.1 (bp_e rfl e) (no (so_e (bp_e rfl f15))))
  have A26 : FrV V (wl [(7, 2)]) o24.2 o26.2 := by rw [y]; exact fv_w rfl
  have B26 : FrV V (wl [(16, 19)]) g6 q2.2 := by rw [y']; exact fv_w rfl
  have P26 := pos_at D P24 A26 B26
  rw [← fvi D A26 4 6] at y6
  replace e := bn_e (fun z => by rw [y] at z; exact absurd z (show ¬ (1 : Int32) = 0 by decide)) e
  replace f15 := bn_e (fun z => by rw [y'] at z; exact absurd z (show ¬ (1 : Int32) = 0 by decide)) f15
  -- the clock
  replace e := cl_s e; obtain ⟨o28, e28, e⟩ := e
  unfold sX7_readClock at e28
  replace e28 := nx_e e28
  replace f15 := cl_s f15; obtain ⟨q4, f4', f15⟩ := f15
  replace f15 := cl_s f15; obtain ⟨q5, f5', f15⟩ := f15
  obtain ⟨ob, eb⟩ : ∃ ob, sX9_byteAt o26.2 (V 10) (hI o26.2 (V 7) 2) = some ob := by
    cases F with
    | zero => exact absurd e28 (by rw [sX7_readClock_7]; exact fun z => nomatch z)
    | succ n =>
      rw [sX7_readClock_7] at e28
      replace e28 := bn_e (by decide) e28
      replace e28 := ce_e S26.1.2.1 e28
      replace e28 := cl_s e28; obtain ⟨ob, eb, _⟩ := e28
      exact ⟨ob, eb⟩
  obtain ⟨od, ed⟩ : ∃ od, sX2_isDigit o26.2 ob.1 = some od := by
    cases F with
    | zero => exact absurd e28 (by rw [sX7_readClock_7]; exact fun z => nomatch z)
    | succ n =>
      rw [sX7_readClock_7] at e28
      replace e28 := bn_e (by decide) e28
      replace e28 := ce_e S26.1.2.1 e28
      replace e28 := ce_e eb e28
      rw [byt_g eb] at e28
      replace e28 := cl_s e28; obtain ⟨od, ed, _⟩ := e28
      exact ⟨od, ed⟩
  obtain ⟨_, w4, H⟩ := by_p S26 eb f4'
  rw [w4] at f5'
  obtain ⟨wd, w5, alt⟩ := dg_b H ed f5'
  rw [w5] at f15
  rcases alt with ⟨n1, n2⟩ | ⟨n1, n2, _⟩
  · have y28 := rc_z S26 y6 eb ed wd n1 F e28
    rw [y28] at e
    exact Or.inl (bad_1 S26.2.2.2.1 (bp_e rfl e) (no (so_e (bp_e n2 f15))))
  replace f15 := bn_e n2 f15
  replace f15 := nx_e f15
  rw [← S26.2.2.2.1.1] at f15
  rcases cl_7 D S26.2.2.2.1.2.1 F F S26 y6 ⟨by decide, Or.inl (by decide)⟩ (by decide) (by decide) (by rw [z0]; omega) (fun _ o3 o4 z3 z4 => by
    have yy : o3 = ob := so_e (z3.symm.trans eb) ▸ rfl
    rw [yy] at z4
    have y4 : o4 = od := Option.some.inj (z4.symm.trans ed)
    rw [y4]
    exact n1) e28 f15 with ⟨s1, s2, s3⟩ | ⟨s1, A28, B28, S28, q7, alt⟩
  · exact Or.inl (bad_1 s3 (bp_e s1 e) (bp_e s2 e'))
  have P28 : PosV V o28.2 q15.2 := ⟨pme_k P26.1 (fun i => fvI D A28 34 i) (fun i => fvI D A28 36 i) (fun i => fvJ D A28 35 i) (fvi D A28 2 4) (fun i => fvI D B28 62 i), psd_k P26.2.1 (fvi D A28 4 5) (fvi D B28 13 1), prt_k P26.2.2.1 (fvj D A28 4 8) (fvj D B28 13 2), pps_k P26.2.2.2.1 (fvj D A28 4 9) (fvj D A28 4 10) (fvi D B28 13 3) (fun i => fvI D B28 63 i), phd_k P26.2.2.2.2.1 (fun i => fvJ D A28 37 i) (fun i => fvI D B28 64 i), pck_k P26.2.2.2.2.2.1 (fun i => fvI D A28 38 i) (fun i => fvI D B28 65 i), q7⟩
  replace e := bn_e (fun z => by rw [s1] at z; exact absurd z (by decide)) e
  replace e := ce_e S28.1.2.1 e
  replace e := cl_s e; obtain ⟨o31, e31, e⟩ := e
  obtain ⟨w31, alt31⟩ := byt_v S28 e31
  rw [w31] at e
  rcases alt with ⟨t, at'⟩ | ⟨t, at'⟩
  · rcases alt31 with ⟨_, m⟩ | ⟨l, _⟩
    rotate_left
    · rw [at'] at l; omega
    replace e := bp_e m e
    unfold sX7_read_144 sX7_read_157 at e
    replace e := bn_e (by decide) e
    replace e' := bn_e (fun z => by rw [t] at z; exact absurd z (by decide)) e'
    unfold sX15_isPosition_72 at e'
    right
    rw [so_e e, so_e (gg_e e')]
    exact ⟨rfl, rfl, P28⟩
  · rcases alt31 with ⟨l, _⟩ | ⟨_, l⟩
    · rw [l] at at'; omega
    replace e := bn_e (fun z => by
      have := l.1
      rw [z] at this
      exact absurd this (by decide)) e
    exact Or.inl (bad_1 S28.2.2.2.1 e (bp_e t e'))
end
end
section
/-! pure: flags, vectors, squares on a line -/
def fbt (x : Int) (n : Nat) : Bool := decide (x / ((2 ^ n : Nat) : Int) % 2 = 1)
theorem fb_all : ∀ j : Fin 64, ((nI j.val &&& (1 : Int32)) = 0 ↔ fbt (j.val : Int) 0 = false) ∧ ((nI j.val &&& (2 : Int32)) = 0 ↔ fbt (j.val : Int) 1 = false) ∧ ((nI j.val &&& (4 : Int32)) = 0 ↔ fbt (j.val : Int) 2 = false) ∧ ((nI j.val &&& (8 : Int32)) = 0 ↔ fbt (j.val : Int) 3 = false) ∧ ((nI j.val &&& (16 : Int32)) = 0 ↔ fbt (j.val : Int) 4 = false) ∧ ((nI j.val &&& (32 : Int32)) = 0 ↔ fbt (j.val : Int) 5 = false) := by decide +kernel
theorem fb_e {x : Int32} (i : Rg 0 63 x) : ((x &&& (1 : Int32)) = 0 ↔ fbt x.toInt 0 = false) ∧ ((x &&& (2 : Int32)) = 0 ↔ fbt x.toInt 1 = false) ∧ ((x &&& (4 : Int32)) = 0 ↔ fbt x.toInt 2 = false) ∧ ((x &&& (8 : Int32)) = 0 ↔ fbt x.toInt 3 = false) ∧ ((x &&& (16 : Int32)) = 0 ↔ fbt x.toInt 4 = false) ∧ ((x &&& (32 : Int32)) = 0 ↔ fbt x.toInt 5 = false) := by
  obtain ⟨j, ej, tj, hj⟩ := rg_nI i (Int.le_refl 0)
  have j64 : j < 64 := by have := i.2; omega
  have a := fb_all ⟨j, j64⟩
  rw [tj, ej]
  exact a
def vXi (a b : Int) (fo : Bool) (d : Nat) : Int := if fo = true then a else if d % 2 = 1 then -(if d / 4 % 2 = 1 then b else a) else (if d / 4 % 2 = 1 then b else a)
def vYi (a b sd : Int) (fo : Bool) (d : Nat) : Int := if fo = true then (if sd = 0 then b else -b) else if d / 2 % 2 = 1 then -(if d / 4 % 2 = 1 then a else b) else (if d / 4 % 2 = 1 then a else b)
/-- the reference leaves out vectors that come twice -/
def vOk (a b : Int) (fo : Bool) (d : Nat) : Bool := if fo = true then decide (d = 0) else (!decide (d % 2 = 1) || !decide ((if d / 4 % 2 = 1 then b else a) = 0)) && (!decide (d / 2 % 2 = 1) || !decide ((if d / 4 % 2 = 1 then a else b) = 0)) && (!decide (d / 4 % 2 = 1) || !decide (a.natAbs = b.natAbs))
theorem vok_all : ∀ i j : Fin 15, ∀ d : Fin 8, ∃ e : Fin 8, vOk ((i.val : Int) - 7) ((j.val : Int) - 7) false e.val = true ∧ vXi ((i.val : Int) - 7) ((j.val : Int) - 7) false e.val = vXi ((i.val : Int) - 7) ((j.val : Int) - 7) false d.val ∧ vYi ((i.val : Int) - 7) ((j.val : Int) - 7) 0 false e.val = vYi ((i.val : Int) - 7) ((j.val : Int) - 7) 0 false d.val := by decide +kernel
theorem vy_f (a b sd : Int) (d : Nat) : vYi a b sd false d = vYi a b 0 false d := rfl
theorem vok_ex {a b sd : Int} {fo : Bool} {d : Nat} (ia : -7 ≤ a ∧ a ≤ 7) (ib : -7 ≤ b ∧ b ≤ 7) (hd : d < 8) : ∃ e, e < 8 ∧ vOk a b fo e = true ∧ vXi a b fo e = vXi a b fo d ∧ vYi a b sd fo e = vYi a b sd fo d := by
  cases fo with
  | true => exact ⟨0, by decide, rfl, rfl, rfl⟩
  | false =>
    obtain ⟨i, hi⟩ : ∃ i : Nat, a = (i : Int) - 7 := ⟨(a + 7).toNat, by omega⟩
    obtain ⟨j, hj⟩ : ∃ j : Nat, b = (j : Int) - 7 := ⟨(b + 7).toNat, by omega⟩
    obtain ⟨e, e1, e2, e3⟩ := vok_all ⟨i, by omega⟩ ⟨j, by omega⟩ ⟨d, hd⟩
    rw [hi, hj]
    exact ⟨e.val, e.isLt, e1, e2, e3⟩
theorem v_sq {a b sd : Int} {fo : Bool} {d : Nat} : vXi a b fo d * vXi a b fo d + vYi a b sd fo d * vYi a b sd fo d = a * a + b * b := by
  have n : ∀ z : Int, -z * -z = z * z := fun z => Int.neg_mul_neg z z
  unfold vXi vYi
  split
  · split
    · rfl
    · rw [n]
  · split <;> split <;> split <;> (try simp only [n]) <;> omega
theorem sq_pos {a b : Int} (n : ¬ (a = 0 ∧ b = 0)) : 0 < a * a + b * b := by
  have nn : ∀ z : Int, 0 ≤ z * z := fun z => by
    by_cases c : 0 ≤ z
    · exact Int.mul_nonneg c c
    · exact Int.mul_nonneg_of_nonpos_of_nonpos (by omega) (by omega)
  have ps : ∀ z : Int, ¬ z = 0 → 0 < z * z := fun z h => by
    by_cases c : 0 < z
    · exact Int.mul_pos c c
    · exact Int.mul_pos_of_neg_of_neg (by omega) (by omega)
  have a1 := nn a
  have b1 := nn b
  by_cases c : a = 0
  · have := ps b (fun z => n ⟨c, z⟩)
    omega
  · have := ps a c
    omega
theorem v_rg {a b sd : Int} {fo : Bool} {d : Nat} (ia : -7 ≤ a ∧ a ≤ 7) (ib : -7 ≤ b ∧ b ≤ 7) : (-7 ≤ vXi a b fo d ∧ vXi a b fo d ≤ 7) ∧ (-7 ≤ vYi a b sd fo d ∧ vYi a b sd fo d ≤ 7) := by
  unfold vXi vYi
  split
  · split <;> omega
  · split <;> split <;> split <;> omega
/-- the square k vectors on, and whether it is on the board -/
def tgt (fi s x y k : Int) : Int := (s / fi + k * y) * fi + (s % fi + k * x)
def onK (fi ra s x y k : Int) : Prop := 0 ≤ s % fi + k * x ∧ s % fi + k * x < fi ∧ 0 ≤ s / fi + k * y ∧ s / fi + k * y < ra
theorem tgt_s {fi s x y k : Int} : tgt fi s x y k = s + k * (y * fi + x) := by
  unfold tgt
  have h := Int.mul_ediv_add_emod s fi
  rw [Int.add_mul, Int.mul_add, Int.mul_assoc, Int.mul_comm (s / fi) fi]
  omega
theorem dm_uni {fi A B A' B' : Int} (h1 : 0 ≤ B ∧ B < fi) (h2 : 0 ≤ B' ∧ B' < fi) (e : A * fi + B = A' * fi + B') : A = A' ∧ B = B' := by
  have key : ∀ {A A' B B' : Int}, 0 ≤ B ∧ B < fi → 0 ≤ B' ∧ B' < fi → A * fi + B = A' * fi + B' → ¬ A < A' := fun {A A' B B'} h1 h2 e l => by
    have := Int.mul_le_mul_of_nonneg_right (show A + 1 ≤ A' by omega) (show 0 ≤ fi by omega)
    rw [Int.add_mul, Int.one_mul] at this
    omega
  have a := key h1 h2 e
  have b := key h2 h1 e.symm
  have c : A = A' := by omega
  rw [c] at e
  exact ⟨c, by omega⟩
theorem tgt_u {fi ra s x y k x' y' k' : Int} (h1 : onK fi ra s x y k) (h2 : onK fi ra s x' y' k') (e : tgt fi s x y k = tgt fi s x' y' k') : k * x = k' * x' ∧ k * y = k' * y' := by
  obtain ⟨a, b⟩ := dm_uni ⟨h1.1, h1.2.1⟩ ⟨h2.1, h2.2.1⟩ e
  omega
theorem tgt_on {fi ra s x y k : Int} (f0 : 0 < fi) (h : onK fi ra s x y k) : 0 ≤ tgt fi s x y k ∧ tgt fi s x y k < fi * ra ∧ tgt fi s x y k % fi = s % fi + k * x ∧ tgt fi s x y k / fi = s / fi + k * y := by
  obtain ⟨a, b, c, d⟩ := h
  unfold tgt
  have m0 := Int.mul_nonneg c (show 0 ≤ fi by omega)
  have m1 := Int.mul_le_mul_of_nonneg_right (show s / fi + k * y + 1 ≤ ra by omega) (show 0 ≤ fi by omega)
  rw [Int.add_mul, Int.one_mul, Int.mul_comm ra fi] at m1
  refine ⟨by omega, by omega, ?_, ?_⟩
  · rw [Int.add_comm, Int.add_mul_emod_self_right, Int.emod_eq_of_lt a b]
  · rw [Int.add_comm, Int.add_mul_ediv_right _ _ (by omega), Int.ediv_eq_zero_of_lt a b]
    omega
theorem mid1 {w n x k j : Int} (h0 : 0 ≤ w ∧ w < n) (hk : 0 ≤ w + k * x ∧ w + k * x < n) (hj : 0 ≤ j ∧ j ≤ k) : 0 ≤ w + j * x ∧ w + j * x < n := by
  by_cases c : 0 ≤ x
  · have a := Int.mul_nonneg hj.1 c
    have b := Int.mul_le_mul_of_nonneg_right hj.2 c
    omega
  · have a := Int.mul_le_mul_of_nonpos_right hj.1 (show x ≤ 0 by omega)
    have b := Int.mul_le_mul_of_nonpos_right hj.2 (show x ≤ 0 by omega)
    rw [Int.zero_mul] at a
    omega
theorem onk_mid {fi ra s x y k j : Int} (f0 : 0 < fi) (s0 : 0 ≤ s) (s1 : s < fi * ra) (h : onK fi ra s x y k) (hj : 0 ≤ j ∧ j ≤ k) : onK fi ra s x y j := by
  obtain ⟨a, b, c, d⟩ := h
  have r1 : s / fi < ra := Int.ediv_lt_of_lt_mul f0 (by rw [Int.mul_comm]; exact s1)
  obtain ⟨p, q⟩ := mid1 (w := s % fi) (n := fi) ⟨Int.emod_nonneg _ (by omega), Int.emod_lt_of_pos _ f0⟩ ⟨a, b⟩ hj
  obtain ⟨u, v⟩ := mid1 (w := s / fi) (n := ra) ⟨Int.ediv_nonneg s0 (by omega), r1⟩ ⟨c, d⟩ hj
  exact ⟨p, q, u, v⟩
/-- a STEP's vector comes from s to t when gone along k times -/
def Rch (fi ra a b rd sd : Int) (fo : Bool) (s t k : Int) : Prop := 1 ≤ k ∧ k ≤ rd ∧ ∃ d : Nat, d < 8 ∧ onK fi ra s (vXi a b fo d) (vYi a b sd fo d) k ∧ t = tgt fi s (vXi a b fo d) (vYi a b sd fo d) k
theorem pos_sq {k k' : Int} (h : 0 < k) (h' : 0 < k') (e : k * k = k' * k') : k = k' := by
  have key : ∀ {k k' : Int}, 0 < k → 0 < k' → k * k = k' * k' → ¬ k < k' := fun {k k'} h h' e l => by
    have a := Int.mul_lt_mul_of_pos_left l h
    have b := Int.mul_lt_mul_of_pos_right l h'
    omega
  have a := key h h' e
  have b := key h' h e.symm
  omega
theorem v_uni {a b sd fi ra s k k' : Int} {fo : Bool} {d d' : Nat} (nz : ¬ (a = 0 ∧ b = 0)) (h : 1 ≤ k) (h' : 1 ≤ k') (o1 : onK fi ra s (vXi a b fo d) (vYi a b sd fo d) k) (o2 : onK fi ra s (vXi a b fo d') (vYi a b sd fo d') k') (e : tgt fi s (vXi a b fo d) (vYi a b sd fo d) k = tgt fi s (vXi a b fo d') (vYi a b sd fo d') k') : k = k' ∧ vXi a b fo d = vXi a b fo d' ∧ vYi a b sd fo d = vYi a b sd fo d' := by
  obtain ⟨ex, ey⟩ := tgt_u o1 o2 e
  have n := sq_pos nz
  have s1 := v_sq (a := a) (b := b) (sd := sd) (fo := fo) (d := d)
  have s2 := v_sq (a := a) (b := b) (sd := sd) (fo := fo) (d := d')
  have e1 : (k * k) * (a * a + b * b) = (k' * k') * (a * a + b * b) := by
    have l : (k * k) * (a * a + b * b) = (k * vXi a b fo d) * (k * vXi a b fo d) + (k * vYi a b sd fo d) * (k * vYi a b sd fo d) := by
      rw [← s1, Int.mul_add]
      congr 1
      · rw [Int.mul_assoc, Int.mul_assoc, Int.mul_left_comm k (vXi a b fo d)]
      · rw [Int.mul_assoc, Int.mul_assoc, Int.mul_left_comm k (vYi a b sd fo d)]
    have r : (k' * k') * (a * a + b * b) = (k' * vXi a b fo d') * (k' * vXi a b fo d') + (k' * vYi a b sd fo d') * (k' * vYi a b sd fo d') := by
      rw [← s2, Int.mul_add]
      congr 1
      · rw [Int.mul_assoc, Int.mul_assoc, Int.mul_left_comm k' (vXi a b fo d')]
      · rw [Int.mul_assoc, Int.mul_assoc, Int.mul_left_comm k' (vYi a b sd fo d')]
    rw [l, r, ex, ey]
  have kk : k = k' := pos_sq (by omega) (by omega) (Int.eq_of_mul_eq_mul_right (by omega) e1)
  rw [kk] at ex ey
  exact ⟨kk, Int.eq_of_mul_eq_mul_left (by omega) ex, Int.eq_of_mul_eq_mul_left (by omega) ey⟩
theorem rch_u {fi ra a b rd sd s t k k' : Int} {fo : Bool} (nz : ¬ (a = 0 ∧ b = 0)) (h : Rch fi ra a b rd sd fo s t k) (h' : Rch fi ra a b rd sd fo s t k') : k = k' := by
  obtain ⟨k1, _, d, _, o1, e1⟩ := h
  obtain ⟨k2, _, d', _, o2, e2⟩ := h'
  exact (v_uni nz k1 k2 o1 o2 (e1.symm.trans e2)).1
/-- the vector as a number of squares -/
theorem rch_st {fi ra a b rd sd s t k : Int} {fo : Bool} (h : Rch fi ra a b rd sd fo s t k) : ∃ d : Nat, d < 8 ∧ onK fi ra s (vXi a b fo d) (vYi a b sd fo d) k ∧ t = tgt fi s (vXi a b fo d) (vYi a b sd fo d) k ∧ (t - s) / k = vYi a b sd fo d * fi + vXi a b fo d ∧ t - s = k * (vYi a b sd fo d * fi + vXi a b fo d) := by
  obtain ⟨k1, _, d, hd, o1, e1⟩ := h
  have z : t - s = k * (vYi a b sd fo d * fi + vXi a b fo d) := by
    rw [e1, tgt_s]; omega
  exact ⟨d, hd, o1, e1, by rw [z, Int.mul_ediv_cancel_left _ (by omega)], z⟩
theorem st_nz {fi x y : Int} (f0 : 8 ≤ fi ∨ (x.natAbs : Int) < fi) (n : ¬ (x = 0 ∧ y = 0)) (lx : x.natAbs < 8) : ¬ y * fi + x = 0 := fun z => by
  have fx : (x.natAbs : Int) < fi := by omega
  have : y * fi + x = 0 * fi + 0 := by rw [z]; omega
  by_cases c : 0 ≤ x
  · obtain ⟨a, b⟩ := dm_uni (fi := fi) (A := y) (B := x) (A' := 0) (B' := 0) ⟨c, by omega⟩ ⟨by omega, by omega⟩ this
    exact n ⟨b, a⟩
  · have e2 : y * fi + 0 = 0 * fi + (-x) := by omega
    obtain ⟨a, b⟩ := dm_uni (fi := fi) (A := y) (B := 0) (A' := 0) (B' := -x) ⟨by omega, by omega⟩ ⟨by omega, by omega⟩ e2
    exact n ⟨by omega, a⟩
/-- men on the squares s + st, .. , s + n st -/
def cnP (M : Nat → Int) (s st : Int) : Nat → Nat
  | 0 => 0
  | n + 1 => cnP M s st n + (if 0 < M (s + ((n : Int) + 1) * st).toNat then 1 else 0)
theorem cnp_le {M : Nat → Int} {s st : Int} {n : Nat} : ∀ m, n ≤ m → cnP M s st n ≤ cnP M s st m
  | 0, h => by rw [show n = 0 by omega]; exact Nat.le_refl _
  | m + 1, h => by
    by_cases c : n = m + 1
    · rw [c]; exact Nat.le_refl _
    · have := cnp_le (M := M) (s := s) (st := st) (n := n) m (by omega)
      show _ ≤ cnP M s st m + _
      omega
theorem cnp_c {M M' : Nat → Int} {s st : Int} : ∀ n, (∀ j : Nat, 1 ≤ j → j ≤ n → (0 < M (s + (j : Int) * st).toNat ↔ 0 < M' (s + (j : Int) * st).toNat)) → cnP M s st n = cnP M' s st n
  | 0, _ => rfl
  | n + 1, h => by
    have := h (n + 1) (by omega) (Nat.le_refl _)
    show cnP M s st n + _ = cnP M' s st n + _
    rw [cnp_c n (fun j a b => h j a (by omega))]
    have c : ((n + 1 : Nat) : Int) = (n : Int) + 1 := by omega
    rw [c] at this
    by_cases q : 0 < M (s + ((n : Int) + 1) * st).toNat
    · rw [if_pos q, if_pos (this.mp q)]
    · rw [if_neg q, if_neg (fun z => q (this.mpr z))]
theorem cnp_0 {M : Nat → Int} {s st : Int} : ∀ n, cnP M s st n = 0 ↔ ∀ j : Nat, 1 ≤ j → j ≤ n → ¬ 0 < M (s + (j : Int) * st).toNat
  | 0 => ⟨fun _ j a b => by omega, fun _ => rfl⟩
  | n + 1 => by
    have ih := cnp_0 (M := M) (s := s) (st := st) n
    have c : ((n + 1 : Nat) : Int) = (n : Int) + 1 := by omega
    show cnP M s st n + _ = 0 ↔ _
    by_cases q : 0 < M (s + ((n : Int) + 1) * st).toNat
    · rw [if_pos q]
      exact ⟨fun z => by omega, fun z => absurd q (by rw [← c]; exact z (n + 1) (by omega) (Nat.le_refl _))⟩
    · rw [if_neg q, Nat.add_zero, ih]
      refine ⟨fun z j a b => ?_, fun z j a b => z j a (by omega)⟩
      by_cases e : j = n + 1
      · rw [e, c]; exact q
      · exact z j a (by omega)
theorem cnp_1 {M : Nat → Int} {s st : Int} : ∀ n, cnP M s st n = 1 ↔ ∃ j : Nat, 1 ≤ j ∧ j ≤ n ∧ 0 < M (s + (j : Int) * st).toNat ∧ ∀ i : Nat, 1 ≤ i → i ≤ n → 0 < M (s + (i : Int) * st).toNat → i = j
  | 0 => ⟨fun z => absurd (show (0 : Nat) = 1 from z) (by decide), fun ⟨j, a, b, _⟩ => by omega⟩
  | n + 1 => by
    have ih := cnp_1 (M := M) (s := s) (st := st) n
    have i0 := cnp_0 (M := M) (s := s) (st := st) n
    have c : ((n + 1 : Nat) : Int) = (n : Int) + 1 := by omega
    show cnP M s st n + _ = 1 ↔ _
    by_cases q : 0 < M (s + ((n : Int) + 1) * st).toNat
    · rw [if_pos q]
      constructor
      · intro z
        have y := i0.mp (by omega)
        refine ⟨n + 1, by omega, Nat.le_refl _, by rw [c]; exact q, fun i a b w => ?_⟩
        by_cases e : i = n + 1
        · exact e
        · exact absurd w (y i a (by omega))
      · rintro ⟨j, a, b, w, u⟩
        have e := u (n + 1) (by omega) (Nat.le_refl _) (by rw [c]; exact q)
        have : cnP M s st n = 0 := i0.mpr (fun i a' b' w' => by
          have := u i a' (by omega) w'
          omega)
        omega
    · rw [if_neg q, Nat.add_zero, ih]
      constructor
      · rintro ⟨j, a, b, w, u⟩
        refine ⟨j, a, by omega, w, fun i a' b' w' => ?_⟩
        by_cases e : i = n + 1
        · rw [e, c] at w'
          exact absurd w' q
        · exact u i a' (by omega) w'
      · rintro ⟨j, a, b, w, u⟩
        have : ¬ j = n + 1 := fun e => by
          rw [e, c] at w
          exact q w
        exact ⟨j, a, by omega, w, fun i a' b' w' => u i a' (by omega) w'⟩
/-! a law as numbers: fields of the reference's RULES by their places, rows by their keys -/
def rkF (L : Nat → Nat → Int) (s sd : Int) : Int := if sd = 0 then s / L 0 0 + 1 else L 1 0 - s / L 0 0
def RchL (L : Nat → Nat → Int) (j : Nat) (sd : Int) (s t : Nat) (k : Int) : Prop := (L 79 j = 0 ∨ L 79 j = rkF L s sd) ∧ Rch (L 0 0) (L 1 0) (L 76 j) (L 77 j) (L 78 j) sd (fbt (L 75 j) 2) s t k
def ovN (L : Nat → Nat → Int) (j : Nat) : Nat := if fbt (L 75 j) 3 = true then 1 else 0
/-- STEP j leads from s to t, k times along, and the squares between let it pass -/
def Led (L : Nat → Nat → Int) (M : Nat → Int) (j : Nat) (sd : Int) (s t : Nat) (k : Int) : Prop := RchL L j sd s t k ∧ cnP M s (((t : Int) - s) / k) (k - 1).toNat = ovN L j
def mnO (v : Int) : Nat := ((v - 1) / 2).toNat
def AttP (L : Nat → Nat → Int) (M : Nat → Int) (by' : Int) (q : Nat) : Prop := ∃ (s i : Nat) (k : Int), (s : Int) < L 0 0 * L 1 0 ∧ 0 < M s ∧ (M s - 1) % 2 = by' ∧ (i : Int) < L 74 (mnO (M s)) ∧ fbt (L 75 (8 * mnO (M s) + i)) 0 = false ∧ Led L M (8 * mnO (M s) + i) by' s q k
/-- numbers of a law as they must be -/
def LOk (L : Nat → Nat → Int) : Prop := (3 ≤ L 0 0 ∧ L 0 0 ≤ 8) ∧ (3 ≤ L 1 0 ∧ L 1 0 ≤ 8) ∧ (0 ≤ L 2 0 ∧ L 2 0 ≤ 12) ∧ ∀ m : Nat, (m : Int) < L 2 0 → (1 ≤ L 74 m ∧ L 74 m ≤ 8) ∧ ∀ i : Nat, (i : Int) < L 74 m → (0 ≤ L 75 (8 * m + i) ∧ L 75 (8 * m + i) ≤ 63) ∧ (-7 ≤ L 76 (8 * m + i) ∧ L 76 (8 * m + i) ≤ 7) ∧ (-7 ≤ L 77 (8 * m + i) ∧ L 77 (8 * m + i) ≤ 7) ∧ ¬ (L 76 (8 * m + i) = 0 ∧ L 77 (8 * m + i) = 0) ∧ (1 ≤ L 78 (8 * m + i) ∧ L 78 (8 * m + i) ≤ 7) ∧ (0 ≤ L 79 (8 * m + i) ∧ L 79 (8 * m + i) ≤ 8)
/-- men of a board are men of the law, and stand on its squares -/
def MOk (L : Nat → Nat → Int) (M : Nat → Int) : Prop := ∀ s : Nat, s < 64 → 0 ≤ M s ∧ (0 < M s → (s : Int) < L 0 0 * L 1 0 ∧ M s ≤ 2 * L 2 0)
theorem sq_64 {L : Nat → Nat → Int} (H : LOk L) : 9 ≤ L 0 0 * L 1 0 ∧ L 0 0 * L 1 0 ≤ 64 := by
  obtain ⟨⟨a, b⟩, ⟨c, d⟩, _⟩ := H
  have m1 : L 0 0 * L 1 0 ≤ 8 * 8 := Int.mul_le_mul b d (by omega) (by decide)
  have m2 : 3 * 3 ≤ L 0 0 * L 1 0 := Int.mul_le_mul a c (by decide) (by omega)
  omega
theorem mno_lt {L : Nat → Nat → Int} {v : Int} (h : 0 < v) (h' : v ≤ 2 * L 2 0) : ((mnO v : Nat) : Int) < L 2 0 ∧ ((mnO v : Nat) : Int) = (v - 1) / 2 := by
  unfold mnO
  omega
end
section
/-! the reference: its law as numbers; vectors -/
def lwR (V : Nat → Nat) (h : Hp) (k i : Nat) : Int := if k < 30 then (hI h (V 15) k).toInt else if 73 ≤ k ∧ k ≤ 81 then (hI h (V k) i).toInt else if k = 100 ∧ bitJ (hJ h (V 15) 21) i = true then 1 else 0
def WRf (V : Nat → Nat) (h : Hp) : Prop := hR h (V 16) 4 = some (V 15) ∧ hR h (V 15) 3 = some (V 73) ∧ hR h (V 15) 4 = some (V 74) ∧ hR h (V 15) 5 = some (V 75) ∧ hR h (V 15) 6 = some (V 76) ∧ hR h (V 15) 7 = some (V 77) ∧ hR h (V 15) 8 = some (V 78) ∧ hR h (V 15) 9 = some (V 79) ∧ hR h (V 15) 13 = some (V 80) ∧ hR h (V 15) 14 = some (V 81)
def GRf (V : Nat → Nat) (h : Hp) (L : Nat → Nat → Int) : Prop := lwR V h = L ∧ (hI h (V 16) 11).toInt = L 0 0 ∧ (hI h (V 16) 12).toInt = L 1 0 ∧ (hI h (V 16) 13).toInt = L 0 0 * L 1 0
def RWd (V : Nat → Nat) (h : Hp) (L : Nat → Nat → Int) (M : Nat → Int) : Prop := WRf V h ∧ GRf V h L ∧ hR h (V 13) 0 = some (V 62) ∧ ∀ s, s < 64 → (hI h (V 62) s).toInt = M s
abbrev wdx : List (Nat × Nat) := [(16, 23), (16, 24)]
section
variable {F : Nat} {V : Nat → Nat} {h o' : Hp} {L : Nat → Nat → Int} {M : Nat → Int} {o : Int32 × Hp} {Ls : List (Nat × Nat)}
theorem lwr_g (D : VD V) (A : FrV V (wl Ls) h o') (n : ∀ p, p ∈ Ls → p.1 ∈ vql ∧ ¬ p.1 = 15 ∧ ¬ (73 ≤ p.1 ∧ p.1 ≤ 81)) : lwR V o' = lwR V h := by
  funext k i
  unfold lwR
  by_cases c : k < 30
  · rw [if_pos c, if_pos c, fvI D A 15 k (fun p hp => (n p hp).2.1) (by decide) (fun p hp => (n p hp).1)]
  · rw [if_neg c, if_neg c]
    by_cases d : 73 ≤ k ∧ k ≤ 81
    · have all : ∀ j : Fin 9, (73 + j.val) ∈ vql := by decide
      have mk : k ∈ vql := by
        have := all ⟨k - 73, by omega⟩
        rw [show 73 + (k - 73) = k by omega] at this
        exact this
      rw [if_pos d, if_pos d, fvI D A k i (fun p hp z => (n p hp).2.2 (by rw [z]; exact d)) mk (fun p hp => (n p hp).1)]
    · rw [if_neg d, if_neg d, fvJ D A 15 21 (fun p hp => (n p hp).2.1) (by decide) (fun p hp => (n p hp).1)]
theorem wrf_f {W : Nat → Nat → Bool} (P : WRf V h) (A : FrV V W h o') : WRf V o' := by
  obtain ⟨a, b, c, d, e, f, g, i, j, k⟩ := P
  exact ⟨by rw [A.1]; exact a, by rw [A.1]; exact b, by rw [A.1]; exact c, by rw [A.1]; exact d, by rw [A.1]; exact e, by rw [A.1]; exact f, by rw [A.1]; exact g, by rw [A.1]; exact i, by rw [A.1]; exact j, by rw [A.1]; exact k⟩
theorem rwd_f (D : VD V) (P : RWd V h L M) (A : FrV V (wl Ls) h o') (n : ∀ p, p ∈ Ls → p.1 ∈ vql ∧ ¬ p.1 = 15 ∧ ¬ (73 ≤ p.1 ∧ p.1 ≤ 81)) (n62 : ∀ p, p ∈ Ls → ¬ p.1 = 62) (n11 : wl Ls 16 11 = false) (n12 : wl Ls 16 12 = false) (n13 : wl Ls 16 13 = false) : RWd V o' L M := by
  obtain ⟨w, ⟨g1, g2, g3, g4⟩, b, m⟩ := P
  have hL : ∀ p, p ∈ Ls → p.1 ∈ vql := fun p hp => (n p hp).1
  refine ⟨wrf_f w A, ⟨by rw [lwr_g D A n]; exact g1, by rw [fvi D A 16 11 n11 (by decide) hL]; exact g2, by rw [fvi D A 16 12 n12 (by decide) hL]; exact g3, by rw [fvi D A 16 13 n13 (by decide) hL]; exact g4⟩, by rw [A.1]; exact b, ?_⟩
  intro s hs
  rw [fvI D A 62 s n62 (by decide) hL]
  exact m s hs
theorem rwd_x (D : VD V) (P : RWd V h L M) (A : FrV V (wl wdx) h o') : RWd V o' L M := rwd_f D P A (by decide) (by decide) rfl rfl rfl
theorem lw_75 (P : RWd V h L M) (i : Nat) : (hI h (V 75) i).toInt = L 75 i ∧ (hI h (V 76) i).toInt = L 76 i ∧ (hI h (V 77) i).toInt = L 77 i ∧ (hI h (V 78) i).toInt = L 78 i ∧ (hI h (V 79) i).toInt = L 79 i ∧ (hI h (V 74) i).toInt = L 74 i := by
  rw [← P.2.1.1]
  exact ⟨rfl, rfl, rfl, rfl, rfl, rfl⟩
theorem lw_0 (P : RWd V h L M) {k : Nat} (hk : k < 30) (i : Nat) : (hI h (V 15) k).toInt = L k i := by
  rw [← P.2.1.1]
  unfold lwR
  rw [if_pos hk]
theorem ab7 {x : Int32} (i : Rg (-7) 7 x) : (if 0 ≤ x then x else 0 - x).toInt = (x.toInt.natAbs : Int) := by
  have z0 : (0 : Int32).toInt = 0 := rfl
  have a := i.1
  have b := i.2
  by_cases c : 0 ≤ x
  · have := ii_le.mp c
    rw [z0] at this
    rw [if_pos c]; omega
  · have : ¬ (0 : Int32).toInt ≤ x.toInt := fun z => c (ii_le.mpr z)
    rw [z0] at this
    rw [if_neg c, ts (by rw [z0]; omega), z0]; omega
theorem bit_8 : ∀ d : Fin 8, ((nI d.val &&& (1 : Int32)) = 0 ↔ ¬ d.val % 2 = 1) ∧ ((nI d.val &&& (2 : Int32)) = 0 ↔ ¬ d.val / 2 % 2 = 1) ∧ ((nI d.val &&& (4 : Int32)) = 0 ↔ ¬ d.val / 4 % 2 = 1) := by decide +kernel
theorem bt_d {d : Int32} (i : Rg 0 7 d) : ((d &&& (1 : Int32)) = 0 ↔ ¬ d.toNatClampNeg % 2 = 1) ∧ ((d &&& (2 : Int32)) = 0 ↔ ¬ d.toNatClampNeg / 2 % 2 = 1) ∧ ((d &&& (4 : Int32)) = 0 ↔ ¬ d.toNatClampNeg / 4 % 2 = 1) := by
  obtain ⟨j, ej, tj, hj⟩ := rg_nI i (Int.le_refl 0)
  have j8 : j < 8 := by have := i.2; omega
  have a := bit_8 ⟨j, j8⟩
  rw [ej, z_clamp hj]
  exact a
theorem h_170 {g : Hp} {x4 x5 x6 : Int32} (i4 : Rg (-7) 7 x4) (i5 : Rg (-7) 7 x5) (e : sX15_hasVector_170 g x4 x5 x6 = some o) : o.2 = g ∧ ((o.1 = 0 ∧ (¬ x6 = 0 ∧ x4.toInt.natAbs = x5.toInt.natAbs)) ∨ (o.1 = 1 ∧ ¬ (¬ x6 = 0 ∧ x4.toInt.natAbs = x5.toInt.natAbs))) := by
  unfold sX15_hasVector_170 sX15_hasVector_188 sX15_hasVector_192 sX15_hasVector_193 at e
  rcases br_s e with ⟨c, e⟩ | ⟨c, e⟩
  · rw [so_e (gg_e e)]
    exact ⟨rfl, Or.inr ⟨rfl, fun z => z.1 c⟩⟩
  rcases br_s e with ⟨q, e⟩ | ⟨q, e⟩
  · rw [so_e (gg_e e)]
    have := congrArg Int32.toInt q
    rw [ab7 i4, ab7 i5] at this
    exact ⟨rfl, Or.inl ⟨rfl, c, by omega⟩⟩
  · rw [so_e (gg_e e)]
    refine ⟨rfl, Or.inr ⟨rfl, fun z => q (Int32.toInt_inj.mp ?_)⟩⟩
    rw [ab7 i4, ab7 i5, z.2]
theorem h_145 {g : Hp} {x0 : Nat} {d x4 x5 x6 x7 x8 t0 : Int32} (i4 : Rg (-7) 7 x4) (i5 : Rg (-7) 7 x5) (e : sX15_hasVector_145 g d x4 x5 x6 x7 x8 t0 x0 = some o) : o.2 = wI g x0 24 t0 ∧ ((o.1 = 0 ∧ ((¬ (d &&& (1 : Int32)) = 0 ∧ x7 = 0) ∨ (¬ (d &&& (2 : Int32)) = 0 ∧ x8 = 0) ∨ (¬ x6 = 0 ∧ x4.toInt.natAbs = x5.toInt.natAbs))) ∨ (o.1 = 1 ∧ ¬ ((¬ (d &&& (1 : Int32)) = 0 ∧ x7 = 0) ∨ (¬ (d &&& (2 : Int32)) = 0 ∧ x8 = 0) ∨ (¬ x6 = 0 ∧ x4.toInt.natAbs = x5.toInt.natAbs)))) := by
  unfold sX15_hasVector_145 at e
  replace e := nm_s e; obtain ⟨g1, w1, e⟩ := e
  rw [← w1]
  have k159 : (¬ (¬ (d &&& (1 : Int32)) = 0 ∧ x7 = 0)) → sX15_hasVector_159 g1 d x4 x5 x6 x8 = some o → o.2 = g1 ∧ ((o.1 = 0 ∧ ((¬ (d &&& (1 : Int32)) = 0 ∧ x7 = 0) ∨ (¬ (d &&& (2 : Int32)) = 0 ∧ x8 = 0) ∨ (¬ x6 = 0 ∧ x4.toInt.natAbs = x5.toInt.natAbs))) ∨ (o.1 = 1 ∧ ¬ ((¬ (d &&& (1 : Int32)) = 0 ∧ x7 = 0) ∨ (¬ (d &&& (2 : Int32)) = 0 ∧ x8 = 0) ∨ (¬ x6 = 0 ∧ x4.toInt.natAbs = x5.toInt.natAbs)))) := fun n1 u => by
    unfold sX15_hasVector_159 at u
    have k170 : (¬ (¬ (d &&& (2 : Int32)) = 0 ∧ x8 = 0)) → sX15_hasVector_170 g1 x4 x5 x6 = some o → o.2 = g1 ∧ ((o.1 = 0 ∧ ((¬ (d &&& (1 : Int32)) = 0 ∧ x7 = 0) ∨ (¬ (d &&& (2 : Int32)) = 0 ∧ x8 = 0) ∨ (¬ x6 = 0 ∧ x4.toInt.natAbs = x5.toInt.natAbs))) ∨ (o.1 = 1 ∧ ¬ ((¬ (d &&& (1 : Int32)) = 0 ∧ x7 = 0) ∨ (¬ (d &&& (2 : Int32)) = 0 ∧ x8 = 0) ∨ (¬ x6 = 0 ∧ x4.toInt.natAbs = x5.toInt.natAbs)))) := fun n2 v => by
      obtain ⟨a, b⟩ := h_170 i4 i5 v
      refine ⟨a, ?_⟩
      rcases b with ⟨b, c⟩ | ⟨b, c⟩
      · exact Or.inl ⟨b, Or.inr (Or.inr c)⟩
      · refine Or.inr ⟨b, ?_⟩
        rintro (z | z | z)
        · exact n1 z
        · exact n2 z
        · exact c z
    rcases br_s u with ⟨c, u⟩ | ⟨c, u⟩
    · exact k170 (fun z => z.1 c) u
    rcases br_s u with ⟨c', u⟩ | ⟨c', u⟩
    · unfold sX15_hasVector_192 sX15_hasVector_193 at u
      rw [so_e (gg_e u)]
      exact ⟨rfl, Or.inl ⟨rfl, Or.inr (Or.inl ⟨c, c'⟩)⟩⟩
    · exact k170 (fun z => c' z.2) u
  rcases br_s e with ⟨c, e⟩ | ⟨c, e⟩
  · exact k159 (fun z => z.1 c) e
  rcases br_s e with ⟨c', e⟩ | ⟨c', e⟩
  · unfold sX15_hasVector_192 sX15_hasVector_193 at e
    rw [so_e (gg_e e)]
    exact ⟨rfl, Or.inl ⟨rfl, Or.inl ⟨c, c'⟩⟩⟩
  · exact k159 (fun z => c' z.2) e
/-- what hasVector answers, and the vector that it leaves -/
theorem hv_val {st d sd : Int32} (W : WRf V h) (i75 : Rg 0 63 (hI h (V 75) st.toNatClampNeg)) (i76 : Rg (-7) 7 (hI h (V 76) st.toNatClampNeg)) (i77 : Rg (-7) 7 (hI h (V 77) st.toNatClampNeg)) (id : Rg 0 7 d) (e : sX15_hasVector h (V 16) st d sd = some o) : ∃ x y : Int32, o.2 = wI (wI h (V 16) 23 x) (V 16) 24 y ∧ x.toInt = vXi (hI h (V 76) st.toNatClampNeg).toInt (hI h (V 77) st.toNatClampNeg).toInt (fbt (hI h (V 75) st.toNatClampNeg).toInt 2) d.toNatClampNeg ∧ y.toInt = vYi (hI h (V 76) st.toNatClampNeg).toInt (hI h (V 77) st.toNatClampNeg).toInt sd.toInt (fbt (hI h (V 75) st.toNatClampNeg).toInt 2) d.toNatClampNeg ∧ ((o.1 = 0 ∧ vOk (hI h (V 76) st.toNatClampNeg).toInt (hI h (V 77) st.toNatClampNeg).toInt (fbt (hI h (V 75) st.toNatClampNeg).toInt 2) d.toNatClampNeg = false) ∨ (o.1 = 1 ∧ vOk (hI h (V 76) st.toNatClampNeg).toInt (hI h (V 77) st.toNatClampNeg).toInt (fbt (hI h (V 75) st.toNatClampNeg).toInt 2) d.toNatClampNeg = true)) := by
  have z0 : (0 : Int32).toInt = 0 := rfl
  obtain ⟨w1, _, _, w5, w6, w7, _⟩ := W
  unfold sX15_hasVector at e
  replace e := ce_e w1 e
  replace e := ce_e w6 e
  replace e := gg_e e
  replace e := nx_e e
  replace e := ce_e w1 e
  replace e := ce_e w7 e
  replace e := gg_e e
  replace e := nx_e e
  replace e := ce_e w1 e
  replace e := ce_e w5 e
  replace e := gg_e e
  have fo := (fb_e i75).2.2.1
  obtain ⟨b1, b2, b4⟩ := bt_d id
  have d0 := nc_i id.1
  generalize hI h (V 76) st.toNatClampNeg = A at *
  generalize hI h (V 77) st.toNatClampNeg = B at *
  generalize hI h (V 75) st.toNatClampNeg = Fl at *
  have a0 := i76.1
  have a1 := i76.2
  have c0 := i77.1
  have c1 := i77.2
  have nA : ((0 : Int32) - A).toInt = -A.toInt := by rw [ts (by rw [z0]; omega), z0]; omega
  have nB : ((0 : Int32) - B).toInt = -B.toInt := by rw [ts (by rw [z0]; omega), z0]; omega
  have zA : A = 0 ↔ A.toInt = 0 := by rw [← Int32.toInt_inj, z0]
  have zB : B = 0 ↔ B.toInt = 0 := by rw [← Int32.toInt_inj, z0]
  rcases br_s e with ⟨c, e⟩ | ⟨c, e⟩
  · -- eight vectors
    rw [fo.mp c]
    -- the last part
    have fin : ∀ {x6 x7 x8 : Int32}, ((x6 = 0 ∧ ¬ d.toNatClampNeg / 4 % 2 = 1 ∧ x7 = A ∧ x8 = B) ∨ (¬ x6 = 0 ∧ d.toNatClampNeg / 4 % 2 = 1 ∧ x7 = B ∧ x8 = A)) → sX15_hasVector_108 h (V 16) d A B x6 x7 x8 = some o → ∃ x y : Int32, o.2 = wI (wI h (V 16) 23 x) (V 16) 24 y ∧ x.toInt = vXi A.toInt B.toInt false d.toNatClampNeg ∧ y.toInt = vYi A.toInt B.toInt sd.toInt false d.toNatClampNeg ∧ ((o.1 = 0 ∧ vOk A.toInt B.toInt false d.toNatClampNeg = false) ∨ (o.1 = 1 ∧ vOk A.toInt B.toInt false d.toNatClampNeg = true)) := fun {x6 x7 x8} H u => by
      unfold sX15_hasVector_108 sX15_hasVector_126 at u
      have X7 : x7.toInt = (if d.toNatClampNeg / 4 % 2 = 1 then B.toInt else A.toInt) ∧ ((0 : Int32) - x7).toInt = -(if d.toNatClampNeg / 4 % 2 = 1 then B.toInt else A.toInt) ∧ (x7 = 0 ↔ (if d.toNatClampNeg / 4 % 2 = 1 then B.toInt else A.toInt) = 0) := by
        rcases H with ⟨_, t, y, _⟩ | ⟨_, t, y, _⟩
        · rw [if_neg t, y]; exact ⟨rfl, nA, zA⟩
        · rw [if_pos t, y]; exact ⟨rfl, nB, zB⟩
      have X8 : x8.toInt = (if d.toNatClampNeg / 4 % 2 = 1 then A.toInt else B.toInt) ∧ ((0 : Int32) - x8).toInt = -(if d.toNatClampNeg / 4 % 2 = 1 then A.toInt else B.toInt) ∧ (x8 = 0 ↔ (if d.toNatClampNeg / 4 % 2 = 1 then A.toInt else B.toInt) = 0) := by
        rcases H with ⟨_, t, _, y⟩ | ⟨_, t, _, y⟩
        · rw [if_neg t, y]; exact ⟨rfl, nB, zB⟩
        · rw [if_pos t, y]; exact ⟨rfl, nA, zA⟩
      have X6 : ¬ x6 = 0 ↔ d.toNatClampNeg / 4 % 2 = 1 := by
        rcases H with ⟨y, t, _⟩ | ⟨y, t, _⟩
        · exact ⟨fun z => absurd y z, fun z => absurd z t⟩
        · exact ⟨fun _ => t, fun _ => y⟩
      have vx : ∀ {x : Int32}, ((d &&& (1 : Int32)) = 0 ∧ x = x7) ∨ (¬ (d &&& (1 : Int32)) = 0 ∧ x = (0 : Int32) - x7) → x.toInt = vXi A.toInt B.toInt false d.toNatClampNeg := fun {x} z => by
        unfold vXi
        rw [if_neg (by decide)]
        rcases z with ⟨z, y⟩ | ⟨z, y⟩
        · rw [if_neg (b1.mp z), y]; exact X7.1
        · rw [if_pos (by
            by_cases q : d.toNatClampNeg % 2 = 1
            · exact q
            · exact absurd (b1.mpr q) z), y]
          exact X7.2.1
      have vy : ∀ {x : Int32}, ((d &&& (2 : Int32)) = 0 ∧ x = x8) ∨ (¬ (d &&& (2 : Int32)) = 0 ∧ x = (0 : Int32) - x8) → x.toInt = vYi A.toInt B.toInt sd.toInt false d.toNatClampNeg := fun {x} z => by
        unfold vYi
        rw [if_neg (by decide)]
        rcases z with ⟨z, y⟩ | ⟨z, y⟩
        · rw [if_neg (b2.mp z), y]; exact X8.1
        · rw [if_pos (by
            by_cases q : d.toNatClampNeg / 2 % 2 = 1
            · exact q
            · exact absurd (b2.mpr q) z), y]
          exact X8.2.1
      have ok : ((¬ (d &&& (1 : Int32)) = 0 ∧ x7 = 0) ∨ (¬ (d &&& (2 : Int32)) = 0 ∧ x8 = 0) ∨ (¬ x6 = 0 ∧ A.toInt.natAbs = B.toInt.natAbs)) ↔ vOk A.toInt B.toInt false d.toNatClampNeg = false := by
        unfold vOk
        rw [if_neg (by decide), X6, X7.2.2, X8.2.2, b1, b2]
        generalize (if d.toNatClampNeg / 4 % 2 = 1 then B.toInt else A.toInt) = P
        generalize (if d.toNatClampNeg / 4 % 2 = 1 then A.toInt else B.toInt) = Q
        by_cases q1 : d.toNatClampNeg % 2 = 1 <;> by_cases q2 : d.toNatClampNeg / 2 % 2 = 1 <;> by_cases q4 : d.toNatClampNeg / 4 % 2 = 1 <;> by_cases p : P = 0 <;> by_cases q : Q = 0 <;> by_cases r : A.toInt.natAbs = B.toInt.natAbs <;> simp [q1, q2, q4, p, q, r]
      have k145 : ∀ {t x : Int32} {g : Hp}, g = wI h (V 16) 23 x → (((d &&& (1 : Int32)) = 0 ∧ x = x7) ∨ (¬ (d &&& (1 : Int32)) = 0 ∧ x = (0 : Int32) - x7)) → (((d &&& (2 : Int32)) = 0 ∧ t = x8) ∨ (¬ (d &&& (2 : Int32)) = 0 ∧ t = (0 : Int32) - x8)) → sX15_hasVector_145 g d A B x6 x7 x8 t (V 16) = some o → ∃ x y : Int32, o.2 = wI (wI h (V 16) 23 x) (V 16) 24 y ∧ x.toInt = vXi A.toInt B.toInt false d.toNatClampNeg ∧ y.toInt = vYi A.toInt B.toInt sd.toInt false d.toNatClampNeg ∧ ((o.1 = 0 ∧ vOk A.toInt B.toInt false d.toNatClampNeg = false) ∨ (o.1 = 1 ∧ vOk A.toInt B.toInt false d.toNatClampNeg = true)) := fun {t x g} eg hx ht v => by
        obtain ⟨r1, r2⟩ := h_145 i76 i77 v
        refine ⟨x, t, by rw [r1, eg], vx hx, vy ht, ?_⟩
        rcases r2 with ⟨r2, r3⟩ | ⟨r2, r3⟩
        · exact Or.inl ⟨r2, ok.mp r3⟩
        · refine Or.inr ⟨r2, ?_⟩
          cases q : vOk A.toInt B.toInt false d.toNatClampNeg with
          | true => rfl
          | false => exact absurd (ok.mpr q) r3
      rcases br_s u with ⟨q1, u⟩ | ⟨q1, u⟩
      · replace u := nm_s u; obtain ⟨g, eg, u⟩ := u
        rcases br_s u with ⟨q2, u⟩ | ⟨q2, u⟩
        · exact k145 eg (Or.inl ⟨q1, rfl⟩) (Or.inl ⟨q2, rfl⟩) u
        · exact k145 eg (Or.inl ⟨q1, rfl⟩) (Or.inr ⟨q2, rfl⟩) u
      · replace u := nm_s u; obtain ⟨g, eg, u⟩ := u
        rcases br_s u with ⟨q2, u⟩ | ⟨q2, u⟩
        · exact k145 eg (Or.inr ⟨q1, rfl⟩) (Or.inl ⟨q2, rfl⟩) u
        · exact k145 eg (Or.inr ⟨q1, rfl⟩) (Or.inr ⟨q2, rfl⟩) u
    unfold sX15_hasVector_80 sX15_hasVector_94 at e
    rcases br_s e with ⟨q, e⟩ | ⟨q, e⟩
    · replace e := bp_e rfl e
      replace e := bp_e rfl e
      exact fin (Or.inl ⟨rfl, b4.mp q, rfl, rfl⟩) e
    · replace e := bn_e (by decide) e
      replace e := bn_e (by decide) e
      refine fin (Or.inr ⟨by decide, ?_, rfl, rfl⟩) e
      by_cases y : d.toNatClampNeg / 4 % 2 = 1
      · exact y
      · exact absurd (b4.mpr y) q
  · -- one
    have ft : fbt Fl.toInt 2 = true := by
      cases q : fbt Fl.toInt 2 with
      | true => rfl
      | false => exact absurd (fo.mpr q) c
    rw [ft]
    replace e := nm_s e; obtain ⟨h14, w14, e⟩ := e
    have fin : ∀ {t : Int32}, t.toInt = vYi A.toInt B.toInt sd.toInt true d.toNatClampNeg → sX15_hasVector_56 h14 d t (V 16) = some o → ∃ x y : Int32, o.2 = wI (wI h (V 16) 23 x) (V 16) 24 y ∧ x.toInt = vXi A.toInt B.toInt true d.toNatClampNeg ∧ y.toInt = vYi A.toInt B.toInt sd.toInt true d.toNatClampNeg ∧ ((o.1 = 0 ∧ vOk A.toInt B.toInt true d.toNatClampNeg = false) ∨ (o.1 = 1 ∧ vOk A.toInt B.toInt true d.toNatClampNeg = true)) := fun {t} ht u => by
      unfold sX15_hasVector_56 sX15_hasVector_68 at u
      replace u := nm_s u; obtain ⟨g, eg, u⟩ := u
      have zd : d = 0 ↔ d.toNatClampNeg = 0 := by
        rw [← Int32.toInt_inj, z0]; omega
      rcases br_s u with ⟨q, u⟩ | ⟨q, u⟩
      · rw [so_e (gg_e u)]
        refine ⟨A, t, by rw [eg, w14], rfl, ht, Or.inr ⟨rfl, ?_⟩⟩
        show decide (d.toNatClampNeg = 0) = true
        exact decide_eq_true (zd.mp q)
      · rw [so_e (gg_e u)]
        refine ⟨A, t, by rw [eg, w14], rfl, ht, Or.inl ⟨rfl, ?_⟩⟩
        show decide (d.toNatClampNeg = 0) = false
        exact decide_eq_false (fun z => q (zd.mpr z))
    rcases br_s e with ⟨q, e⟩ | ⟨q, e⟩
    · refine fin ?_ e
      unfold vYi
      rw [if_pos rfl, if_pos (by rw [q]; rfl)]
    · refine fin ?_ e
      unfold vYi
      rw [if_pos rfl, if_neg (fun z => q (Int32.toInt_inj.mp (by rw [z, z0]))), nB]
end
end
