/-! positions: the whole reading of both -/
def RdBad (V : Nat → Nat) (o o' : Int32 × Hp) : Prop := ¬ o.1 = (-1 : Int32) ∧ o'.1 = 0 ∧ o.1 = hI o'.2 (V 16) 19 ∧ 0 ≤ o.1.toInt
section
variable {F : Nat} {V : Nat → Nat} {N : Int32} {hc hr oc or g g' : Hp} {o o' o1 o1' : Int32 × Hp}
theorem bad_1 (a : AtV V N g g') (e : sX7_read_143 F g (V 7) = some o) (e' : sX15_isPosition_71 F g' = some o') : RdBad V o o' := by
  unfold sX7_read_143 sX7_read_144 sX7_read_157 at e
  unfold sX15_isPosition_71 sX15_isPosition_72 at e'
  rw [so_e (bp_e rfl e), so_e (gg_e e')]
  refine ⟨fun z => ?_, rfl, a.1, a.2.1⟩
  have z' : hI g (V 7) 2 = (-1 : Int32) := z
  have := a.2.1
  rw [z'] at this
  exact absurd this (by decide)
theorem stg {Q : Hp → Prop} {K : Int32 × Hp → Option (Int32 × Hp)} {X : Option (Int32 × Hp)} (D : VD V) (R : (o1.1 = 0 ∧ o1'.1 = 0 ∧ AtV V N o1.2 o1'.2) ∨ (o1.1 = 1 ∧ ∃ g, Q g ∧ RdV V N o1.2 g ∧ sX15_reads g (V 16) (32 : Int32) = some o1')) (e : br (o1.1 = 0) (sX7_read_143 F o1.2 (V 7)) (cl (sX7_takeByte o1.2 (V 7) (32 : Int32)) fun o_6 => br (o_6.1 = 0) (sX7_read_143 F o_6.2 (V 7)) (K o_6)) = some o) (e' : br (o1'.1 = 0) (sX15_isPosition_71 F o1'.2) X = some o') : RdBad V o o' ∨ ∃ g, Q g ∧ RdV V N (wI o1.2 (V 7) 2 ((hI o1.2 (V 7) 2) + (1 : Int32))) (wI g (V 16) 19 ((hI g (V 16) 19) + (1 : Int32))) ∧ K ((1 : Int32), wI o1.2 (V 7) 2 ((hI o1.2 (V 7) 2) + (1 : Int32))) = some o ∧ o1' = ((1 : Int32), wI g (V 16) 19 ((hI g (V 16) 19) + (1 : Int32))) ∧ X = some o' := by
  rcases R with ⟨a, b, at'⟩ | ⟨a, g, q, S, er⟩
  · exact Or.inl (bad_1 at' (bp_e a e) (bp_e b e'))
  · replace e := bn_e (fun z => by rw [a] at z; exact absurd z (by decide)) e
    replace e := cl_s e; obtain ⟨o6, eo6, e⟩ := e
    rcases tk_p D S ⟨by decide, by decide⟩ eo6 er with ⟨y, y'⟩ | ⟨y, y', S1⟩
    · rw [y] at e
      have v' : o1'.1 = 0 := by rw [y']
      have w' : o1'.2 = g := by rw [y']
      rw [w'] at e'
      exact Or.inl (bad_1 S.2.2.2.1 (bp_e rfl e) (bp_e v' e'))
    · rw [y, y'] at S1
      rw [y] at e
      have v' : o1'.1 = 1 := by rw [y']
      exact Or.inr ⟨g, q, S1, bn_e (show ¬ (1 : Int32) = 0 by decide) e, y', bn_e (fun z => by rw [v'] at z; exact absurd z (by decide)) e'⟩
theorem byt_v (S : RdV V N hc hr) (e : sX9_byteAt hc (V 10) (hI hc (V 7) 2) = some o) : o.2 = hc ∧ ((hI hc (V 7) 2 = N ∧ o.1 = (-1 : Int32)) ∨ ((hI hc (V 7) 2).toInt < N.toInt ∧ Rg 0 255 o.1)) := by
  have z0 : (0 : Int32).toInt = 0 := rfl
  obtain ⟨⟨a1, a2, a3⟩, _, ⟨t1, t2, t3, t4, t5⟩, ⟨p1, p2, p3⟩, _⟩ := S
  unfold sX9_byteAt sX9_byteAt_21 sX9_byteAt_22 at e
  replace e := bn_e (fun z => by have := lt_i z; rw [z0] at this; omega) e
  rw [t1] at e
  rcases br_s e with ⟨l, e⟩ | ⟨l, e⟩
  · have l := le_i l
    rw [so_e e]
    exact ⟨rfl, Or.inl ⟨Int32.toInt_inj.mp (by omega), rfl⟩⟩
  · have l := nle_i l
    replace e := ce_e a3 e
    rw [so_e (gg_e e)]
    exact ⟨rfl, Or.inr ⟨l, t4 _⟩⟩
/-- no figure at the clock -/
theorem rc_z (S : RdV V N hc hr) (z6 : hI hc (V 4) 6 = 0) {o3 o4 : Int32 × Hp} (eb : sX9_byteAt hc (V 10) (hI hc (V 7) 2) = some o3) (ed : sX2_isDigit hc o3.1 = some o4) (w4 : o4.2 = hc) (n : o4.1 = 0) : ∀ f : Nat, sX7_readClock_7 F f hc (V 7) (V 4) (hI hc (V 7) 2) (0 : Int32) = some o → o = ((0 : Int32), hc) := by
  intro f e
  cases f with
  | zero => exact absurd e (by rw [sX7_readClock_7]; exact fun z => nomatch z)
  | succ f =>
    rw [sX7_readClock_7] at e
    replace e := bn_e (by decide) e
    replace e := ce_e S.1.2.1 e
    replace e := ce_e eb e
    rw [byt_g eb] at e
    replace e := ce_e ed e
    replace e := bp_e n e
    rw [w4] at e
    unfold sX7_readClock_71 sX7_readClock_86 sX7_readClock_99 at e
    replace e := bp_e (by rw [z6]; decide) e
    replace e := bp_e (ii_le.mpr (Int.le_refl _)) e
    exact so_e (gg_e e)
theorem posr_p (D : VD V) (Pc : VPc V hc) (Pr : VPr V hr) (Ln : LnV V hc) (c0 : hR hc (V 7) 0 = some (V 2)) (c1 : hR hc (V 10) 0 = some (V 49)) (b0 : hR hr (V 16) 4 = some (V 15)) (t1 : hI hc (V 10) 1 = N) (t3 : Rg 0 1200 N) (t4 : ∀ i, Rg 0 255 (hI hc (V 49) i)) (t5 : ∀ i : Nat, (i : Int) < N.toInt → (hI hr (V 82) i).toInt = sg (hI hc (V 49) i).toInt) (G : GeV V hc hr) (A : ZA V (V 2) (V 15) hc hr) (Q : LwQ V hc hr) (e : sX7_read F hc (V 7) (V 10) (V 4) = some o) (e' : sX15_isPosition F hr (V 16) (V 82) N (V 13) = some o') : RdBad V o o' ∨ (o.1 = (-1 : Int32) ∧ o'.1 = 1 ∧ PosV V o.2 o'.2) := by
  have z0 : (0 : Int32).toInt = 0 := rfl
  have n0 := t3.1
  unfold sX7_read at e
  unfold sX15_isPosition at e'
  replace e := nm_s e; obtain ⟨h1, w1, e⟩ := e
  replace e := nm_s e; obtain ⟨h2, w2, e⟩ := e
  replace e := cl_s e; obtain ⟨h3, e3, e⟩ := e
  replace e' := nm_s e'; obtain ⟨k1, u1, e'⟩ := e'
  replace e' := nm_s e'; obtain ⟨k2, u2, e'⟩ := e'
  replace e' := nm_s e'; obtain ⟨k3, u3, e'⟩ := e'
  replace e' := cl_s e'; obtain ⟨k4, f4, e'⟩ := e'
  have Rh : ∀ a i, ¬ (a = V 7 ∧ i = 1) → hR h2 a i = hR hc a i := fun a i n => by
    rw [w2]
    show hR h1 a i = _
    rw [w1, r_R, if_neg n]
  have Rk : ∀ a i, ¬ (a = V 16 ∧ i = 17) → hR k3 a i = hR hr a i := fun a i n => by
    rw [u3]
    show hR k2 a i = _
    rw [u2]
    show hR k1 a i = _
    rw [u1, r_R, if_neg n]
  have Ih : ∀ a i, ¬ a = V 7 → hI h2 a i = hI hc a i := fun a i n => by
    rw [w2, rI_a n, w1]; rfl
  have Ik : ∀ a i, ¬ (a = V 16 ∧ (i = 18 ∨ i = 19)) → hI k3 a i = hI hr a i := fun a i n => by
    rw [u3, r_I, if_neg (fun z => n ⟨z.1, Or.inr z.2⟩), u2, r_I, if_neg (fun z => n ⟨z.1, Or.inl z.2⟩), u1]; rfl
  have Jh : ∀ a i, hJ h2 a i = hJ hc a i := fun a i => by rw [w2, w1]; rfl
  have Jk : ∀ a i, hJ k3 a i = hJ hr a i := fun a i => by rw [u3, u2, u1]; rfl
  have h72 : hI h2 (V 7) 2 = 0 := by rw [w2, rI_s]
  have k19 : hI k3 (V 16) 19 = 0 := by rw [u3, rI_s]
  have vc1 : ∀ k, k ∈ vcr → k ∈ vql ∧ ¬ k = 7 := by decide
  have vr1 : ∀ k, k ∈ vrr → k ∈ vql ∧ ¬ k = 16 := by decide
  have ic : ∀ k, k ∈ vcr → ∀ i, hI h2 (V k) i = hI hc (V k) i := fun k hk i => Ih _ _ (vne D (vc1 k hk).2 (vc1 k hk).1)
  have ir : ∀ k, k ∈ vrr → ∀ i, hI k3 (V k) i = hI hr (V k) i := fun k hk i => Ik _ _ (fun z => vne D (vr1 k hk).2 (vr1 k hk).1 (by decide) z.1)
  have nR : ∀ i, ¬ (V 2 = V 7 ∧ i = 1) := fun i z => (vne D : ¬ V 2 = V 7) z.1
  have nK : ∀ i, ¬ (V 15 = V 16 ∧ i = 17) := fun i z => (vne D : ¬ V 15 = V 16) z.1
  obtain ⟨⟨a1, a2, a3, a4, a5, a6⟩, ⟨v1, v2, v3, v4, v5, v6, v7, v8, v9, v10⟩, ww⟩ := A
  obtain ⟨g1, g2, g3, g4⟩ := G
  have S2 : RdV V N h2 k3 := by
    refine ⟨⟨?_, ?_, ?_⟩, ⟨?_, ?_⟩, ⟨?_, ?_, t3, ?_, ?_⟩, ⟨by rw [h72, k19], by rw [h72]; decide, by rw [h72, z0]; exact n0⟩, ⟨?_, ?_, ?_, ?_⟩, ⟨⟨a1, ?_, ?_, ?_, ?_, ?_⟩, ⟨v1, ?_, ?_, ?_, ?_, ?_, ?_, ?_, ?_, ?_⟩, ww⟩, lwq_k Q (ic 2 (by decide)) (Jh _ _) (fun k hk => ic k (by
      have : ∀ k, k ∈ lc5 → k ∈ vcr := by decide
      exact this k hk)) (ir 15 (by decide)) (Jk _ _) (fun k hk => ir k (by
      have : ∀ k, k ∈ lr9 → k ∈ vrr := by decide
      exact this k hk))⟩
    · rw [Rh _ _ (fun z => absurd z.2 (by decide))]; exact c0
    · rw [w2]
      show hR h1 (V 7) 1 = _
      rw [w1, r_R, if_pos ⟨rfl, rfl⟩]
    · rw [Rh _ _ (fun z => (vne D : ¬ V 10 = V 7) z.1)]; exact c1
    · rw [u3]
      show hR k2 (V 16) 17 = _
      rw [u2]
      show hR k1 (V 16) 17 = _
      rw [u1, r_R, if_pos ⟨rfl, rfl⟩]
    · rw [Rk _ _ (fun z => absurd z.2 (by decide))]; exact b0
    · rw [ic 10 (by decide)]; exact t1
    · rw [u3, rI_o (by decide), u2, rI_s]
    · intro i; rw [ic 49 (by decide)]; exact t4 i
    · intro i hi; rw [ir 82 (by decide), ic 49 (by decide)]; exact t5 i hi
    · rw [ic 2 (by decide), Ik _ _ (fun z => by omega)]; exact g1
    · rw [ic 2 (by decide), Ik _ _ (fun z => by omega)]; exact g2
    · rw [ic 2 (by decide)]; exact g3
    · rw [ic 2 (by decide)]; exact g4
    · rw [Rh _ _ (nR _)]; exact a2
    · rw [Rh _ _ (nR _)]; exact a3
    · rw [Rh _ _ (nR _)]; exact a4
    · rw [Rh _ _ (nR _)]; exact a5
    · rw [Rh _ _ (nR _)]; exact a6
    · rw [Rk _ _ (nK _)]; exact v2
    · rw [Rk _ _ (nK _)]; exact v3
    · rw [Rk _ _ (nK _)]; exact v4
    · rw [Rk _ _ (nK _)]; exact v5
    · rw [Rk _ _ (nK _)]; exact v6
    · rw [Rk _ _ (nK _)]; exact v7
    · rw [Rk _ _ (nK _)]; exact v8
    · rw [Rk _ _ (nK _)]; exact v9
    · rw [Rk _ _ (nK _)]; exact v10
  have n47 : ∀ i, ¬ (V 4 = V 7 ∧ i = 1) := fun i z => (vne D : ¬ V 4 = V 7) z.1
  have n13 : ∀ i, ¬ (V 13 = V 16 ∧ i = 17) := fun i z => (vne D : ¬ V 13 = V 16) z.1
  have Pc2 : VPc V h2 := ⟨by rw [Rh _ _ (n47 _)]; exact Pc.1, by rw [Rh _ _ (n47 _)]; exact Pc.2.1, by rw [Rh _ _ (n47 _)]; exact Pc.2.2.1, by rw [Rh _ _ (n47 _)]; exact Pc.2.2.2.1, by rw [Rh _ _ (n47 _)]; exact Pc.2.2.2.2⟩
  have Pr3 : VPr V k3 := ⟨by rw [Rk _ _ (n13 _)]; exact Pr.1, by rw [Rk _ _ (n13 _)]; exact Pr.2.1, by rw [Rk _ _ (n13 _)]; exact Pr.2.2.1, by rw [Rk _ _ (n13 _)]; exact Pr.2.2.2⟩
  have Ln2 : LnV V h2 := by rw [w2, w1]; exact Ln
  obtain ⟨A3, d1, d2, d3, d4, d5, d6, d7, d8, d9, d10⟩ := clear_v D Pc2 Ln2 e3
  unfold sX12_clear at f4
  obtain ⟨B4, m1, m2, m3, m4, m5, m6, m7⟩ := clr_2 D F Pr3 (by decide) (by decide) (fun d hd => by rw [z0] at hd; omega) f4
  have S3 : RdV V N h3 k4 := rdv_w D S2 (sub_l A3 (by decide)) (sub_l B4 (by decide)) ⟨by rw [fvi D A3 7 2, fvi D B4 16 19, h72, k19], by rw [fvi D A3 7 2, h72]; decide, by rw [fvi D A3 7 2, h72, z0]; exact n0⟩
  have Pc3 := vpc_f Pc2 A3
  have Pr4 := vpr_f Pr3 B4
  have zm : (-1 : Int32).toInt = -1 := by decide
  have P3 : PosV V h3 k4 := by
    refine ⟨⟨fun s hs => ?_, fun d hd s hs => ?_, fun d hd => ?_, fun s hs => ?_⟩, ?_, ?_, Or.inl ⟨m6, d9, d10⟩, ⟨fun s hs => ?_, fun d hd => ?_⟩, fun i hi => ?_, ?_⟩
    · show _ = (hI k4 (V 62) s).toInt - 1
      rw [d1 s hs, m1 s hs, zm, z0]; rfl
    · show bitJ _ s = true ↔ 0 < (hI k4 (V 62) s).toInt ∧ _
      rw [d2 d hd, m1 s hs, bj_zero]
      exact ⟨fun z => absurd z (by decide), fun z => absurd z.1 (by decide)⟩
    · refine Or.inl ⟨d3 d hd, fun s hs z y => ?_⟩
      have y' : (hI k4 (V 62) s).toInt = _ := y
      rw [m1 s hs, z0] at y'
      omega
    · show 0 ≤ (hI k4 (V 62) s).toInt ∧ (hI k4 (V 62) s).toInt ≤ 24
      rw [m1 s hs]
      exact ⟨by decide, by decide⟩
    · show hI h3 (V 4) 5 = hI k4 (V 13) 1
      rw [d6, m4]
    · show hJ h3 (V 4) 8 = hJ k4 (V 13) 2
      rw [d8, m5]
    · rw [d4 s hs]; show (0 : Int64).toBitVec.toNat < 2 ^ 60; decide
    · rw [m2 d hd, d4 _ (Nat.mod_lt _ (by decide)), z0]
      refine ⟨?_, by decide⟩
      show (0 : Int) = ((0 / 2 ^ (5 * (d / 2)) % 32 : Nat) : Int)
      rw [Nat.zero_div]; rfl
    · have : i < 2 := by omega
      rw [d5 i this, m3 i this]
    · show hI h3 (V 4) 6 = hI k4 (V 13) 7
      rw [d7, m7]
  -- men
  replace e := cl_s e; obtain ⟨o4, e4, e⟩ := e
  replace e' := cl_s e'; obtain ⟨q5, f5, e'⟩ := e'
  rcases stg (Q := fun g => FrV V (wl wcM) h3 o4.2 ∧ FrV V (wl wrM) k4 g ∧ PMe V o4.2 g) D (by
    rcases rk_p D S3 Pc3 Pr4 P3.1 (fun s hs => by unfold mV; rw [m1 s hs]; rfl) e4 f5 with r | ⟨r1, r2, g, r3, r4, r5, r6⟩
    · exact Or.inl r
    · exact Or.inr ⟨r1, g, ⟨r2, r3, r5⟩, r4, r6⟩) e e' with r | ⟨g, ⟨A4, B5, q1⟩, S4, e, yq, e'⟩
  · exact Or.inl r
  rw [yq] at e'
  have P4 : PosV V o4.2 g := ⟨q1, psd_k P3.2.1 (fvi D A4 4 5) (fvi D B5 13 1), prt_k P3.2.2.1 (fvj D A4 4 8) (fvj D B5 13 2), pps_k P3.2.2.2.1 (fvj D A4 4 9) (fvj D A4 4 10) (fvi D B5 13 3) (fun i => fvI D B5 63 i), phd_k P3.2.2.2.2.1 (fun i => fvJ D A4 37 i) (fun i => fvI D B5 64 i), pck_k P3.2.2.2.2.2.1 (fun i => fvI D A4 38 i) (fun i => fvI D B5 65 i), pcl_k P3.2.2.2.2.2.2 (fvi D A4 4 6) (fvi D B5 13 7)⟩
  have A4' : FrV V (wl [(7, 2)]) o4.2 (wI o4.2 (V 7) 2 ((hI o4.2 (V 7) 2) + (1 : Int32))) := fv_w rfl
  have B5' : FrV V (wl [(16, 19)]) g (wI g (V 16) 19 ((hI g (V 16) 19) + (1 : Int32))) := fv_w rfl
  have P5 := pos_at D P4 A4' B5'
  have Pc5 := vpc_f (vpc_f Pc3 A4) A4'
  have Pr5 := vpr_f (vpr_f Pr4 B5) B5'
  have y9 : hJ (wI o4.2 (V 7) 2 ((hI o4.2 (V 7) 2) + (1 : Int32))) (V 4) 9 = 0 := by rw [fvj D A4' 4 9, fvj D A4 4 9]; exact d9
  have y10 : hJ (wI o4.2 (V 7) 2 ((hI o4.2 (V 7) 2) + (1 : Int32))) (V 4) 10 = 0 := by rw [fvj D A4' 4 10, fvj D A4 4 10]; exact d10
  have y3 : hI (wI g (V 16) 19 ((hI g (V 16) 19) + (1 : Int32))) (V 13) 3 = 0 := by rw [fvi D B5' 13 3, fvi D B5 13 3]; exact m6
  have y6 : hI (wI o4.2 (V 7) 2 ((hI o4.2 (V 7) 2) + (1 : Int32))) (V 4) 6 = 0 := by rw [fvi D A4' 4 6, fvi D A4 4 6]; exact d7
  clear yq A4 B5 q1 P4 A3 B4 d1 d2 d3 d4 d5 d6 d7 d8 d9 d10 m1 m2 m3 m4 m5 m6 m7 S3 P3
  dsimp only at e e'
  generalize wI o4.2 (V 7) 2 ((hI o4.2 (V 7) 2) + (1 : Int32)) = c5 at *
  generalize wI g (V 16) 19 ((hI g (V 16) 19) + (1 : Int32)) = r5 at *
  -- whose turn
  replace e := cl_s e; obtain ⟨o8, e8, e⟩ := e
  replace e' := cl_s e'; obtain ⟨q7, f7, e'⟩ := e'
  rcases stg (Q := fun g => FrV V (wl wcS) c5 o8.2 ∧ FrV V (wl wrS) r5 g ∧ PSd V o8.2 g) D (by
    rcases side_p D S4 e8 f7 with r | ⟨r1, r2, g, r3, r4, r5, r6⟩
    · exact Or.inl r
    · exact Or.inr ⟨r1, g, ⟨r2, r3, r5⟩, r4, r6⟩) e e' with r | ⟨g2, ⟨A8, B7, q2⟩, S8, e, yq, e'⟩
  · exact Or.inl r
  rw [yq] at e'
  have P8 : PosV V o8.2 g2 := ⟨pme_k P5.1 (fun i => fvI D A8 34 i) (fun i => fvI D A8 36 i) (fun i => fvJ D A8 35 i) (fvi D A8 2 4) (fun i => fvI D B7 62 i), q2, prt_k P5.2.2.1 (fvj D A8 4 8) (fvj D B7 13 2), pps_k P5.2.2.2.1 (fvj D A8 4 9) (fvj D A8 4 10) (fvi D B7 13 3) (fun i => fvI D B7 63 i), phd_k P5.2.2.2.2.1 (fun i => fvJ D A8 37 i) (fun i => fvI D B7 64 i), pck_k P5.2.2.2.2.2.1 (fun i => fvI D A8 38 i) (fun i => fvI D B7 65 i), pcl_k P5.2.2.2.2.2.2 (fvi D A8 4 6) (fvi D B7 13 7)⟩
  have A8' : FrV V (wl [(7, 2)]) o8.2 (wI o8.2 (V 7) 2 ((hI o8.2 (V 7) 2) + (1 : Int32))) := fv_w rfl
  have B7' : FrV V (wl [(16, 19)]) g2 (wI g2 (V 16) 19 ((hI g2 (V 16) 19) + (1 : Int32))) := fv_w rfl
  have P9 := pos_at D P8 A8' B7'
  have Pc9 := vpc_f (vpc_f Pc5 A8) A8'
  have Pr9 := vpr_f (vpr_f Pr5 B7) B7'
  rw [← fvj D A8 4 9, ← fvj D A8' 4 9] at y9
  rw [← fvj D A8 4 10, ← fvj D A8' 4 10] at y10
  rw [← fvi D B7 13 3, ← fvi D B7' 13 3] at y3
  rw [← fvi D A8 4 6, ← fvi D A8' 4 6] at y6
  clear yq A8 B7 q2 P8 P5 Pc5 Pr5 S4
  dsimp only at e e'
  generalize wI o8.2 (V 7) 2 ((hI o8.2 (V 7) 2) + (1 : Int32)) = c9 at *
  generalize wI g2 (V 16) 19 ((hI g2 (V 16) 19) + (1 : Int32)) = r9 at *
  -- rights
  replace e := cl_s e; obtain ⟨o12, e12, e⟩ := e
  replace e' := cl_s e'; obtain ⟨q9, f9, e'⟩ := e'
  rcases stg (Q := fun g => FrV V (wl wcT) c9 o12.2 ∧ FrV V (wl wrT) r9 g ∧ PRt V o12.2 g) D (by
    rcases rt_p D S8 P9.2.2.1 e12 f9 with r | ⟨r1, r2, g, r3, r4, r5, r6⟩
    · exact Or.inl r
    · exact Or.inr ⟨r1, g, ⟨r2, r3, r5⟩, r4, r6⟩) e e' with r | ⟨g3, ⟨A12, B9, q3⟩, S12, e, yq, e'⟩
  · exact Or.inl r
  rw [yq] at e'
  have P12 : PosV V o12.2 g3 := ⟨pme_k P9.1 (fun i => fvI D A12 34 i) (fun i => fvI D A12 36 i) (fun i => fvJ D A12 35 i) (fvi D A12 2 4) (fun i => fvI D B9 62 i), psd_k P9.2.1 (fvi D A12 4 5) (fvi D B9 13 1), q3, pps_k P9.2.2.2.1 (fvj D A12 4 9) (fvj D A12 4 10) (fvi D B9 13 3) (fun i => fvI D B9 63 i), phd_k P9.2.2.2.2.1 (fun i => fvJ D A12 37 i) (fun i => fvI D B9 64 i), pck_k P9.2.2.2.2.2.1 (fun i => fvI D A12 38 i) (fun i => fvI D B9 65 i), pcl_k P9.2.2.2.2.2.2 (fvi D A12 4 6) (fvi D B9 13 7)⟩
  have A12' : FrV V (wl [(7, 2)]) o12.2 (wI o12.2 (V 7) 2 ((hI o12.2 (V 7) 2) + (1 : Int32))) := fv_w rfl
  have B9' : FrV V (wl [(16, 19)]) g3 (wI g3 (V 16) 19 ((hI g3 (V 16) 19) + (1 : Int32))) := fv_w rfl
  have P13 := pos_at D P12 A12' B9'
  have Pc13 := vpc_f (vpc_f Pc9 A12) A12'
  have Pr13 := vpr_f (vpr_f Pr9 B9) B9'
  rw [← fvj D A12 4 9, ← fvj D A12' 4 9] at y9
  rw [← fvj D A12 4 10, ← fvj D A12' 4 10] at y10
  rw [← fvi D B9 13 3, ← fvi D B9' 13 3] at y3
  rw [← fvi D A12 4 6, ← fvi D A12' 4 6] at y6
  clear yq A12 B9 q3 P12 P9 Pc9 Pr9 S8
  dsimp only at e e'
  generalize wI o12.2 (V 7) 2 ((hI o12.2 (V 7) 2) + (1 : Int32)) = c13 at *
  generalize wI g3 (V 16) 19 ((hI g3 (V 16) 19) + (1 : Int32)) = r13 at *
  -- PASS
  replace e := cl_s e; obtain ⟨o16, e16, e⟩ := e
  replace e' := cl_s e'; obtain ⟨q11, f11, e'⟩ := e'
  rcases stg (Q := fun g => FrV V (wl wcP) c13 o16.2 ∧ FrV V (wl wrP) r13 g ∧ PPs V o16.2 g) D (by
    rcases ps_p D S12 Pr13 y9 y10 y3 e16 f11 with r | ⟨r1, r2, g, r3, r4, r5, r6⟩
    · exact Or.inl r
    · exact Or.inr ⟨r1, g, ⟨r2, r3, r5⟩, r4, r6⟩) e e' with r | ⟨g4, ⟨A16, B11, q4⟩, S16, e, yq, e'⟩
  · exact Or.inl r
  rw [yq] at e'
  have P16 : PosV V o16.2 g4 := ⟨pme_k P13.1 (fun i => fvI D A16 34 i) (fun i => fvI D A16 36 i) (fun i => fvJ D A16 35 i) (fvi D A16 2 4) (fun i => fvI D B11 62 i), psd_k P13.2.1 (fvi D A16 4 5) (fvi D B11 13 1), prt_k P13.2.2.1 (fvj D A16 4 8) (fvj D B11 13 2), q4, phd_k P13.2.2.2.2.1 (fun i => fvJ D A16 37 i) (fun i => fvI D B11 64 i), pck_k P13.2.2.2.2.2.1 (fun i => fvI D A16 38 i) (fun i => fvI D B11 65 i), pcl_k P13.2.2.2.2.2.2 (fvi D A16 4 6) (fvi D B11 13 7)⟩
  have A16' : FrV V (wl [(7, 2)]) o16.2 (wI o16.2 (V 7) 2 ((hI o16.2 (V 7) 2) + (1 : Int32))) := fv_w rfl
  have B11' : FrV V (wl [(16, 19)]) g4 (wI g4 (V 16) 19 ((hI g4 (V 16) 19) + (1 : Int32))) := fv_w rfl
  have P17 := pos_at D P16 A16' B11'
  have Pc17 := vpc_f (vpc_f Pc13 A16) A16'
  have Pr17 := vpr_f (vpr_f Pr13 B11) B11'
  rw [← fvi D A16 4 6, ← fvi D A16' 4 6] at y6
  clear yq A16 B11 q4 P16 P13 Pc13 Pr13 S12 y9 y10 y3
  dsimp only at e e'
  generalize wI o16.2 (V 7) 2 ((hI o16.2 (V 7) 2) + (1 : Int32)) = c17 at *
  generalize wI g4 (V 16) 19 ((hI g4 (V 16) 19) + (1 : Int32)) = r17 at *
  -- hands
  replace e := cl_s e; obtain ⟨o20, e20, e⟩ := e
  replace e' := cl_s e'; obtain ⟨q13, f13, e'⟩ := e'
  rcases stg (Q := fun g => FrV V (wl wcH) c17 o20.2 ∧ FrV V (wl wrH) r17 g ∧ PHd V o20.2 g) D (by
    rcases hd_p D S16 Pc17 Pr17 P17.2.2.2.2.1 e20 f13 with r | ⟨r1, r2, g, r3, r4, r5, r6⟩
    · exact Or.inl r
    · exact Or.inr ⟨r1, g, ⟨r2, r3, r5⟩, r4, r6⟩) e e' with r | ⟨g5, ⟨A20, B13, q5⟩, S20, e, yq, e'⟩
  · exact Or.inl r
  rw [yq] at e'
  have P20 : PosV V o20.2 g5 := ⟨pme_k P17.1 (fun i => fvI D A20 34 i) (fun i => fvI D A20 36 i) (fun i => fvJ D A20 35 i) (fvi D A20 2 4) (fun i => fvI D B13 62 i), psd_k P17.2.1 (fvi D A20 4 5) (fvi D B13 13 1), prt_k P17.2.2.1 (fvj D A20 4 8) (fvj D B13 13 2), pps_k P17.2.2.2.1 (fvj D A20 4 9) (fvj D A20 4 10) (fvi D B13 13 3) (fun i => fvI D B13 63 i), q5, pck_k P17.2.2.2.2.2.1 (fun i => fvI D A20 38 i) (fun i => fvI D B13 65 i), pcl_k P17.2.2.2.2.2.2 (fvi D A20 4 6) (fvi D B13 13 7)⟩
  have A20' : FrV V (wl [(7, 2)]) o20.2 (wI o20.2 (V 7) 2 ((hI o20.2 (V 7) 2) + (1 : Int32))) := fv_w rfl
  have B13' : FrV V (wl [(16, 19)]) g5 (wI g5 (V 16) 19 ((hI g5 (V 16) 19) + (1 : Int32))) := fv_w rfl
  have P21 := pos_at D P20 A20' B13'
  have Pc21 := vpc_f (vpc_f Pc17 A20) A20'
  have Pr21 := vpr_f (vpr_f Pr17 B13) B13'
  rw [← fvi D A20 4 6, ← fvi D A20' 4 6] at y6
  clear yq A20 B13 q5 P20 P17 Pc17 Pr17 S16
  dsimp only at e e'
  generalize wI o20.2 (V 7) 2 ((hI o20.2 (V 7) 2) + (1 : Int32)) = c21 at *
  generalize wI g5 (V 16) 19 ((hI g5 (V 16) 19) + (1 : Int32)) = r21 at *
  -- checks
  replace e := cl_s e; obtain ⟨o24, e24, e⟩ := e
  replace e' := cl_s e'; obtain ⟨q15, f15, e'⟩ := e'
  unfold sX7_readChecks at e24
  unfold sX15_readRest at f15
  have no : ∀ {g : Hp}, q15 = ((0 : Int32), g) → sX15_isPosition_71 F g = some o' := fun {g} z => by
    rw [z] at e'
    exact bp_e rfl e'
  rcases ck_2 D F F S20 Pc21 Pr21 (by decide) (by decide) (fun i hi => by rw [z0] at hi; omega) e24 f15 with ⟨r1, r2, r3⟩ | ⟨r1, A24, g6, B15, S24, q6, f15⟩
  · exact Or.inl (bad_1 r3 (bp_e r1 e) (bp_e r2 e'))
  have P24 : PosV V o24.2 g6 := ⟨pme_k P21.1 (fun i => fvI D A24 34 i) (fun i => fvI D A24 36 i) (fun i => fvJ D A24 35 i) (fvi D A24 2 4) (fun i => fvI D B15 62 i), psd_k P21.2.1 (fvi D A24 4 5) (fvi D B15 13 1), prt_k P21.2.2.1 (fvj D A24 4 8) (fvj D B15 13 2), pps_k P21.2.2.2.1 (fvj D A24 4 9) (fvj D A24 4 10) (fvi D B15 13 3) (fun i => fvI D B15 63 i), phd_k P21.2.2.2.2.1 (fun i => fvJ D A24 37 i) (fun i => fvI D B15 64 i), q6, pcl_k P21.2.2.2.2.2.2 (fvi D A24 4 6) (fvi D B15 13 7)⟩
  rw [← fvi D A24 4 6] at y6
  replace e := bn_e (fun z => by rw [r1] at z; exact absurd z (by decide)) e
  replace e := cl_s e; obtain ⟨o26, e26, e⟩ := e
  replace f15 := cl_s f15; obtain ⟨q2, f2, f15⟩ := f15
  unfold sX15_readRest_67 at f15
  rcases tk_p D S24 ⟨by decide, by decide⟩ e26 f2 with ⟨y, y'⟩ | ⟨y, y', S26⟩
  · rw [y] at e
    rw [y'] at f15
    exact Or.inl (bad_1 S24.2.2.2.1 (bp_e rfl e) (no (so_e (bp_e rfl f15))))
  have A26 : FrV V (wl [(7, 2)]) o24.2 o26.2 := by rw [y]; exact fv_w rfl
  have B26 : FrV V (wl [(16, 19)]) g6 q2.2 := by rw [y']; exact fv_w rfl
  have P26 := pos_at D P24 A26 B26
  rw [← fvi D A26 4 6] at y6
  replace e := bn_e (fun z => by rw [y] at z; exact absurd z (show ¬ (1 : Int32) = 0 by decide)) e
  replace f15 := bn_e (fun z => by rw [y'] at z; exact absurd z (show ¬ (1 : Int32) = 0 by decide)) f15
  -- the clock
  replace e := cl_s e; obtain ⟨o28, e28, e⟩ := e
  unfold sX7_readClock at e28
  replace e28 := nx_e e28
  replace f15 := cl_s f15; obtain ⟨q4, f4', f15⟩ := f15
  replace f15 := cl_s f15; obtain ⟨q5, f5', f15⟩ := f15
  obtain ⟨ob, eb⟩ : ∃ ob, sX9_byteAt o26.2 (V 10) (hI o26.2 (V 7) 2) = some ob := by
    cases F with
    | zero => exact absurd e28 (by rw [sX7_readClock_7]; exact fun z => nomatch z)
    | succ n =>
      rw [sX7_readClock_7] at e28
      replace e28 := bn_e (by decide) e28
      replace e28 := ce_e S26.1.2.1 e28
      replace e28 := cl_s e28; obtain ⟨ob, eb, _⟩ := e28
      exact ⟨ob, eb⟩
  obtain ⟨od, ed⟩ : ∃ od, sX2_isDigit o26.2 ob.1 = some od := by
    cases F with
    | zero => exact absurd e28 (by rw [sX7_readClock_7]; exact fun z => nomatch z)
    | succ n =>
      rw [sX7_readClock_7] at e28
      replace e28 := bn_e (by decide) e28
      replace e28 := ce_e S26.1.2.1 e28
      replace e28 := ce_e eb e28
      rw [byt_g eb] at e28
      replace e28 := cl_s e28; obtain ⟨od, ed, _⟩ := e28
      exact ⟨od, ed⟩
  obtain ⟨_, w4, H⟩ := by_p S26 eb f4'
  rw [w4] at f5'
  obtain ⟨wd, w5, alt⟩ := dg_b H ed f5'
  rw [w5] at f15
  rcases alt with ⟨n1, n2⟩ | ⟨n1, n2, _⟩
  · have y28 := rc_z S26 y6 eb ed wd n1 F e28
    rw [y28] at e
    exact Or.inl (bad_1 S26.2.2.2.1 (bp_e rfl e) (no (so_e (bp_e n2 f15))))
  replace f15 := bn_e n2 f15
  replace f15 := nx_e f15
  rw [← S26.2.2.2.1.1] at f15
  rcases cl_7 D S26.2.2.2.1.2.1 F F S26 y6 ⟨by decide, Or.inl (by decide)⟩ (by decide) (by decide) (by rw [z0]; omega) (fun _ o3 o4 z3 z4 => by
    have yy : o3 = ob := so_e (z3.symm.trans eb) ▸ rfl
    rw [yy] at z4
    have y4 : o4 = od := Option.some.inj (z4.symm.trans ed)
    rw [y4]
    exact n1) e28 f15 with ⟨s1, s2, s3⟩ | ⟨s1, A28, B28, S28, q7, alt⟩
  · exact Or.inl (bad_1 s3 (bp_e s1 e) (bp_e s2 e'))
  have P28 : PosV V o28.2 q15.2 := ⟨pme_k P26.1 (fun i => fvI D A28 34 i) (fun i => fvI D A28 36 i) (fun i => fvJ D A28 35 i) (fvi D A28 2 4) (fun i => fvI D B28 62 i), psd_k P26.2.1 (fvi D A28 4 5) (fvi D B28 13 1), prt_k P26.2.2.1 (fvj D A28 4 8) (fvj D B28 13 2), pps_k P26.2.2.2.1 (fvj D A28 4 9) (fvj D A28 4 10) (fvi D B28 13 3) (fun i => fvI D B28 63 i), phd_k P26.2.2.2.2.1 (fun i => fvJ D A28 37 i) (fun i => fvI D B28 64 i), pck_k P26.2.2.2.2.2.1 (fun i => fvI D A28 38 i) (fun i => fvI D B28 65 i), q7⟩
  replace e := bn_e (fun z => by rw [s1] at z; exact absurd z (by decide)) e
  replace e := ce_e S28.1.2.1 e
  replace e := cl_s e; obtain ⟨o31, e31, e⟩ := e
  obtain ⟨w31, alt31⟩ := byt_v S28 e31
  rw [w31] at e
  rcases alt with ⟨t, at'⟩ | ⟨t, at'⟩
  · rcases alt31 with ⟨_, m⟩ | ⟨l, _⟩
    rotate_left
    · rw [at'] at l; omega
    replace e := bp_e m e
    unfold sX7_read_144 sX7_read_157 at e
    replace e := bn_e (by decide) e
    replace e' := bn_e (fun z => by rw [t] at z; exact absurd z (by decide)) e'
    unfold sX15_isPosition_72 at e'
    right
    rw [so_e e, so_e (gg_e e')]
    exact ⟨rfl, rfl, P28⟩
  · rcases alt31 with ⟨l, _⟩ | ⟨_, l⟩
    · rw [l] at at'; omega
    replace e := bn_e (fun z => by
      have := l.1
      rw [z] at this
      exact absurd this (by decide)) e
    exact Or.inl (bad_1 S28.2.2.2.1 e (bp_e t e'))
end
