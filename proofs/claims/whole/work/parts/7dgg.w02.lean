section
/-! sentences by their first word -/
section
variable {T : Nat → Int} {N : Int} {F : Nat} {Z : Nat → Nat} {x2 : Int32} {hc hr oc or hc1 : Hp} {x : Int32} {o o' : Int32 × Hp}
theorem wd_2 (n12 : N ≤ 1200) (P : PS T N Z hc hr) {i i' : Nat} {A B A' B' : Int32 × Hp → Option (Int32 × Hp)} (hl : lB i = lB i') (sm : (lB i).length < 2147483648) (e : (cl (sX2_isWord F hc (Z 3) i) fun q => br (q.1 = 0) (A q) (B q)) = some o) (e' : (cl (sX15_isWord F hr (Z 16) (Z 82) i') fun q => br (q.1 = 0) (A' q) (B' q)) = some o') : (∃ q q' : Int32 × Hp, q.2 = hc ∧ q'.2 = hr ∧ A q = some o ∧ A' q' = some o') ∨ ∃ q q' : Int32 × Hp, q.2 = hc ∧ q'.2 = hr ∧ B q = some o ∧ B' q' = some o' := by
  replace e := cl_s e
  obtain ⟨o1, e1, e⟩ := e
  replace e' := cl_s e'
  obtain ⟨o2, e2, e'⟩ := e'
  obtain ⟨q1, q2, q3⟩ := iw_r n12 P.2.2.1 P.2.2.2.1 P.2.2.2.2.1 hl sm e1 e2
  replace e := br_s e
  replace e' := br_s e'
  rcases e with ⟨b, e⟩ | ⟨b, e⟩
  · rcases e' with ⟨_, e'⟩ | ⟨b', _⟩
    · exact Or.inl ⟨o1, o2, q1, q2, e, e'⟩
    · rw [← q3] at b'; exact absurd b b'
  · rcases e' with ⟨b', _⟩ | ⟨_, e'⟩
    · rw [← q3] at b'; exact absurd b' b
    · exact Or.inr ⟨o1, o2, q1, q2, e, e'⟩
/-- a flag of the reference's that the relation doesn't read -/
theorem ps_15 (D : ZD Z) {j : Nat} {v : Int32} (gj : j = Z 998 + 14) (hj : j = 15 ∨ j = 16 ∨ j = 17 ∨ j = 18) (P : PS T N Z hc hr) : PS T N Z hc (wI hr (Z 15) j v) := by
  obtain ⟨p1, p2, p3, p4, p5, s1, s2, s3, s4, s5, s6, s7, s8, s9⟩ := P
  have w : ∀ {a : Nat}, a ∈ zl → ¬ a = 15 → ∀ q, hI (wI hr (Z 15) j v) (Z a) q = hI hr (Z a) q := fun ha n q => rI_a (zne D n ha)
  have pn : ∀ p, p ∈ prs → ¬ p.2 = j := fun p hp => by
    have : ∀ p, p ∈ prs → ¬ p.2 = 15 ∧ ¬ p.2 = 16 ∧ ¬ p.2 = 17 ∧ ¬ p.2 = 18 := by decide
    have := this p hp
    omega
  have r2 : hI (wI hr (Z 15) j v) (Z 15) 2 = hI hr (Z 15) 2 := rI_o (by omega)
  refine ⟨p1, p2, p3, fun q hq => by rw [w (by decide) (by decide)]; exact p4 q hq, ?_, by rw [w (by decide) (by decide)]; exact s1, fun p hp => by rw [rI_o (pn p hp)]; exact s2 p hp, s3, s4, fun q hq => by rw [w (by decide) (by decide)]; exact s5 q hq, fun q hq => ?_, ⟨s7.1, fun q hq => ?_⟩, s8, s9.1, s9.2.1, fun q h1 h2 => ?_, s9.2.2.2.1, ⟨s9.2.2.2.2.1.1, fun k hk n => by rw [rI_o (by omega)]; exact s9.2.2.2.2.1.2 k hk n⟩, lt6_k s9.2.2.2.2.2.1 r2 (fun _ _ _ => rfl) (fun k hk i => w (lr_z k hk).1 (lr_z k hk).2.2.2.1 i), s9.2.2.2.2.2.2⟩
  · obtain ⟨p', k', A, B', ek⟩ := p5
    exact ⟨p', k', A, by rw [w (by decide) (by decide), w (by decide) (by decide), w (by decide) (by decide)]; exact B', by rw [w (by decide) (by decide)]; exact ek⟩
  · rw [w (by decide) (by decide)]
    refine ⟨(s6 q hq).1, (s6 q hq).2.1, fun k hk => ?_⟩
    rw [w (by decide) (by decide)]; exact (s6 q hq).2.2 k hk
  · rw [s7.2 q hq, r2]
    constructor
    · rintro ⟨a, b, c, d, e⟩
      exact ⟨a, b, c, by rw [w (by decide) (by decide)]; exact d, by rw [w (by decide) (by decide)]; exact e⟩
    · rintro ⟨a, b, c, d, e⟩
      rw [w (by decide) (by decide)] at d e
      exact ⟨a, b, c, d, e⟩
  · rw [r2] at h1
    rw [w (by decide) (by decide), w (by decide) (by decide)]
    exact s9.2.2.1 q h1 h2
/-- the class's switches -/
theorem ps_10 (D : ZD Z) {v : Int32} (l5 : LT5 Z (wI hc (Z 2) 10 v) hr) (P : PS T N Z hc hr) : PS T N Z (wI hc (Z 2) 10 v) hr := by
  obtain ⟨p1, p2, p3, p4, p5, s1, s2, s3, s4, s5, s6, s7, s8, s9⟩ := P
  have w : ∀ {a : Nat}, a ∈ zl → ¬ a = 2 → ∀ q, hI (wI hc (Z 2) 10 v) (Z a) q = hI hc (Z a) q := fun ha n q => rI_a (zne D n ha)
  have c2 : ∀ j, ¬ j = 10 → hI (wI hc (Z 2) 10 v) (Z 2) j = hI hc (Z 2) j := fun j n => rI_o n
  refine ⟨p1, p2, ct_w (zne D) (zne D) p1 p3, p4, ?_, by rw [w (by decide) (by decide)]; exact s1, fun p hp => by rw [c2 _ (prs_2 p hp).2.2]; exact s2 p hp, s3, by rw [c2 _ (by decide)]; exact s4, fun q hq => ?_, fun q hq => ?_, ⟨by rw [c2 _ (by decide)]; exact s7.1, fun q hq => by rw [c2 _ (by decide)]; exact s7.2 q hq⟩, by rw [c2 _ (by decide), c2 _ (by decide), c2 _ (by decide), c2 _ (by decide)]; exact s8, by rw [w (by decide) (by decide), c2 _ (by decide)]; exact s9.1, by rw [w (by decide) (by decide)]; exact s9.2.1, s9.2.2.1, by rw [w (by decide) (by decide)]; exact s9.2.2.2.1, l5, lt6_k s9.2.2.2.2.2.1 rfl (fun k hk i => w (lc_z k hk).1 (lc_z k hk).2.1 i) (fun _ _ _ => rfl), lt7_k s9.2.2.2.2.2.2 (c2 _ (by decide)) (fun i => w (by decide) (by decide) i)⟩
  · obtain ⟨p', k', A, B', ek⟩ := p5
    exact ⟨p', k', by rw [w (by decide) (by decide), w (by decide) (by decide), w (by decide) (by decide), w (by decide) (by decide)]; exact A, B', ek⟩
  · rw [c2 _ (by decide)] at hq
    rw [w (by decide) (by decide)]; exact s5 q hq
  · rw [w (by decide) (by decide)]
    refine ⟨(s6 q hq).1, (s6 q hq).2.1, fun k hk => ?_⟩
    rw [w (by decide) (by decide)]; exact (s6 q hq).2.2 k hk
/-- a ghost: which of hand, must, shy, blast the reference has told ahead -/
def zh (Z : Nat → Nat) (a : Nat) (k : Nat) : Nat := bif Nat.beq k 998 then a else Z k
theorem zd_h {Z : Nat → Nat} {a : Nat} (D : ZD Z) : ZD (zh Z a) := fun i hi j hj e => by
  have nz : ∀ k, k ∈ zl → ¬ k = 998 := by decide
  have o : ∀ k, k ∈ zl → zh Z a k = Z k := fun k hk => by
    unfold zh
    cases q : Nat.beq k 998 with
    | true => exact absurd (Nat.eq_of_beq_eq_true q) (nz k hk)
    | false => rfl
  rw [o i hi, o j hj] at e
  exact D i hi j hj e
theorem ps_zh {a : Nat} (P : PS T N Z hc hr) (z8 : Z 998 = 0) : PS T N (zh Z a) hc hr := by
  obtain ⟨p1, p2, p3, p4, p5, s1, s2, s3, s4, s5, s6, s7, s8, s9⟩ := P
  exact ⟨p1, p2, p3, p4, p5, s1, s2, s3, s4, s5, s6, s7, s8, s9.1, s9.2.1, s9.2.2.1, s9.2.2.2.1, ⟨s9.2.2.2.2.1.1, fun k hk _ => s9.2.2.2.2.1.2 k hk (by rw [z8]; exact (Nat.succ_ne_zero k).symm)⟩, s9.2.2.2.2.2⟩
theorem ps_hz {a : Nat} (P : PS T N (zh Z a) hc hr) (l5 : LT5 Z hc hr) : PS T N Z hc hr := by
  obtain ⟨p1, p2, p3, p4, p5, s1, s2, s3, s4, s5, s6, s7, s8, s9⟩ := P
  exact ⟨p1, p2, p3, p4, p5, s1, s2, s3, s4, s5, s6, s7, s8, s9.1, s9.2.1, s9.2.2.1, s9.2.2.2.1, l5, s9.2.2.2.2.2⟩
theorem sw_1 : ∀ y : Fin 16, Rg 0 15 ((nI y.val) ||| (1 : Int32)) ∧ ∀ q : Fin 4, (Bq ((nI y.val) ||| (1 : Int32)) q.val ↔ (Bq (nI y.val) q.val ∨ q.val = 0)) := by unfold Rg Bq; decide +kernel
theorem sw_2 : ∀ y : Fin 16, Rg 0 15 ((nI y.val) ||| (2 : Int32)) ∧ ∀ q : Fin 4, (Bq ((nI y.val) ||| (2 : Int32)) q.val ↔ (Bq (nI y.val) q.val ∨ q.val = 1)) := by unfold Rg Bq; decide +kernel
theorem sw_4 : ∀ y : Fin 16, Rg 0 15 ((nI y.val) ||| (4 : Int32)) ∧ ∀ q : Fin 4, (Bq ((nI y.val) ||| (4 : Int32)) q.val ↔ (Bq (nI y.val) q.val ∨ q.val = 2)) := by unfold Rg Bq; decide +kernel
theorem sw_8 : ∀ y : Fin 16, Rg 0 15 ((nI y.val) ||| (8 : Int32)) ∧ ∀ q : Fin 4, (Bq ((nI y.val) ||| (8 : Int32)) q.val ↔ (Bq (nI y.val) q.val ∨ q.val = 3)) := by unfold Rg Bq; decide +kernel
/-- the class tells it too -/
theorem sw_f (D : ZD Z) (z8 : Z 998 = 0) {k : Nat} {w : Int32} (hw : ∀ y : Fin 16, Rg 0 15 ((nI y.val) ||| w) ∧ ∀ q : Fin 4, (Bq ((nI y.val) ||| w) q.val ↔ (Bq (nI y.val) q.val ∨ q.val = k))) (P : PS T N (zh Z (k + 1)) hc hr) (fl : ¬ hI hr (Z 15) (15 + k) = 0) : PS T N Z (wI hc (Z 2) 10 ((hI hc (Z 2) 10) ||| w)) hr := by
  have S := ls_5 P.2.2.2.2.2
  have S1 : Rg 0 15 (hI hc (Z 2) 10) := S.1
  have S2 : ∀ q : Nat, q < 4 → ¬ k + 1 = q + 1 → (Bq (hI hc (Z 2) 10) q ↔ ¬ hI hr (Z 15) (15 + q) = 0) := S.2
  have H := small (P := fun y => Rg 0 15 (y ||| w) ∧ ∀ q : Fin 4, (Bq (y ||| w) q.val ↔ (Bq y q.val ∨ q.val = k))) (n := 15) S1 (by decide) hw
  have l5 : LT5 Z (wI hc (Z 2) 10 ((hI hc (Z 2) 10) ||| w)) hr := by
    refine ⟨by rw [rI_s]; exact H.1, fun q hq _ => ?_⟩
    have Hq : Bq ((hI hc (Z 2) 10) ||| w) q ↔ (Bq (hI hc (Z 2) 10) q ∨ q = k) := H.2 ⟨q, hq⟩
    rw [rI_s, Hq]
    by_cases y : q = k
    · rw [y]
      exact ⟨fun _ => fl, fun _ => Or.inr rfl⟩
    · rw [← S2 q hq (fun z => y (by omega))]
      exact ⟨fun z => z.resolve_right y, fun z => Or.inl z⟩
  exact ps_hz (ps_10 (zd_h D) ⟨l5.1, fun q hq _ => l5.2 q hq (by rw [z8]; exact (Nat.succ_ne_zero q).symm)⟩ P) l5
theorem o2_0 (P : PS T N Z hc hr) : Out2 T N Z ((0 : Int32), hc) ((0 : Int32), hr) := Or.inl (out_0 P)
/-- what is told once at most -/
theorem on_r {Zo : Nat → Nat} (hz : Zo 3 = Z 3 ∧ Zo 16 = Z 16) (D : ZD Z) {q : Nat} {w : Int32} (hq : ∀ y : Fin 1024, (((nI y.val) &&& w = 0) ↔ (((nI y.val) >>> ((nI q) &&& 31)) &&& (1 : Int32)) = 0) ∧ ((nI y.val) ||| w) = ((nI y.val) ||| ((1 : Int32) <<< ((nI q) &&& 31))) ∧ Rg 0 1023 ((nI y.val) ||| w) ∧ (((nI y.val) ||| w) &&& (32 : Int32) = 0 → (nI y.val) &&& (32 : Int32) = 0) ∧ (((nI y.val) ||| w) &&& (128 : Int32) = 0 → (nI y.val) &&& (128 : Int32) = 0)) (w0 : ¬ w = 0) (P : PS T N Z hc hr) {G : Hp → Option (Int32 × Hp)} (e : sX2_takeOther_26 F hc (Z 3) w (0 : Int32) = some o) (e' : (cl (sX15_isOnce hr (Z 16) (nI q)) fun a => br (a.1 = 0) (gd ((0 : Int32) &&& 1 = (0 : Int32)) <| some ((0 : Int32), a.2)) (cl (G a.2) fun b => br (b.1 = 0) (gd ((0 : Int32) &&& 1 = (0 : Int32)) <| some ((0 : Int32), b.2)) (gd ((1 : Int32) &&& 1 = (1 : Int32)) <| some ((1 : Int32), b.2)))) = some o') (act : ∀ {hc1 : Hp} {o6 u : Int32 × Hp}, PB T N Z (wI hc (Z 3) 6 ((hI hc (Z 3) 6) ||| w)) (wI hr (Z 16) 10 ((hI hc (Z 3) 6) ||| w)) → (hI hc (Z 3) 6) &&& w = 0 → sX2_advance F (wI hc (Z 3) 6 ((hI hc (Z 3) 6) ||| w)) (Z 3) = some hc1 → sX2_takeOnce F hc1 (Z 3) w = some o6 → G (wI hr (Z 16) 10 ((hI hc (Z 3) 6) ||| w)) = some u → Out2 T N Zo o6 u) : Out2 T N Zo o o' := by
  unfold sX2_takeOther_26 sX2_takeOther_44 at e
  replace e := br_s e
  rcases e with ⟨b, _⟩ | ⟨_, e⟩
  · exact absurd b w0
  replace e := br_s e
  rcases e with ⟨_, e⟩ | ⟨n, _⟩
  rotate_left
  · exact absurd rfl n
  replace e' := cl_s e'
  obtain ⟨a, ea, e'⟩ := e'
  obtain ⟨t1, t2, t3⟩ := onc_r hq P.2.2.2.2.2 ea
  rw [t1] at e'
  have fl := ps_fl P
  replace e := br_s e
  replace e' := br_s e'
  rcases e with ⟨c, e⟩ | ⟨c, e⟩
  rotate_left
  · rcases e' with ⟨_, e'⟩ | ⟨n, _⟩
    · rw [← Option.some.inj e, ← Option.some.inj (gd_s e').2]
      refine Or.inl (Or.inl ⟨rfl, rfl, ?_⟩)
      show hI hc (Zo 3) 2 = hI (wI hr (Z 16) 10 _) (Zo 16) 7
      rw [hz.1, hz.2, rI_o (by decide)]; exact fl
    · exact absurd (t2.mpr c) n
  rcases e' with ⟨n, _⟩ | ⟨_, e'⟩
  · exact absurd c (t2.mp n)
  replace e := nm_s e
  obtain ⟨h4, w4, e⟩ := e
  replace e := cl_s e
  obtain ⟨o5, e5, e⟩ := e
  replace e := cl_s e
  obtain ⟨o6, e6, e⟩ := e
  replace e' := cl_s e'
  obtain ⟨u, eu, e'⟩ := e'
  rw [w4] at e5
  have q6 := act (pb_t D t3 (ps_b P)) c e5 e6 eu
  have y6 : o = o6 := (Option.some.inj (gd_s e).2).symm
  rw [y6]
  replace e' := br_s e'
  rcases e' with ⟨z, e'⟩ | ⟨z, e'⟩
  · rw [← Option.some.inj (gd_s e').2]
    rcases q6 with q6 | ⟨a1, a2, a3, a4⟩
    · rcases q6 with ⟨a1, a2, a3⟩ | ⟨a1, a2, a3⟩
      · exact Or.inl (Or.inl ⟨a1, rfl, a3⟩)
      · exact absurd z a2
    · exact Or.inr ⟨a1, rfl, a3, a4⟩
  · rw [← Option.some.inj (gd_s e').2]
    rcases q6 with q6 | ⟨_, a2, _⟩
    · rcases q6 with ⟨_, a2, _⟩ | ⟨a1, a2, a3⟩
      · exact absurd a2 z
      · exact Or.inl (Or.inr ⟨a1, i1n0, a3⟩)
    · exact absurd a2 z
theorem tw_1 : ∀ y : Fin 1024, (((nI y.val) &&& (1 : Int32) = 0) ↔ (((nI y.val) >>> ((nI 0) &&& 31)) &&& (1 : Int32)) = 0) ∧ ((nI y.val) ||| (1 : Int32)) = ((nI y.val) ||| ((1 : Int32) <<< ((nI 0) &&& 31))) ∧ Rg 0 1023 ((nI y.val) ||| (1 : Int32)) ∧ (((nI y.val) ||| (1 : Int32)) &&& (32 : Int32) = 0 → (nI y.val) &&& (32 : Int32) = 0) ∧ (((nI y.val) ||| (1 : Int32)) &&& (128 : Int32) = 0 → (nI y.val) &&& (128 : Int32) = 0) := by unfold Rg; decide +kernel
theorem tw_2 : ∀ y : Fin 1024, (((nI y.val) &&& (2 : Int32) = 0) ↔ (((nI y.val) >>> ((nI 1) &&& 31)) &&& (1 : Int32)) = 0) ∧ ((nI y.val) ||| (2 : Int32)) = ((nI y.val) ||| ((1 : Int32) <<< ((nI 1) &&& 31))) ∧ Rg 0 1023 ((nI y.val) ||| (2 : Int32)) ∧ (((nI y.val) ||| (2 : Int32)) &&& (32 : Int32) = 0 → (nI y.val) &&& (32 : Int32) = 0) ∧ (((nI y.val) ||| (2 : Int32)) &&& (128 : Int32) = 0 → (nI y.val) &&& (128 : Int32) = 0) := by unfold Rg; decide +kernel
theorem tw_4 : ∀ y : Fin 1024, (((nI y.val) &&& (4 : Int32) = 0) ↔ (((nI y.val) >>> ((nI 2) &&& 31)) &&& (1 : Int32)) = 0) ∧ ((nI y.val) ||| (4 : Int32)) = ((nI y.val) ||| ((1 : Int32) <<< ((nI 2) &&& 31))) ∧ Rg 0 1023 ((nI y.val) ||| (4 : Int32)) ∧ (((nI y.val) ||| (4 : Int32)) &&& (32 : Int32) = 0 → (nI y.val) &&& (32 : Int32) = 0) ∧ (((nI y.val) ||| (4 : Int32)) &&& (128 : Int32) = 0 → (nI y.val) &&& (128 : Int32) = 0) := by unfold Rg; decide +kernel
theorem tw_8 : ∀ y : Fin 1024, (((nI y.val) &&& (8 : Int32) = 0) ↔ (((nI y.val) >>> ((nI 3) &&& 31)) &&& (1 : Int32)) = 0) ∧ ((nI y.val) ||| (8 : Int32)) = ((nI y.val) ||| ((1 : Int32) <<< ((nI 3) &&& 31))) ∧ Rg 0 1023 ((nI y.val) ||| (8 : Int32)) ∧ (((nI y.val) ||| (8 : Int32)) &&& (32 : Int32) = 0 → (nI y.val) &&& (32 : Int32) = 0) ∧ (((nI y.val) ||| (8 : Int32)) &&& (128 : Int32) = 0 → (nI y.val) &&& (128 : Int32) = 0) := by unfold Rg; decide +kernel
theorem tw_16 : ∀ y : Fin 1024, (((nI y.val) &&& (16 : Int32) = 0) ↔ (((nI y.val) >>> ((nI 4) &&& 31)) &&& (1 : Int32)) = 0) ∧ ((nI y.val) ||| (16 : Int32)) = ((nI y.val) ||| ((1 : Int32) <<< ((nI 4) &&& 31))) ∧ Rg 0 1023 ((nI y.val) ||| (16 : Int32)) ∧ (((nI y.val) ||| (16 : Int32)) &&& (32 : Int32) = 0 → (nI y.val) &&& (32 : Int32) = 0) ∧ (((nI y.val) ||| (16 : Int32)) &&& (128 : Int32) = 0 → (nI y.val) &&& (128 : Int32) = 0) := by unfold Rg; decide +kernel
theorem tw_32 : ∀ y : Fin 1024, (((nI y.val) &&& (32 : Int32) = 0) ↔ (((nI y.val) >>> ((nI 5) &&& 31)) &&& (1 : Int32)) = 0) ∧ ((nI y.val) ||| (32 : Int32)) = ((nI y.val) ||| ((1 : Int32) <<< ((nI 5) &&& 31))) ∧ Rg 0 1023 ((nI y.val) ||| (32 : Int32)) ∧ (((nI y.val) ||| (32 : Int32)) &&& (32 : Int32) = 0 → (nI y.val) &&& (32 : Int32) = 0) ∧ (((nI y.val) ||| (32 : Int32)) &&& (128 : Int32) = 0 → (nI y.val) &&& (128 : Int32) = 0) := by unfold Rg; decide +kernel
theorem tw_64 : ∀ y : Fin 1024, (((nI y.val) &&& (64 : Int32) = 0) ↔ (((nI y.val) >>> ((nI 6) &&& 31)) &&& (1 : Int32)) = 0) ∧ ((nI y.val) ||| (64 : Int32)) = ((nI y.val) ||| ((1 : Int32) <<< ((nI 6) &&& 31))) ∧ Rg 0 1023 ((nI y.val) ||| (64 : Int32)) ∧ (((nI y.val) ||| (64 : Int32)) &&& (32 : Int32) = 0 → (nI y.val) &&& (32 : Int32) = 0) ∧ (((nI y.val) ||| (64 : Int32)) &&& (128 : Int32) = 0 → (nI y.val) &&& (128 : Int32) = 0) := by unfold Rg; decide +kernel
theorem tw_128 : ∀ y : Fin 1024, (((nI y.val) &&& (128 : Int32) = 0) ↔ (((nI y.val) >>> ((nI 7) &&& 31)) &&& (1 : Int32)) = 0) ∧ ((nI y.val) ||| (128 : Int32)) = ((nI y.val) ||| ((1 : Int32) <<< ((nI 7) &&& 31))) ∧ Rg 0 1023 ((nI y.val) ||| (128 : Int32)) ∧ (((nI y.val) ||| (128 : Int32)) &&& (32 : Int32) = 0 → (nI y.val) &&& (32 : Int32) = 0) ∧ (((nI y.val) ||| (128 : Int32)) &&& (128 : Int32) = 0 → (nI y.val) &&& (128 : Int32) = 0) := by unfold Rg; decide +kernel
theorem tw_256 : ∀ y : Fin 1024, (((nI y.val) &&& (256 : Int32) = 0) ↔ (((nI y.val) >>> ((nI 8) &&& 31)) &&& (1 : Int32)) = 0) ∧ ((nI y.val) ||| (256 : Int32)) = ((nI y.val) ||| ((1 : Int32) <<< ((nI 8) &&& 31))) ∧ Rg 0 1023 ((nI y.val) ||| (256 : Int32)) ∧ (((nI y.val) ||| (256 : Int32)) &&& (32 : Int32) = 0 → (nI y.val) &&& (32 : Int32) = 0) ∧ (((nI y.val) ||| (256 : Int32)) &&& (128 : Int32) = 0 → (nI y.val) &&& (128 : Int32) = 0) := by unfold Rg; decide +kernel
theorem tw_512 : ∀ y : Fin 1024, (((nI y.val) &&& (512 : Int32) = 0) ↔ (((nI y.val) >>> ((nI 9) &&& 31)) &&& (1 : Int32)) = 0) ∧ ((nI y.val) ||| (512 : Int32)) = ((nI y.val) ||| ((1 : Int32) <<< ((nI 9) &&& 31))) ∧ Rg 0 1023 ((nI y.val) ||| (512 : Int32)) ∧ (((nI y.val) ||| (512 : Int32)) &&& (32 : Int32) = 0 → (nI y.val) &&& (32 : Int32) = 0) ∧ (((nI y.val) ||| (512 : Int32)) &&& (128 : Int32) = 0 → (nI y.val) &&& (128 : Int32) = 0) := by unfold Rg; decide +kernel
theorem ot_r (n12 : N ≤ 1200) (dg : ∀ j : Nat, (j : Int) < N → 0 ≤ T j ∧ T j ≤ 255) (D : ZD Z) (n2 : x2.toInt = N) (z8 : Z 998 = 0) (P : PS T N Z hc hr) {q30 q39 : Int32 × Hp} (e30 : sX15_isWord F hr (Z 16) (Z 82) 30 = some q30) (z30 : q30.2 = hr ∧ q30.1 = 0) (e39 : sX15_isWord F hr (Z 16) (Z 82) 39 = some q39) (z39 : q39.2 = hr ∧ q39.1 = 0) (e : sX2_takeOther F hc (Z 3) = some o) (e' : sX15_isSentence F hr (Z 16) (Z 82) x2 = some o') : Out2 T N Z o o' := by
  unfold sX15_isSentence at e'
  rw [e30, cl_some, z30.1, br_pos z30.2, e39, cl_some, z39.1, br_pos z39.2] at e'
  unfold sX2_takeOther sX2_takeOther_25 at e
  replace e := cl_s e
  obtain ⟨qo, eo, e⟩ := e
  unfold sX2_onceWord sX2_onceWord_123 at eo
  rcases wd_2 n12 P (i := 14) (i' := 40) rfl (by decide) eo e' with ⟨q, q', h1, h2, eo, e'⟩ | ⟨q, q', h1, h2, eo, e'⟩
  rotate_left
  · rw [h1] at eo
    rw [h2] at e'
    rw [← Option.some.inj eo] at e
    dsimp only at e
    replace e := br_s e
    rcases e with ⟨z, _⟩ | ⟨_, e⟩
    · exact absurd z (by decide)
    unfold sX15_isSentence_65 sX15_isSentence_66 at e'
    refine on_r (Zo := Z) ⟨rfl, rfl⟩ D (q := 0) (G := fun h => sX15_isRoyal F h (Z 16) (Z 82) x2) (w := (1 : Int32)) tw_1 (by decide) P e e' (fun {hc1 o6 u} PB0 ct ea e6 eu => ?_)
    unfold sX2_takeOnce at e6
    replace e6 := br_s e6
    rcases e6 with ⟨_, e6⟩ | ⟨z, _⟩
    rotate_left
    · exact absurd rfl z
    replace e6 := cl_s e6
    obtain ⟨v, ev, e6⟩ := e6
    have y : o6 = v := (Option.some.inj (gd_s e6).2).symm
    rw [y]
    exact Or.inl (ry_r n12 dg D n2 PB0 ea ev eu)
  rw [h1] at eo
  rw [h2] at e'
  rcases wd_2 n12 P (i := 15) (i' := 41) rfl (by decide) eo e' with ⟨q, q', h1, h2, eo, e'⟩ | ⟨q, q', h1, h2, eo, e'⟩
  rotate_left
  · rw [h1] at eo
    rw [h2] at e'
    rw [← Option.some.inj eo] at e
    dsimp only at e
    replace e := br_s e
    rcases e with ⟨_, e⟩ | ⟨z, _⟩
    rotate_left
    · exact absurd rfl z
    replace e := cl_s e
    obtain ⟨r3, e3, e⟩ := e
    rw [r_eq P.1.2.1 e3] at e
    replace e := br_s e
    rcases e with ⟨ry, e⟩ | ⟨ny, e⟩
    · -- nobody is royal yet
      unfold sX2_takeOther_26 sX2_takeOther_44 at e
      replace e := br_s e
      rcases e with ⟨z, _⟩ | ⟨_, e⟩
      · exact absurd z (by decide)
      replace e := br_s e
      rcases e with ⟨z, _⟩ | ⟨_, e⟩
      · exact absurd z (by decide)
      unfold sX15_isSentence_98 sX15_isSentence_99 at e'
      replace e' := cl_s e'
      obtain ⟨a, ea, e'⟩ := e'
      obtain ⟨t1, _, _⟩ := onc_r (q := 1) tw_2 P.2.2.2.2.2 ea
      rw [t1] at e'
      have fl : Fl2 Z hc (wI hr (Z 16) 10 ((hI hc (Z 3) 6) ||| (2 : Int32))) := by
        show hI hc (Z 3) 2 = _
        rw [rI_o (by decide)]; exact ps_fl P
      rw [← Option.some.inj e]
      replace e' := br_s e'
      rcases e' with ⟨_, e'⟩ | ⟨_, e'⟩
      · rw [← Option.some.inj (gd_s e').2]
        exact Or.inl (Or.inl ⟨rfl, rfl, fl⟩)
      replace e' := cl_s e'
      obtain ⟨u, eu, e'⟩ := e'
      unfold sX15_isCastle at eu
      replace eu := cl_s eu
      obtain ⟨r1, e1, eu⟩ := eu
      have y1 : r1 = Z 15 := r_eq P.2.1.1 e1
      have ry' : hI (wI hr (Z 16) 10 ((hI hc (Z 3) 6) ||| (2 : Int32))) (Z 15) 10 = (-1 : Int32) := by
        rw [rI_a (zne D), ← P.2.2.2.2.2.2.1 (4, 10) (by decide)]; exact ry
      rw [y1] at eu
      replace eu := br_s eu
      rcases eu with ⟨_, eu⟩ | ⟨z, _⟩
      rotate_left
      · exact absurd ry' z
      rw [← Option.some.inj eu] at e'
      replace e' := br_s e'
      rcases e' with ⟨_, e'⟩ | ⟨z, _⟩
      · rw [← Option.some.inj (gd_s e').2]
        exact Or.inl (Or.inl ⟨rfl, rfl, fl⟩)
      · exact absurd rfl z
    unfold sX15_isSentence_98 sX15_isSentence_99 at e'
    refine on_r (Zo := Z) ⟨rfl, rfl⟩ D (q := 1) (G := fun h => sX15_isCastle F h (Z 16) (Z 82) x2) (w := (2 : Int32)) tw_2 (by decide) P e e' (fun {hc1 o6 u} PB0 ct ea e6 eu => ?_)
    unfold sX2_takeOnce at e6
    replace e6 := br_s e6
    rcases e6 with ⟨z, _⟩ | ⟨_, e6⟩
    · exact absurd z (by decide)
    replace e6 := br_s e6
    rcases e6 with ⟨_, e6⟩ | ⟨z, _⟩
    rotate_left
    · exact absurd rfl z
    replace e6 := cl_s e6
    obtain ⟨v, ev, e6⟩ := e6
    have y : o6 = v := (Option.some.inj (gd_s e6).2).symm
    rw [y]
    exact Or.inl (ca_r n12 dg D n2 PB0 (by rw [rI_a (zne D)]; exact ny) ea ev eu)
  rw [h1] at eo
  rw [h2] at e'
  rcases wd_2 n12 P (i := 16) (i' := 42) rfl (by decide) eo e' with ⟨q, q', h1, h2, eo, e'⟩ | ⟨q, q', h1, h2, eo, e'⟩
  rotate_left
  · rw [h1] at eo
    rw [h2] at e'
    rw [← Option.some.inj eo] at e
    dsimp only at e
    replace e := br_s e
    rcases e with ⟨z, _⟩ | ⟨_, e⟩
    · exact absurd z (by decide)
    replace e' := cl_s e'
    obtain ⟨r59, e59, e'⟩ := e'
    rw [r_eq P.2.1.1 e59] at e'
    replace e' := nm_s e'
    obtain ⟨h60, w60, e'⟩ := e'
    have P60 : PS T N (zh Z 1) hc h60 := by rw [w60]; exact ps_15 (zd_h D) rfl (by decide) (ps_zh P z8)
    unfold sX15_isSentence_139 sX15_isSentence_140 at e'
    refine on_r (Z := zh Z 1) (Zo := Z) ⟨rfl, rfl⟩ (zd_h D) (q := 2) (G := fun h => sX15_goesOn F h (zh Z 1 16) (zh Z 1 82) x2) (w := (4 : Int32)) tw_4 (by decide) P60 e e' (fun {hc1 o6 u} PB0 ct ea e6 eu => ?_)
    unfold sX2_takeOnce at e6
    replace e6 := br_s e6
    rcases e6 with ⟨z, _⟩ | ⟨_, e6⟩
    · exact absurd z (by decide)
    replace e6 := br_s e6
    rcases e6 with ⟨z, _⟩ | ⟨_, e6⟩
    · exact absurd z (by decide)
    replace e6 := br_s e6
    rcases e6 with ⟨_, e6⟩ | ⟨z, _⟩
    rotate_left
    · exact absurd rfl z
    unfold sX15_goesOn at eu
    replace eu := cl_s eu
    obtain ⟨h3, e3, eu⟩ := eu
    have P3 := ps_a n12 dg (zd_h D) n2 PB0.1 PB0.2 ea e3
    have K3' := (nt_k (by omega) dg (zne (zd_h D)) PB0.1.2.2.2.1 n2 (by rw [← PB0.2.1]; exact PB0.2.2.1) (by rw [← PB0.2.1]; exact PB0.2.2.2) e3).1
    have fl3 : ¬ hI h3 (Z 15) (15 + 0) = 0 := by
      have y : hI h3 (zh Z 1 15) 15 = (1 : Int32) := by rw [K3'.2 _ _ (fun z => zn (zd_h D) z.1), rI_a (zne (zd_h D)), w60]; exact rI_s
      exact fun z => i1n0 (y.symm.trans z)
    replace e6 := cl_s e6
    obtain ⟨r7, e7, e6⟩ := e6
    rw [r_eq P3.1.2.1 e7] at e6
    replace e6 := nm_s e6
    obtain ⟨h8, w8, e6⟩ := e6
    rw [← Option.some.inj e6, ← Option.some.inj eu]
    refine Or.inl (Or.inr ⟨i1n0, i1n0, ?_⟩)
    show PS T N Z h8 h3
    rw [w8]; exact sw_f D z8 sw_1 P3 fl3
  rw [h1] at eo
  rw [h2] at e'
  rcases wd_2 n12 P (i := 17) (i' := 43) rfl (by decide) eo e' with ⟨q, q', h1, h2, eo, e'⟩ | ⟨q, q', h1, h2, eo, e'⟩
  rotate_left
  · rw [h1] at eo
    rw [h2] at e'
    rw [← Option.some.inj eo] at e
    dsimp only at e
    replace e := br_s e
    rcases e with ⟨z, _⟩ | ⟨_, e⟩
    · exact absurd z (by decide)
    replace e' := cl_s e'
    obtain ⟨r59, e59, e'⟩ := e'
    rw [r_eq P.2.1.1 e59] at e'
    replace e' := nm_s e'
    obtain ⟨h60, w60, e'⟩ := e'
    have P60 : PS T N (zh Z 2) hc h60 := by rw [w60]; exact ps_15 (zd_h D) rfl (by decide) (ps_zh P z8)
    unfold sX15_isSentence_180 sX15_isSentence_181 at e'
    refine on_r (Z := zh Z 2) (Zo := Z) ⟨rfl, rfl⟩ (zd_h D) (q := 3) (G := fun h => sX15_goesOn F h (zh Z 2 16) (zh Z 2 82) x2) (w := (8 : Int32)) tw_8 (by decide) P60 e e' (fun {hc1 o6 u} PB0 ct ea e6 eu => ?_)
    unfold sX2_takeOnce at e6
    replace e6 := br_s e6
    rcases e6 with ⟨z, _⟩ | ⟨_, e6⟩
    · exact absurd z (by decide)
    replace e6 := br_s e6
    rcases e6 with ⟨z, _⟩ | ⟨_, e6⟩
    · exact absurd z (by decide)
    replace e6 := br_s e6
    rcases e6 with ⟨z, _⟩ | ⟨_, e6⟩
    · exact absurd z (by decide)
    replace e6 := br_s e6
    rcases e6 with ⟨_, e6⟩ | ⟨z, _⟩
    rotate_left
    · exact absurd rfl z
    unfold sX15_goesOn at eu
    replace eu := cl_s eu
    obtain ⟨h3, e3, eu⟩ := eu
    have P3 := ps_a n12 dg (zd_h D) n2 PB0.1 PB0.2 ea e3
    have K3' := (nt_k (by omega) dg (zne (zd_h D)) PB0.1.2.2.2.1 n2 (by rw [← PB0.2.1]; exact PB0.2.2.1) (by rw [← PB0.2.1]; exact PB0.2.2.2) e3).1
    have fl3 : ¬ hI h3 (Z 15) (15 + 1) = 0 := by
      have y : hI h3 (zh Z 2 15) 16 = (1 : Int32) := by rw [K3'.2 _ _ (fun z => zn (zd_h D) z.1), rI_a (zne (zd_h D)), w60]; exact rI_s
      exact fun z => i1n0 (y.symm.trans z)
    replace e6 := cl_s e6
    obtain ⟨r7, e7, e6⟩ := e6
    rw [r_eq P3.1.2.1 e7] at e6
    replace e6 := nm_s e6
    obtain ⟨h8, w8, e6⟩ := e6
    rw [← Option.some.inj e6, ← Option.some.inj eu]
    refine Or.inl (Or.inr ⟨i1n0, i1n0, ?_⟩)
    show PS T N Z h8 h3
    rw [w8]; exact sw_f D z8 sw_2 P3 fl3
  rw [h1] at eo
  rw [h2] at e'
  rcases wd_2 n12 P (i := 18) (i' := 44) rfl (by decide) eo e' with ⟨q, q', h1, h2, eo, e'⟩ | ⟨q, q', h1, h2, eo, e'⟩
  rotate_left
  · rw [h1] at eo
    rw [h2] at e'
    rw [← Option.some.inj eo] at e
    dsimp only at e
    replace e := br_s e
    rcases e with ⟨z, _⟩ | ⟨_, e⟩
    · exact absurd z (by decide)
    replace e' := cl_s e'
    obtain ⟨r59, e59, e'⟩ := e'
    rw [r_eq P.2.1.1 e59] at e'
    replace e' := nm_s e'
    obtain ⟨h60, w60, e'⟩ := e'
    have P60 : PS T N (zh Z 3) hc h60 := by rw [w60]; exact ps_15 (zd_h D) rfl (by decide) (ps_zh P z8)
    unfold sX15_isSentence_221 sX15_isSentence_222 at e'
    refine on_r (Z := zh Z 3) (Zo := Z) ⟨rfl, rfl⟩ (zd_h D) (q := 4) (G := fun h => sX15_goesOn F h (zh Z 3 16) (zh Z 3 82) x2) (w := (16 : Int32)) tw_16 (by decide) P60 e e' (fun {hc1 o6 u} PB0 ct ea e6 eu => ?_)
    unfold sX2_takeOnce at e6
    replace e6 := br_s e6
    rcases e6 with ⟨z, _⟩ | ⟨_, e6⟩
    · exact absurd z (by decide)
    replace e6 := br_s e6
    rcases e6 with ⟨z, _⟩ | ⟨_, e6⟩
    · exact absurd z (by decide)
    replace e6 := br_s e6
    rcases e6 with ⟨z, _⟩ | ⟨_, e6⟩
    · exact absurd z (by decide)
    replace e6 := br_s e6
    rcases e6 with ⟨z, _⟩ | ⟨_, e6⟩
    · exact absurd z (by decide)
    replace e6 := br_s e6
    rcases e6 with ⟨_, e6⟩ | ⟨z, _⟩
    rotate_left
    · exact absurd rfl z
    unfold sX15_goesOn at eu
    replace eu := cl_s eu
    obtain ⟨h3, e3, eu⟩ := eu
    have P3 := ps_a n12 dg (zd_h D) n2 PB0.1 PB0.2 ea e3
    have K3' := (nt_k (by omega) dg (zne (zd_h D)) PB0.1.2.2.2.1 n2 (by rw [← PB0.2.1]; exact PB0.2.2.1) (by rw [← PB0.2.1]; exact PB0.2.2.2) e3).1
    have fl3 : ¬ hI h3 (Z 15) (15 + 2) = 0 := by
      have y : hI h3 (zh Z 3 15) 17 = (1 : Int32) := by rw [K3'.2 _ _ (fun z => zn (zd_h D) z.1), rI_a (zne (zd_h D)), w60]; exact rI_s
      exact fun z => i1n0 (y.symm.trans z)
    replace e6 := cl_s e6
    obtain ⟨r7, e7, e6⟩ := e6
    rw [r_eq P3.1.2.1 e7] at e6
    replace e6 := nm_s e6
    obtain ⟨h8, w8, e6⟩ := e6
    rw [← Option.some.inj e6, ← Option.some.inj eu]
    refine Or.inl (Or.inr ⟨i1n0, i1n0, ?_⟩)
    show PS T N Z h8 h3
    rw [w8]; exact sw_f D z8 sw_4 P3 fl3
  rw [h1] at eo
  rw [h2] at e'
  rcases wd_2 n12 P (i := 19) (i' := 45) rfl (by decide) eo e' with ⟨q, q', h1, h2, eo, e'⟩ | ⟨q, q', h1, h2, eo, e'⟩
  rotate_left
  · rw [h1] at eo
    rw [h2] at e'
    rw [← Option.some.inj eo] at e
    dsimp only at e
    replace e := br_s e
    rcases e with ⟨z, _⟩ | ⟨_, e⟩
    · exact absurd z (by decide)
    replace e' := cl_s e'
    obtain ⟨r59, e59, e'⟩ := e'
    rw [r_eq P.2.1.1 e59] at e'
    replace e' := nm_s e'
    obtain ⟨h60, w60, e'⟩ := e'
    have P60 : PS T N (zh Z 4) hc h60 := by rw [w60]; exact ps_15 (zd_h D) rfl (by decide) (ps_zh P z8)
    unfold sX15_isSentence_262 sX15_isSentence_263 at e'
    refine on_r (Z := zh Z 4) (Zo := Z) ⟨rfl, rfl⟩ (zd_h D) (q := 5) (G := fun h => sX15_isBlast F h (zh Z 4 16) (zh Z 4 82) x2) (w := (32 : Int32)) tw_32 (by decide) P60 e e' (fun {hc1 o6 u} PB0 ct ea e6 eu => ?_)
    unfold sX2_takeOnce at e6
    replace e6 := br_s e6
    rcases e6 with ⟨z, _⟩ | ⟨_, e6⟩
    · exact absurd z (by decide)
    replace e6 := br_s e6
    rcases e6 with ⟨z, _⟩ | ⟨_, e6⟩
    · exact absurd z (by decide)
    replace e6 := br_s e6
    rcases e6 with ⟨z, _⟩ | ⟨_, e6⟩
    · exact absurd z (by decide)
    replace e6 := br_s e6
    rcases e6 with ⟨z, _⟩ | ⟨_, e6⟩
    · exact absurd z (by decide)
    replace e6 := br_s e6
    rcases e6 with ⟨z, _⟩ | ⟨_, e6⟩
    · exact absurd z (by decide)
    replace e6 := br_s e6
    rcases e6 with ⟨_, e6⟩ | ⟨z, _⟩
    rotate_left
    · exact absurd rfl z
    replace e6 := cl_s e6
    obtain ⟨v, ev, e6⟩ := e6
    have y : o6 = v := (Option.some.inj (gd_s e6).2).symm
    rw [y]
    unfold sX15_isBlast at eu
    replace eu := cl_s eu
    obtain ⟨h3, e3, eu⟩ := eu
    have P3 := ps_a n12 dg (zd_h D) n2 PB0.1 PB0.2 ea e3
    have K3 := (adv_k n12 dg PB0.1.2.2.1 PB0.2.2.1 PB0.2.2.2 ea).1
    unfold sX2_takeBlast at ev
    replace ev := cl_s ev
    obtain ⟨r1, e1, ev⟩ := ev
    rw [r_eq P3.1.2.1 e1] at ev
    replace ev := nm_s ev
    obtain ⟨h2, w2, ev⟩ := ev
    have K3' := (nt_k (by omega) dg (zne (zd_h D)) PB0.1.2.2.2.1 n2 (by rw [← PB0.2.1]; exact PB0.2.2.1) (by rw [← PB0.2.1]; exact PB0.2.2.2) e3).1
    have fl3 : ¬ hI h3 (Z 15) (15 + 3) = 0 := by
      have y : hI h3 (zh Z 4 15) 18 = (1 : Int32) := by rw [K3'.2 _ _ (fun z => zn (zd_h D) z.1), rI_a (zne (zd_h D)), w60]; exact rI_s
      exact fun z => i1n0 (y.symm.trans z)
    have P2 : PS T N Z h2 h3 := by rw [w2]; exact sw_f D z8 sw_8 P3 fl3
    have t6 : hI h2 (zh Z 4 3) 6 = (hI hc (Z 3) 6) ||| (32 : Int32) := by
      rw [w2, rI_a (zne (zd_h D)), K3.2 _ _ (fun z => by have := z.2.2; omega)]
      exact rI_s
    have f0 : hI h2 (zh Z 4 2) 11 = 0 := by
      rw [w2, rI_o (by decide), K3.2 _ _ (fun z => zn (zd_h D) z.1), rI_a (zne (zd_h D))]
      exact P.2.2.2.2.2.2.2.2.2.2.2.2.2.1 ct
    refine bl_16 n12 dg D n2 F F P2 ?_ (show (0 : Int) ≤ (0 : Int32).toInt by decide) (by decide) ?_ ev eu
    · show ¬ (hI h2 (zh Z 4 3) 6) &&& (32 : Int32) = 0
      rw [t6]
      exact (small (P := fun y => ¬ (y ||| (32 : Int32)) &&& (32 : Int32) = 0) (n := 1023) P.2.2.2.2.2.1.2 (by decide) (by decide +kernel))
    · have f0' : hI h2 (Z 2) 11 = 0 := f0
      rw [f0']; decide
  rw [h1] at eo
  rw [h2] at e'
  rcases wd_2 n12 P (i := 20) (i' := 46) rfl (by decide) eo e' with ⟨q, q', h1, h2, eo, e'⟩ | ⟨q, q', h1, h2, eo, e'⟩
  rotate_left
  · rw [h1] at eo
    rw [h2] at e'
    rw [← Option.some.inj eo] at e
    dsimp only at e
    replace e := br_s e
    rcases e with ⟨z, _⟩ | ⟨_, e⟩
    · exact absurd z (by decide)
    unfold sX15_isSentence_296 sX15_isSentence_297 at e'
    refine on_r (Zo := Z) ⟨rfl, rfl⟩ D (q := 6) (G := fun h => sX15_isChecks F h (Z 16) (Z 82) x2) (w := (64 : Int32)) tw_64 (by decide) P e e' (fun {hc1 o6 u} PB0 ct ea e6 eu => ?_)
    unfold sX2_takeOnce at e6
    replace e6 := br_s e6
    rcases e6 with ⟨z, _⟩ | ⟨_, e6⟩
    · exact absurd z (by decide)
    replace e6 := br_s e6
    rcases e6 with ⟨z, _⟩ | ⟨_, e6⟩
    · exact absurd z (by decide)
    replace e6 := br_s e6
    rcases e6 with ⟨z, _⟩ | ⟨_, e6⟩
    · exact absurd z (by decide)
    replace e6 := br_s e6
    rcases e6 with ⟨z, _⟩ | ⟨_, e6⟩
    · exact absurd z (by decide)
    replace e6 := br_s e6
    rcases e6 with ⟨z, _⟩ | ⟨_, e6⟩
    · exact absurd z (by decide)
    replace e6 := br_s e6
    rcases e6 with ⟨z, _⟩ | ⟨_, e6⟩
    · exact absurd z (by decide)
    replace e6 := br_s e6
    rcases e6 with ⟨_, e6⟩ | ⟨z, _⟩
    rotate_left
    · exact absurd rfl z
    replace e6 := cl_s e6
    obtain ⟨v, ev, e6⟩ := e6
    have y : o6 = v := (Option.some.inj (gd_s e6).2).symm
    rw [y]
    exact Or.inl (ch_r n12 dg D n2 PB0 ea ev eu)
  rw [h1] at eo
  rw [h2] at e'
  rcases wd_2 n12 P (i := 21) (i' := 47) rfl (by decide) eo e' with ⟨q, q', h1, h2, eo, e'⟩ | ⟨q, q', h1, h2, eo, e'⟩
  rotate_left
  · rw [h1] at eo
    rw [h2] at e'
    rw [← Option.some.inj eo] at e
    dsimp only at e
    replace e := br_s e
    rcases e with ⟨z, _⟩ | ⟨_, e⟩
    · exact absurd z (by decide)
    unfold sX15_isSentence_330 sX15_isSentence_331 at e'
    refine on_r (Zo := Z) ⟨rfl, rfl⟩ D (q := 7) (G := fun h => sX15_isHill F h (Z 16) (Z 82) x2) (w := (128 : Int32)) tw_128 (by decide) P e e' (fun {hc1 o6 u} PB0 ct ea e6 eu => ?_)
    unfold sX2_takeOnce at e6
    replace e6 := br_s e6
    rcases e6 with ⟨z, _⟩ | ⟨_, e6⟩
    · exact absurd z (by decide)
    replace e6 := br_s e6
    rcases e6 with ⟨z, _⟩ | ⟨_, e6⟩
    · exact absurd z (by decide)
    replace e6 := br_s e6
    rcases e6 with ⟨z, _⟩ | ⟨_, e6⟩
    · exact absurd z (by decide)
    replace e6 := br_s e6
    rcases e6 with ⟨z, _⟩ | ⟨_, e6⟩
    · exact absurd z (by decide)
    replace e6 := br_s e6
    rcases e6 with ⟨z, _⟩ | ⟨_, e6⟩
    · exact absurd z (by decide)
    replace e6 := br_s e6
    rcases e6 with ⟨z, _⟩ | ⟨_, e6⟩
    · exact absurd z (by decide)
    replace e6 := br_s e6
    rcases e6 with ⟨z, _⟩ | ⟨_, e6⟩
    · exact absurd z (by decide)
    replace e6 := br_s e6
    rcases e6 with ⟨_, e6⟩ | ⟨z, _⟩
    rotate_left
    · exact absurd rfl z
    replace e6 := cl_s e6
    obtain ⟨v, ev, e6⟩ := e6
    have y : o6 = v := (Option.some.inj (gd_s e6).2).symm
    rw [y]
    unfold sX15_isHill at eu
    replace eu := cl_s eu
    obtain ⟨h3, e3, eu⟩ := eu
    have P3 := ps_a n12 dg D n2 PB0.1 PB0.2 ea e3
    have K3 := (adv_k n12 dg PB0.1.2.2.1 PB0.2.2.1 PB0.2.2.2 ea).1
    unfold sX2_takeHill at ev
    have t6 : hI hc1 (Z 3) 6 = (hI hc (Z 3) 6) ||| (128 : Int32) := by
      rw [K3.2 _ _ (fun z => by have := z.2.2; omega), rI_s]
    have f0 : hJ hc1 (Z 2) 13 = 0 := by
      rw [K3.1.2]
      exact P.2.2.2.2.2.2.2.2.2.2.2.2.2.2.1 ct
    refine hi_2 n12 dg D n2 F F P3 ?_ (show (0 : Int) ≤ (0 : Int32).toInt by decide) (by decide) ?_ ev eu
    · rw [t6]
      exact (small (P := fun y => ¬ (y ||| (128 : Int32)) &&& (128 : Int32) = 0) (n := 1023) P.2.2.2.2.2.1.2 (by decide) (by decide +kernel))
    · rw [f0, crt_0]; rfl
  rw [h1] at eo
  rw [h2] at e'
  rcases wd_2 n12 P (i := 22) (i' := 48) rfl (by decide) eo e' with ⟨q, q', h1, h2, eo, e'⟩ | ⟨q, q', h1, h2, eo, e'⟩
  rotate_left
  · rw [h1] at eo
    rw [h2] at e'
    rw [← Option.some.inj eo] at e
    dsimp only at e
    replace e := br_s e
    rcases e with ⟨z, _⟩ | ⟨_, e⟩
    · exact absurd z (by decide)
    unfold sX15_isSentence_365 sX15_isSentence_366 at e'
    refine on_r (Zo := Z) ⟨rfl, rfl⟩ D (q := 8) (G := fun h => sX15_isOutcome F h (Z 16) (Z 82) x2 (1 : Int32)) (w := (256 : Int32)) tw_256 (by decide) P e e' (fun {hc1 o6 u} PB0 ct ea e6 eu => ?_)
    unfold sX2_takeOnce sX2_takeOnce_180 sX2_takeOnce_207 at e6
    replace e6 := br_s e6
    rcases e6 with ⟨z, _⟩ | ⟨_, e6⟩
    · exact absurd z (by decide)
    replace e6 := br_s e6
    rcases e6 with ⟨z, _⟩ | ⟨_, e6⟩
    · exact absurd z (by decide)
    replace e6 := br_s e6
    rcases e6 with ⟨z, _⟩ | ⟨_, e6⟩
    · exact absurd z (by decide)
    replace e6 := br_s e6
    rcases e6 with ⟨z, _⟩ | ⟨_, e6⟩
    · exact absurd z (by decide)
    replace e6 := br_s e6
    rcases e6 with ⟨z, _⟩ | ⟨_, e6⟩
    · exact absurd z (by decide)
    replace e6 := br_s e6
    rcases e6 with ⟨z, _⟩ | ⟨_, e6⟩
    · exact absurd z (by decide)
    replace e6 := br_s e6
    rcases e6 with ⟨z, _⟩ | ⟨_, e6⟩
    · exact absurd z (by decide)
    replace e6 := br_s e6
    rcases e6 with ⟨z, _⟩ | ⟨_, e6⟩
    · exact absurd z (by decide)
    replace e6 := br_s e6
    rcases e6 with ⟨_, e6⟩ | ⟨z, _⟩
    rotate_left
    · exact absurd rfl z
    replace e6 := cl_s e6
    obtain ⟨r25, e25, e6⟩ := e6
    replace e6 := cl_s e6
    obtain ⟨v, ev, e6⟩ := e6
    have K3 := (adv_k n12 dg PB0.1.2.2.1 PB0.2.2.1 PB0.2.2.2 ea).1
    have y25 : r25 = Z 2 := r_eq PB0.1.1.2.1 (by rw [← K3.1.1]; exact e25)
    rw [y25] at e6
    replace e6 := nm_s e6
    obtain ⟨h27, w27, e6⟩ := e6
    obtain ⟨wl, wR⟩ := wl_r n12 dg D n2 (p := (8, 22)) (y := (1 : Int32)) (Or.inl rfl) (by decide) PB0 ea ev eu
    have R27 : hR h27 (Z 3) 1 = some (Z 2) := by
      rw [w27]
      show hR v.2 (Z 3) 1 = _
      rw [wR, K3.1.1]; exact PB0.1.1.2.1
    replace e6 := cl_s e6
    obtain ⟨r28, e28, e6⟩ := e6
    rw [r_eq R27 e28] at e6
    have k27 : hI h27 (Z 2) 8 = v.1 := by rw [w27, rI_s]
    rw [k27] at e6
    replace e6 := br_s e6
    rcases wl with ⟨a1, a2, a3⟩ | ⟨a1, a2, a3⟩
    · rcases e6 with ⟨_, e6⟩ | ⟨n, _⟩
      · rw [← Option.some.inj (gd_s e6).2]
        refine Or.inl (Or.inl ⟨rfl, a2, ?_⟩)
        show hI h27 (Z 3) 2 = _
        rw [w27, rI_a (zne D)]; exact a3
      · exact absurd a1 n
    · rcases e6 with ⟨n, _⟩ | ⟨_, e6⟩
      · exact absurd n a1
      · rw [← Option.some.inj (gd_s e6).2]
        refine Or.inl (Or.inr ⟨i1n0, a2, ?_⟩)
        show PS T N Z h27 u.2
        rw [w27]; exact a3
  rw [h1] at eo
  rw [h2] at e'
  rcases wd_2 n12 P (i := 23) (i' := 51) rfl (by decide) eo e' with ⟨q, q', h1, h2, eo, e'⟩ | ⟨q, q', h1, h2, eo, e'⟩
  rotate_left
  · rw [h1] at eo
    rw [h2] at e'
    rw [← Option.some.inj eo] at e
    dsimp only at e
    replace e := br_s e
    rcases e with ⟨z, _⟩ | ⟨_, e⟩
    · exact absurd z (by decide)
    unfold sX15_isSentence_400 sX15_isSentence_401 at e'
    refine on_r (Zo := Z) ⟨rfl, rfl⟩ D (q := 9) (G := fun h => sX15_isOutcome F h (Z 16) (Z 82) x2 (0 : Int32)) (w := (512 : Int32)) tw_512 (by decide) P e e' (fun {hc1 o6 u} PB0 ct ea e6 eu => ?_)
    unfold sX2_takeOnce sX2_takeOnce_180 sX2_takeOnce_207 at e6
    replace e6 := br_s e6
    rcases e6 with ⟨z, _⟩ | ⟨_, e6⟩
    · exact absurd z (by decide)
    replace e6 := br_s e6
    rcases e6 with ⟨z, _⟩ | ⟨_, e6⟩
    · exact absurd z (by decide)
    replace e6 := br_s e6
    rcases e6 with ⟨z, _⟩ | ⟨_, e6⟩
    · exact absurd z (by decide)
    replace e6 := br_s e6
    rcases e6 with ⟨z, _⟩ | ⟨_, e6⟩
    · exact absurd z (by decide)
    replace e6 := br_s e6
    rcases e6 with ⟨z, _⟩ | ⟨_, e6⟩
    · exact absurd z (by decide)
    replace e6 := br_s e6
    rcases e6 with ⟨z, _⟩ | ⟨_, e6⟩
    · exact absurd z (by decide)
    replace e6 := br_s e6
    rcases e6 with ⟨z, _⟩ | ⟨_, e6⟩
    · exact absurd z (by decide)
    replace e6 := br_s e6
    rcases e6 with ⟨z, _⟩ | ⟨_, e6⟩
    · exact absurd z (by decide)
    replace e6 := br_s e6
    rcases e6 with ⟨z, _⟩ | ⟨_, e6⟩
    · exact absurd z (by decide)
    replace e6 := cl_s e6
    obtain ⟨r25, e25, e6⟩ := e6
    replace e6 := cl_s e6
    obtain ⟨v, ev, e6⟩ := e6
    have K3 := (adv_k n12 dg PB0.1.2.2.1 PB0.2.2.1 PB0.2.2.2 ea).1
    have y25 : r25 = Z 2 := r_eq PB0.1.1.2.1 (by rw [← K3.1.1]; exact e25)
    rw [y25] at e6
    replace e6 := nm_s e6
    obtain ⟨h27, w27, e6⟩ := e6
    obtain ⟨wl, wR⟩ := wl_r n12 dg D n2 (p := (9, 23)) (y := (0 : Int32)) (Or.inr rfl) (by decide) PB0 ea ev eu
    have R27 : hR h27 (Z 3) 1 = some (Z 2) := by
      rw [w27]
      show hR v.2 (Z 3) 1 = _
      rw [wR, K3.1.1]; exact PB0.1.1.2.1
    replace e6 := cl_s e6
    obtain ⟨r28, e28, e6⟩ := e6
    rw [r_eq R27 e28] at e6
    have k27 : hI h27 (Z 2) 9 = v.1 := by rw [w27, rI_s]
    rw [k27] at e6
    replace e6 := br_s e6
    rcases wl with ⟨a1, a2, a3⟩ | ⟨a1, a2, a3⟩
    · rcases e6 with ⟨_, e6⟩ | ⟨n, _⟩
      · rw [← Option.some.inj (gd_s e6).2]
        refine Or.inl (Or.inl ⟨rfl, a2, ?_⟩)
        show hI h27 (Z 3) 2 = _
        rw [w27, rI_a (zne D)]; exact a3
      · exact absurd a1 n
    · rcases e6 with ⟨n, _⟩ | ⟨_, e6⟩
      · exact absurd n a1
      · rw [← Option.some.inj (gd_s e6).2]
        refine Or.inl (Or.inr ⟨i1n0, a2, ?_⟩)
        show PS T N Z h27 u.2
        rw [w27]; exact a3
  rw [h1] at eo
  rw [h2] at e'
  rw [← Option.some.inj eo] at e
  dsimp only at e
  replace e := br_s e
  rcases e with ⟨z, _⟩ | ⟨_, e⟩
  · exact absurd z (by decide)
  unfold sX2_takeOther_26 sX2_takeOther_44 at e
  replace e := br_s e
  rcases e with ⟨_, e⟩ | ⟨z, _⟩
  · unfold sX15_isSentence_400 sX15_isSentence_401 at e'
    rw [← Option.some.inj e, ← Option.some.inj (gd_s e').2]
    exact o2_0 P
  · exact absurd rfl z
end
end
section
/-! all sentences -/
def upz (Z : Nat → Nat) (B : Nat) (k : Nat) : Nat := bif Nat.beq k 999 then B else Z k
theorem uz {Z : Nat → Nat} {B i : Nat} (h : i ∈ zl) : upz Z B i = Z i := by
  have n : ¬ i = 999 := fun z => by rw [z] at h; exact absurd h (by decide)
  unfold upz
  cases q : Nat.beq i 999 with
  | true => exact absurd (Nat.eq_of_beq_eq_true q) n
  | false => rfl
theorem zd_u {Z : Nat → Nat} {B : Nat} (D : ZD Z) : ZD (upz Z B) := fun i hi j hj e => D i hi j hj (by rw [uz hi, uz hj] at e; exact e)
section
variable {T : Nat → Int} {N : Int} {F : Nat} {Z : Nat → Nat} {x2 : Int32} {hc hr oc or hc1 : Hp} {x : Int32} {o o' : Int32 × Hp}
theorem ps_z {B : Nat} (P : PS T N Z hc hr) (b : (B : Int) ≤ (hI hc (Z 3) 3).toInt) : PS T N (upz Z B) hc hr := by
  obtain ⟨p1, p2, p3, p4, p5, s1, s2, s3, s4, s5, s6, s7, s8, s9⟩ := P
  exact ⟨p1, p2, p3, p4, p5, s1, s2, s3, s4, s5, s6, s7, s8, s9.1, s9.2.1, s9.2.2.1, b, s9.2.2.2.2⟩
theorem ps_y {B : Nat} (P : PS T N (upz Z B) hc hr) (b : ((Z 999 : Nat) : Int) ≤ (hI hc (Z 3) 3).toInt) : PS T N Z hc hr := by
  obtain ⟨p1, p2, p3, p4, p5, s1, s2, s3, s4, s5, s6, s7, s8, s9⟩ := P
  exact ⟨p1, p2, p3, p4, p5, s1, s2, s3, s4, s5, s6, s7, s8, s9.1, s9.2.1, s9.2.2.1, b, s9.2.2.2.2⟩
/-- the sentence, whatever it is -/
theorem sen_r (n12 : N ≤ 1200) (dg : ∀ j : Nat, (j : Int) < N → 0 ≤ T j ∧ T j ≤ 255) (D : ZD Z) (n2 : x2.toInt = N) (z6 : Z 996 = 0) (z7 : Z 997 = 0) (z8 : Z 998 = 0) (P : PS T N Z hc hr) {R : Int32 × Hp → Option (Int32 × Hp)} (e : (cl (sX2_isWord F hc (Z 3) 4) fun a => br (a.1 = 0) (cl (sX2_isWord F a.2 (Z 3) 13) fun b => br (b.1 = 0) (cl (sX2_takeOther F b.2 (Z 3)) fun v => R v) (cl (sX2_takeBecomes F b.2 (Z 3)) fun v => R v)) (cl (sX2_takeMan F a.2 (Z 3)) fun v => R v)) = some o) {s : Int32 × Hp} (es : sX15_isSentence F hr (Z 16) (Z 82) x2 = some s) : ∃ v, Out2 T N Z v s ∧ R v = some o := by
  replace e := cl_s e
  obtain ⟨a, ea, e⟩ := e
  have es0 := es
  unfold sX15_isSentence at es
  replace es := cl_s es
  obtain ⟨a', ea', es⟩ := es
  obtain ⟨q1, q2, q3⟩ := iw_r n12 P.2.2.1 P.2.2.2.1 P.2.2.2.2.1 (i := 4) (i' := 30) rfl (by decide) ea ea'
  rw [q1] at e
  rw [q2] at es
  replace e := br_s e
  replace es := br_s es
  rcases e with ⟨b, e⟩ | ⟨b, e⟩
  rotate_left
  · rcases es with ⟨b', _⟩ | ⟨_, es⟩
    · rw [← q3] at b'; exact absurd b' b
    replace e := cl_s e
    obtain ⟨v, ev, e⟩ := e
    replace es := cl_s es
    obtain ⟨u, eu, es⟩ := es
    have y : s = u := (Option.some.inj (gd_s es).2).symm
    rw [y]
    exact ⟨v, Or.inl (ma_r n12 dg D n2 z7 z6 P ev eu), e⟩
  rcases es with ⟨b', es⟩ | ⟨b', _⟩
  rotate_left
  · rw [← q3] at b'; exact absurd b b'
  replace e := cl_s e
  obtain ⟨c, ec, e⟩ := e
  replace es := cl_s es
  obtain ⟨c', ec', es⟩ := es
  obtain ⟨t1, t2, t3⟩ := iw_r n12 P.2.2.1 P.2.2.2.1 P.2.2.2.2.1 (i := 13) (i' := 39) rfl (by decide) ec ec'
  rw [t1] at e
  rw [t2] at es
  replace e := br_s e
  replace es := br_s es
  rcases e with ⟨d, e⟩ | ⟨d, e⟩
  rotate_left
  · rcases es with ⟨d', _⟩ | ⟨_, es⟩
    · rw [← t3] at d'; exact absurd d' d
    replace e := cl_s e
    obtain ⟨v, ev, e⟩ := e
    replace es := cl_s es
    obtain ⟨u, eu, es⟩ := es
    have y : s = u := (Option.some.inj (gd_s es).2).symm
    rw [y]
    exact ⟨v, be_r n12 dg D n2 P ev eu, e⟩
  replace e := cl_s e
  obtain ⟨v, ev, e⟩ := e
  exact ⟨v, ot_r n12 dg D n2 z8 P ea' ⟨q2, b'⟩ ec' ⟨t2, by rw [← t3]; exact d⟩ ev es0, e⟩
/-- both readings end alike: at the end, or at one place -/
def Fin2 (Z : Nat → Nat) (o o' : Int32 × Hp) : Prop := (o.1 = 0 ∧ o'.1 = 0 ∧ Fl2 Z o.2 o'.2) ∨ (¬ o.1 = 0 ∧ ¬ o'.1 = 0 ∧ ZC Z o.2 ∧ ZR Z o'.2 ∧ LwS Z o.2 o'.2)
theorem rd_39 (n12 : N ≤ 1200) (dg : ∀ j : Nat, (j : Int) < N → 0 ≤ T j ∧ T j ≤ 255) (D : ZD Z) (n2 : x2.toInt = N) (z999 : Z 999 = 0) (z6 : Z 996 = 0) (z7 : Z 997 = 0) (z8 : Z 998 = 0) : ∀ (f g : Nat) {hc hr : Hp} {xi : Int32}, PS T N Z hc hr → 0 ≤ xi.toInt → xi.toInt ≤ (hI hc (Z 3) 2).toInt → sX2_read_39 F f hc (Z 3) (1 : Int32) xi = some o → sX15_isRules_117 F g hr (Z 16) (Z 82) x2 = some o' → Fin2 Z o o' := by
  have z1 : (1 : Int32).toInt = 1 := rfl
  have z1200 : (1200 : Int32).toInt = 1200 := rfl
  intro f
  induction f with
  | zero => intro g hc hr xi _ _ _ e; exact absurd e (by rw [sX2_read_39]; exact fun z => nomatch z)
  | succ f ih =>
    intro g hc hr xi P x0 xs e e'
    cases g with
    | zero => exact absurd e' (by rw [sX15_isRules_117]; exact fun z => nomatch z)
    | succ g =>
      have f0 := ts_f P.2.2.2.2.1
      have b0 := ts_b P.2.2.2.2.1
      rw [sX2_read_39] at e
      rw [sX15_isRules_117] at e'
      have ke : hI hc (Z 3) 4 = 0 ↔ hI hr (Z 16) 6 = (4 : Int32) := by
        have z0 : (0 : Int32).toInt = 0 := rfl
        have z4 : (4 : Int32).toInt = 4 := rfl
        rw [← Int32.toInt_inj, ← Int32.toInt_inj, f0.2.2.1, z0, z4]
        unfold km
        constructor
        · intro z; rw [if_pos z]
        · intro z
          by_cases q0 : (hI hc (Z 3) 4).toInt = 0
          · exact q0
          · rw [if_neg q0] at z
            by_cases q4 : (hI hc (Z 3) 4).toInt = 4
            · rw [if_pos q4] at z; omega
            · rw [if_neg q4] at z; exact absurd z q4
      -- the end of the text
      have fin : hI hc (Z 3) 4 = 0 → sX2_read_118 F hc (Z 3) (1 : Int32) = some o → Fin2 Z o o' := fun k e => by
        unfold sX2_read_118 sX2_read_133 sX2_read_134 at e
        replace e := br_s e
        rcases e with ⟨z, _⟩ | ⟨_, e⟩
        · exact absurd z (by decide)
        replace e := br_s e
        rcases e with ⟨_, e⟩ | ⟨n, _⟩
        rotate_left
        · exact absurd k n
        replace e' := br_s e'
        rcases e' with ⟨_, e'⟩ | ⟨n, _⟩
        rotate_left
        · exact absurd (ke.mp k) n
        rw [← Option.some.inj (gd_s e).2, ← Option.some.inj e']
        exact Or.inr ⟨i1n0, i1n0, P.1, P.2.1, P.2.2.2.2.2⟩
      replace e := br_s e
      rcases e with ⟨l, e⟩ | ⟨_, e⟩
      · -- a text of 1200 bytes has no sentence more
        have l := le_i l
        rw [z1200] at l
        refine fin ?_ e
        obtain ⟨p, k, A, _, _⟩ := P.2.2.2.2.1
        obtain ⟨_, c⟩ := A
        rcases c with ⟨_, c2, _⟩ | ⟨c1, _⟩
        · exact Int32.toInt_inj.mp c2
        · omega
      replace e := br_s e
      rcases e with ⟨z, _⟩ | ⟨_, e⟩
      · exact absurd z (by decide)
      replace e := br_s e
      rcases e with ⟨k, e⟩ | ⟨k, e⟩
      · exact fin k e
      replace e' := br_s e'
      rcases e' with ⟨n, _⟩ | ⟨_, e'⟩
      · exact absurd (ke.mpr n) k
      replace e' := cl_s e'
      obtain ⟨s, es, e'⟩ := e'
      -- behind a sentence
      have sl : (hI hc (Z 3) 2).toInt < (hI hc (Z 3) 3).toInt := by
        obtain ⟨p, k', A, _, _⟩ := P.2.2.2.2.1
        exact tk_e A (fun z => k (Int32.toInt_inj.mp z))
      have tx : (xi + (1 : Int32)).toInt = xi.toInt + 1 := by rw [ta (by rw [z1]; omega), z1]
      have Pz := ps_z (B := (hI hc (Z 3) 3).toInt.toNat) P (by omega)
      have go : ∀ {v : Int32 × Hp}, Out2 T N (upz Z (hI hc (Z 3) 3).toInt.toNat) v s → sX2_read_94 F (sX2_read_39 F f) v.2 (Z 3) xi v.1 = some o → Fin2 Z o o' := fun {v} q e => by
        have stop : ∀ {h : Hp} {x4 : Int32}, sX2_read_39 F f h (Z 3) (0 : Int32) x4 = some o → o = ((0 : Int32), h) := fun {h x4} e => by
          cases f with
          | zero => exact absurd e (by rw [sX2_read_39]; exact fun z => nomatch z)
          | succ f =>
            rw [sX2_read_39] at e
            unfold sX2_read_118 sX2_read_133 sX2_read_134 at e
            replace e := br_s e
            rcases e with ⟨_, e⟩ | ⟨_, e⟩
            · replace e := br_s e
              rcases e with ⟨_, e⟩ | ⟨z, _⟩
              · exact (Option.some.inj (gd_s e).2).symm
              · exact absurd rfl z
            · replace e := br_s e
              rcases e with ⟨_, e⟩ | ⟨z, _⟩
              · replace e := br_s e
                rcases e with ⟨_, e⟩ | ⟨z, _⟩
                · exact (Option.some.inj (gd_s e).2).symm
                · exact absurd rfl z
              · exact absurd rfl z
        unfold sX2_read_94 sX2_read_110 sX2_read_111 at e
        unfold sX15_isRules_144 at e'
        rcases q with (⟨a1, a2, a3⟩ | ⟨a1, a2, P2⟩) | ⟨a1, a2, a3, a4⟩
        · replace e := br_s e
          rcases e with ⟨_, e⟩ | ⟨n, _⟩
          rotate_left
          · exact absurd a1 n
          replace e := nm_s e
          obtain ⟨v1, _, e⟩ := e
          replace e' := br_s e'
          rcases e' with ⟨_, e'⟩ | ⟨n, _⟩
          rotate_left
          · exact absurd a2 n
          rw [stop e, ← Option.some.inj e']
          exact Or.inl ⟨rfl, rfl, a3⟩
        · replace e := br_s e
          rcases e with ⟨n, _⟩ | ⟨_, e⟩
          · exact absurd n a1
          replace e' := br_s e'
          rcases e' with ⟨n, _⟩ | ⟨_, e'⟩
          · exact absurd n a2
          replace e' := cl_s e'
          obtain ⟨o4, e4, e'⟩ := e'
          obtain ⟨t1, t2⟩ := sg_r P2.2.2.1 P2.2.2.2.1 P2.2.2.2.2.1 (kd := 3) (Or.inl ⟨rfl, rfl⟩) e4
          rw [t1] at e'
          replace e := cl_s e
          obtain ⟨o2, e2, e⟩ := e
          unfold sX2_takeEnd at e2
          replace e2 := br_s e2
          rcases e2 with ⟨k3, e2⟩ | ⟨k3, e2⟩
          rotate_left
          · rw [← Option.some.inj e2] at e
            replace e := br_s e
            rcases e with ⟨_, e⟩ | ⟨n, _⟩
            rotate_left
            · exact absurd rfl n
            replace e := nm_s e
            obtain ⟨v1, _, e⟩ := e
            replace e' := br_s e'
            rcases e' with ⟨_, e'⟩ | ⟨n, _⟩
            · have fl2 : Fl2 (upz Z (hI hc (Z 3) 3).toInt.toNat) v.2 s.2 := ps_fl P2
              rw [stop e, ← Option.some.inj e']
              exact Or.inl ⟨rfl, rfl, fl2⟩
            · exact absurd (t2.mpr (fun z => k3 (Int32.toInt_inj.mp z))) n
          replace e2 := cl_s e2
          obtain ⟨h3, e3, e2⟩ := e2
          rw [← Option.some.inj e2] at e
          replace e := br_s e
          rcases e with ⟨n, _⟩ | ⟨_, e⟩
          · exact absurd n i1n0
          replace e := nm_s e
          obtain ⟨v1, w1, e⟩ := e
          replace e' := br_s e'
          rcases e' with ⟨n, _⟩ | ⟨_, e'⟩
          · exact absurd (show (hI v.2 (Z 3) 4).toInt = 3 by rw [k3]; rfl) (t2.mp n)
          replace e' := cl_s e'
          obtain ⟨o6, e6, e'⟩ := e'
          have P3 := ps_a n12 dg (zd_u D) n2 (ps_b P2).1 (ps_b P2).2 e3 e6
          have A3 := (adv_k n12 dg P2.2.2.1 (ps_b P2).2.2.1 (ps_b P2).2.2.2 e3).2
          have a5 := A3.1.2.1
          have a6 := (tk_b A3).2.1
          have a7 : (((hI hc (Z 3) 3).toInt.toNat : Nat) : Int) ≤ (hI v.2 (Z 3) 3).toInt := P2.2.2.2.2.2.2.2.2.2.2.2.2.2.2.2.2.1
          have a5 : (hI v.2 (Z 3) 3).toInt ≤ (hI h3 (Z 3) 2).toInt := a5
          have a6 : (hI h3 (Z 3) 2).toInt ≤ (hI h3 (Z 3) 3).toInt := a6
          refine ih g (ps_y P3 (by rw [z999]; omega)) (by rw [w1, tx]; omega) (by rw [w1, tx]; omega) e e'
        · replace e := br_s e
          rcases e with ⟨n, _⟩ | ⟨_, e⟩
          · exact absurd n a1
          replace e' := br_s e'
          rcases e' with ⟨_, e'⟩ | ⟨n, _⟩
          rotate_left
          · exact absurd a2 n
          replace e := cl_s e
          obtain ⟨o2, e2, e⟩ := e
          unfold sX2_takeEnd at e2
          replace e2 := br_s e2
          rcases e2 with ⟨k3, _⟩ | ⟨_, e2⟩
          · exact absurd k3 a4
          rw [← Option.some.inj e2] at e
          replace e := br_s e
          rcases e with ⟨_, e⟩ | ⟨n, _⟩
          rotate_left
          · exact absurd rfl n
          replace e := nm_s e
          obtain ⟨v1, _, e⟩ := e
          rw [stop e, ← Option.some.inj e']
          exact Or.inl ⟨rfl, rfl, a3⟩
      obtain ⟨v, q, ev⟩ := sen_r n12 dg (zd_u D) n2 z6 z7 z8 Pz e es
      exact go q ev
end
end
