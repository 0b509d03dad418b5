section
/-! make: what it needs of the move, and the squares gone over behind it -/
/-- the board is files times ranks -/
def SqOk (x0 : Nat) (h : Hp) : Prop := (hI h x0 13).toInt = (hI h x0 11).toInt * (hI h x0 12).toInt
theorem sq_fr {ρ : Nat → Nat} {c : Cm} {h h2 : Hp} {S : Nat → Nat → Nat → Bool} {x0 : Nat} (T : TH ρ c h) (rx : ρ x0 = 16) (f : Fr ρ (cat c S h) h h2) (s1 : ∀ w, S 16 w 11 = false) (s2 : ∀ w, S 16 w 12 = false) (s3 : ∀ w, S 16 w 13 = false) (P : SqOk x0 h) : SqOk x0 h2 := by
  unfold SqOk
  rw [(fr_RI f rx (by decide) s1).1, (fr_RI f rx (by decide) s2).1, (fr_RI f rx (by decide) s3).1]
  exact P
/-- what copy, leave and come leave as it is -/
theorem cpy_post {ρ : Nat → Nat} {h o : Hp} {x0 x1 Mb Mt Pb Pt Hb Ht C : Nat} (r0 : ρ x0 = 13) (r1 : ρ x1 = 13) (rMb : ρ Mb = 62) (rMt : ρ Mt = 62) (rPb : ρ Pb = 63) (rPt : ρ Pt = 63) (rHb : ρ Hb = 64) (rHt : ρ Ht = 64) (rC : ρ C = 65)
    (eMb : hR h x1 0 = some Mb) (eMt : hR h x0 0 = some Mt) (ePb : hR h x1 4 = some Pb) (ePt : hR h x0 4 = some Pt) (eHb : hR h x1 5 = some Hb) (eHt : hR h x0 5 = some Ht) (eC : hR h x0 6 = some C) (e : sX12_copy h x0 x1 = some o) :
    (∀ a i, hR o a i = hR h a i) ∧ (∀ i, i < 64 → hI o Mt i = hI h Mb i) ∧ (∀ i, i < 24 → hI o Ht i = hI h Hb i) ∧ hI o x0 1 = hI h x1 1 ∧ hI o x0 3 = hI h x1 3 ∧ (∀ i, i < (hI h x1 3).toNatClampNeg → hI o Pt i = hI h Pb i) ∧ hI o x1 1 = hI h x1 1 ∧ (∀ a i, ¬ (ρ a = 13 ∨ (62 ≤ ρ a ∧ ρ a ≤ 65)) → hI o a i = hI h a i) ∧ (∀ a i, ¬ a = x0 → ¬ a = Mt → ¬ a = Pt → ¬ a = Ht → ¬ a = C → hI o a i = hI h a i) := by
  have hwn : ∀ {g : Hp} {a b j i k k2 : Nat} {v : Int32}, ρ a = k → ρ b = k2 → k ≠ k2 → hI (wI g b j v) a i = hI g a i := fun ha hb hk => by rw [r_I, if_neg (fun q => hk (by rw [← ha, ← hb, q.1]))]
  have hcn : ∀ {g : Hp} {a b a0 sp dp n i k k2 : Nat}, ρ a = k → ρ b = k2 → k ≠ k2 → hI (cpI g a0 sp b dp n) a i = hI g a i := fun ha hb hk => by rw [cp_at, if_neg (fun q => hk (by rw [← ha, ← hb, q.1]))]
  have z0 : (0 : Int32).toNatClampNeg = 0 := rfl
  have z1 : (1 : Int32).toNatClampNeg = 1 := rfl
  have z64 : (64 : Int32).toNatClampNeg = 64 := rfl
  have z24 : (24 : Int32).toNatClampNeg = 24 := rfl
  unfold sX12_copy at e
  simp only [nm, z0, z1, z64, z24] at e
  replace e := cl_s e; obtain ⟨q1, w1, e⟩ := e
  have := r_eq eMb w1
  subst this
  replace e := cl_s e; obtain ⟨q2, w2, e⟩ := e
  have := r_eq eMt w2
  subst this
  iterate 5 replace e := (gd_s e).2
  replace e := cl_s e; obtain ⟨q3, w3, e⟩ := e
  replace w3 : hR h x1 4 = some q3 := w3
  have := r_eq ePb w3
  subst this
  replace e := cl_s e; obtain ⟨q4, w4, e⟩ := e
  replace w4 : hR h x0 4 = some q4 := w4
  have := r_eq ePt w4
  subst this
  iterate 5 replace e := (gd_s e).2
  replace e := cl_s e; obtain ⟨q5, w5, e⟩ := e
  replace w5 : hR h x1 5 = some q5 := w5
  have := r_eq eHb w5
  subst this
  replace e := cl_s e; obtain ⟨q6, w6, e⟩ := e
  replace w6 : hR h x0 5 = some q6 := w6
  have := r_eq eHt w6
  subst this
  iterate 5 replace e := (gd_s e).2
  replace e := cl_s e; obtain ⟨q7, w7, e⟩ := e
  replace w7 : hR h x0 6 = some q7 := w7
  have := r_eq eC w7
  subst this
  replace e := cl_s e; obtain ⟨q8, w8, e⟩ := e
  iterate 2 replace e := (gd_s e).2
  replace e := cl_s e; obtain ⟨q9, w9, e⟩ := e
  replace w9 : hR h x0 6 = some q9 := w9
  have := r_eq w7 w9
  subst this
  replace e := cl_s e; obtain ⟨q10, w10, e⟩ := e
  iterate 2 replace e := (gd_s e).2
  have e := Option.some.inj e
  -- the heap behind the three fields
  have k3 : ∀ (g : Hp) (v1 v3 : Int32) (v2 : Int64) (a i : Nat), ¬ ρ a = 13 → hI (wI (wJ (wI g x0 1 v1) x0 2 v2) x0 3 v3) a i = hI g a i := fun g v1 v3 v2 a i ha => by
    rw [r_I, if_neg (fun q => ha (by rw [q.1]; exact r0))]
    show hI (wI g x0 1 v1) a i = _
    rw [r_I, if_neg (fun q => ha (by rw [q.1]; exact r0))]
  subst e
  refine ⟨fun _ _ => rfl, fun i hi => ?_, fun i hi => ?_, ?_, ?_, fun i hi => ?_, ?_, fun a i hn => ?_, fun a i u1 u2 u3 u4 u5 => ?_⟩
  · rw [hwn rMt r0 (by decide), hwn rMt rC (by decide), hwn rMt rC (by decide), hcn rMt rHt (by decide), hcn rMt rPt (by decide), k3 _ _ _ _ _ _ (by rw [rMt]; decide), cp_at, if_pos ⟨rfl, by omega, by omega⟩]
    congr 1; omega
  · rw [hwn rHt r0 (by decide), hwn rHt rC (by decide), hwn rHt rC (by decide), cp_at, if_pos ⟨rfl, by omega, by omega⟩, hcn rHb rPt (by decide), k3 _ _ _ _ _ _ (by rw [rHb]; decide), hcn rHb rMt (by decide)]
    congr 1; omega
  · rw [r_I, if_neg (by simp), hwn r0 rC (by decide), hwn r0 rC (by decide), hcn r0 rHt (by decide), hcn r0 rPt (by decide), r_I, if_neg (by simp)]
    show hI (wI (cpI h _ 0 _ 0 64) x0 1 _) x0 1 = _
    rw [r_I, if_pos ⟨rfl, rfl⟩, hcn r1 rMt (by decide)]
  · rw [r_I, if_neg (by simp), hwn r0 rC (by decide), hwn r0 rC (by decide), hcn r0 rHt (by decide), hcn r0 rPt (by decide), r_I, if_pos ⟨rfl, rfl⟩]
    show hI (wI (cpI h _ 0 _ 0 64) x0 1 _) x1 3 = _
    rw [r_I, if_neg (by simp), hcn r1 rMt (by decide)]
  · rw [hwn rPt r0 (by decide), hwn rPt rC (by decide), hwn rPt rC (by decide), hcn rPt rHt (by decide), cp_at]
    have en : hI (wI (wJ (wI (cpI h q1 0 q2 0 64) x0 1 (hI (cpI h q1 0 q2 0 64) x1 1)) x0 2 (hJ (wI (cpI h q1 0 q2 0 64) x0 1 (hI (cpI h q1 0 q2 0 64) x1 1)) x1 2)) x0 3 (hI (wJ (wI (cpI h q1 0 q2 0 64) x0 1 (hI (cpI h q1 0 q2 0 64) x1 1)) x0 2 (hJ (wI (cpI h q1 0 q2 0 64) x0 1 (hI (cpI h q1 0 q2 0 64) x1 1)) x1 2)) x1 3)) x0 3 = hI h x1 3 := by
      rw [r_I, if_pos ⟨rfl, rfl⟩]
      show hI (wI (cpI h _ 0 _ 0 64) x0 1 _) x1 3 = _
      rw [r_I, if_neg (by simp), hcn r1 rMt (by decide)]
    rw [en, if_pos ⟨rfl, by omega, by omega⟩, k3 _ _ _ _ _ _ (by rw [rPb]; decide), hcn rPb rMt (by decide)]
    congr 1; omega
  · have tail : ∀ (g : Hp) (v7 a1 a2 : Int32), hI (wI (wI (wI (cpI g q5 0 q6 0 24) q9 0 a1) q9 1 a2) x0 7 v7) x1 1 = hI g x1 1 := fun g v7 a1 a2 => by
      rw [r_I, if_neg (by simp), hwn r1 rC (by decide), hwn r1 rC (by decide), hcn r1 rHt (by decide)]
    rw [tail, hcn r1 rPt (by decide), r_I, if_neg (by simp)]
    show hI (wI (cpI h _ 0 _ 0 64) x0 1 _) x1 1 = _
    rw [r_I]
    by_cases q : x1 = x0
    · rw [if_pos ⟨q, rfl⟩, hcn r1 rMt (by decide)]
    · rw [if_neg (fun w => q w.1), hcn r1 rMt (by decide)]
  · have n13 : ¬ ρ a = 13 := fun q => hn (Or.inl q)
    have hw : ∀ {g : Hp} {b j : Nat} {v : Int32}, (ρ b = 13 ∨ (62 ≤ ρ b ∧ ρ b ≤ 65)) → hI (wI g b j v) a i = hI g a i := fun hb => by rw [r_I, if_neg (fun q => hn (by rw [q.1]; exact hb))]
    have hc : ∀ {g : Hp} {b a0 sp dp n : Nat}, (ρ b = 13 ∨ (62 ≤ ρ b ∧ ρ b ≤ 65)) → hI (cpI g a0 sp b dp n) a i = hI g a i := fun hb => by rw [cp_at, if_neg (fun q => hn (by rw [q.1]; exact hb))]
    rw [hw (Or.inl r0), hw (Or.inr (by rw [rC]; decide)), hw (Or.inr (by rw [rC]; decide)), hc (Or.inr (by rw [rHt]; decide)), hc (Or.inr (by rw [rPt]; decide)), k3 _ _ _ _ _ _ n13, hc (Or.inr (by rw [rMt]; decide))]
  · have hw : ∀ {g : Hp} {b j : Nat} {v : Int32}, ¬ a = b → hI (wI g b j v) a i = hI g a i := fun hb => by rw [r_I, if_neg (fun q => hb q.1)]
    have hc : ∀ {g : Hp} {b a0 sp dp n : Nat}, ¬ a = b → hI (cpI g a0 sp b dp n) a i = hI g a i := fun hb => by rw [cp_at, if_neg (fun q => hb q.1)]
    rw [hw u1, hw u5, hw u5, hc u4, hc u3, hw u1]
    show hI (wI (cpI h _ 0 _ 0 64) x0 1 _) a i = _
    rw [hw u1, hc u2]
section
variable {h o : Hp} {x0 b M : Nat} {q v : Int32}
theorem lv_post (eM : hR h b 0 = some M) (e : sX15_leave h x0 b q = some o) : ∃ w : Int64, o = wJ (wI h M q.toNatClampNeg (0 : Int32)) b 2 w := by
  unfold sX15_leave at e
  simp only [nm] at e
  replace e := cl_s e; obtain ⟨q1, w1, e⟩ := e
  have := r_eq eM w1
  subst this
  exact ⟨_, (Option.some.inj (gd_s e).2).symm⟩
theorem cm_post (eM : hR h b 0 = some M) (e : sX15_come h x0 b q v = some o) : ∃ w : Int64, o = wJ (wI h M q.toNatClampNeg v) b 2 w := by
  unfold sX15_come at e
  simp only [nm] at e
  replace e := cl_s e; obtain ⟨q1, w1, e⟩ := e
  have := r_eq eM w1
  subst this
  exact ⟨_, (Option.some.inj (gd_s e).2).symm⟩
end
/-- a number between: j of k parts -/
theorem btw {a d j k : Int} (j0 : 0 ≤ j) (jk : j ≤ k) (lo hi : Int) (a0 : lo ≤ a ∧ a ≤ hi) (a1 : lo ≤ a + k * d ∧ a + k * d ≤ hi) : lo ≤ a + j * d ∧ a + j * d ≤ hi := by
  by_cases q : 0 ≤ d
  · have p1 : 0 ≤ j * d := Int.mul_nonneg j0 q
    have p2 : j * d ≤ k * d := Int.mul_le_mul_of_nonneg_right jk q
    omega
  · have p1 : 0 ≤ j * (-d) := Int.mul_nonneg j0 (by omega)
    have p2 : j * (-d) ≤ k * (-d) := Int.mul_le_mul_of_nonneg_right jk (by omega)
    rw [Int.mul_neg] at p1 p2
    rw [Int.mul_neg] at p2
    omega
/-- the squares between are on the board, and none is the last -/
theorem way_in {F s t k dx dy j sq R : Int} (hF : 0 < F) (e1 : t / F = s / F + k * dy) (e2 : t % F = s % F + k * dx) (j0 : 0 ≤ j) (jk : j ≤ k) (hs : 0 ≤ s) (ht : 0 ≤ t) (s1 : s < sq) (t1 : t < sq) (es : sq = F * R) :
    (0 ≤ s % F + j * dx ∧ s % F + j * dx ≤ F - 1) ∧ (0 ≤ s / F + j * dy ∧ s / F + j * dy ≤ R - 1) ∧ 0 ≤ (s / F + j * dy) * F + (s % F + j * dx) ∧ (s / F + j * dy) * F + (s % F + j * dx) < sq := by
  have m1 := Int.emod_nonneg s (show F ≠ 0 by omega)
  have m2 := Int.emod_lt_of_pos s hF
  have m3 := Int.emod_nonneg t (show F ≠ 0 by omega)
  have m4 := Int.emod_lt_of_pos t hF
  have d1 : 0 ≤ s / F := Int.ediv_nonneg hs (by omega)
  have d2 : 0 ≤ t / F := Int.ediv_nonneg ht (by omega)
  have d3 : s / F < R := Int.ediv_lt_of_lt_mul hF (by rw [Int.mul_comm]; omega)
  have d4 : t / F < R := Int.ediv_lt_of_lt_mul hF (by rw [Int.mul_comm]; omega)
  have b1 := btw j0 jk 0 (F - 1) (a := s % F) (d := dx) ⟨m1, by omega⟩ ⟨by omega, by omega⟩
  have b2 := btw j0 jk 0 (R - 1) (a := s / F) (d := dy) ⟨d1, by omega⟩ ⟨by omega, by omega⟩
  refine ⟨b1, b2, ?_, ?_⟩
  · have := Int.mul_nonneg b2.1 (show 0 ≤ F by omega)
    omega
  · have : (s / F + j * dy) * F ≤ (R - 1) * F := Int.mul_le_mul_of_nonneg_right b2.2 (by omega)
    have e : (R - 1) * F = F * R - F := by rw [Int.sub_mul, Int.mul_comm]; omega
    omega
theorem way_ne {F s t k dx dy j : Int} (hF : 0 < F) (e1 : t / F = s / F + k * dy) (e2 : t % F = s % F + k * dx) (j0 : 1 ≤ j) (jk : j < k) (ne : ¬ t = s) : ¬ (s / F + j * dy) * F + (s % F + j * dx) = t := by
  intro q
  have m1 := Int.emod_nonneg s (show F ≠ 0 by omega)
  have m2 := Int.emod_lt_of_pos s hF
  have m3 := Int.emod_nonneg t (show F ≠ 0 by omega)
  have m4 := Int.emod_lt_of_pos t hF
  have b1 := btw (show 0 ≤ j by omega) (Int.le_of_lt jk) 0 (F - 1) (a := s % F) (d := dx) ⟨m1, by omega⟩ ⟨by omega, by omega⟩
  obtain ⟨w1, w2⟩ := dm (r := s / F + j * dy) hF b1.1 (show s % F + j * dx < F by omega)
  rw [q] at w1 w2
  have y1 : (k - j) * dy = 0 := by rw [Int.sub_mul]; omega
  have y2 : (k - j) * dx = 0 := by rw [Int.sub_mul]; omega
  have z1 : dy = 0 := by rcases Int.mul_eq_zero.mp y1 with a | a <;> omega
  have z2 : dx = 0 := by rcases Int.mul_eq_zero.mp y2 with a | a <;> omega
  rw [z1] at e1
  rw [z2] at e2
  have q1 := Int.mul_ediv_add_emod s F
  have q2 := Int.mul_ediv_add_emod t F
  have e1' : t / F = s / F := by omega
  have e2' : t % F = s % F := by omega
  rw [e1', e2'] at q2
  exact ne (by omega)
/-- one that is dropped is in hand -/
def MkH (x4 : Nat) (x5 x8 x9 : Int32) (h : Hp) : Prop := x9.toInt = 3 → ∀ H, hR h x4 5 = some H → 0 < (hI h H ((2 : Int32) * x8 + x5).toNatClampNeg).toInt
/-- what make knows of the move while it works on the board -/
def MkP (x0 x2 x4 : Nat) (x3 x6 x7 x9 : Int32) (h : Hp) : Prop := (hI h x4 3).toInt = 0 ∧ SqOk x0 h ∧ 0 ≤ x7.toInt ∧ x7.toInt < (hI h x0 13).toInt ∧ (¬ x9.toInt = 3 → 0 ≤ x6.toInt ∧ x6.toInt < (hI h x0 13).toInt) ∧ ∀ M lk lo, hR h x4 0 = some M → hR h x2 6 = some lk → hR h x2 7 = some lo → hI h lk x3.toNatClampNeg = x9 ∧ (x9.toInt < 2 → 0 < (hI h lo x3.toNatClampNeg).toInt → ¬ x7.toInt = x6.toInt ∧ WayE (hI h x0 11).toInt M h x6.toInt x7.toInt (hI h lo x3.toNatClampNeg).toInt)
/-- one was taken -/
def TkC (x2 : Nat) (x3 x10 : Int32) (h : Hp) : Prop := x10 = 0 ∨ ∀ r, hR h x2 5 = some r → 0 ≤ (hI h r x3.toNatClampNeg).toInt
section
variable {ρ : Nat → Nat} {c : Cm} {h h2 o : Hp} {S : Nat → Nat → Nat → Bool} {x0 x1 x2 x4 : Nat} {x3 x5 x6 x7 x8 x9 x10 q v : Int32}
theorem rr {a i k2 r : Nat} (T : TH ρ c h) (e : ∃ q, hR h a i = some q ∧ ρ q = k2) (p : hR h a i = some r) : ρ r = k2 := by
  obtain ⟨q, a, b⟩ := e
  rw [r_eq a p]; exact b
theorem mh_fr (T : TH ρ c h) (r4 : ρ x4 = 13) (f : Fr ρ (cat c S h) h h2) (s1 : S 13 (cw c x4) 5 = false) (s2 : ∀ i, S 64 (cw c x4) i = false) (P : MkH x4 x5 x8 x9 h) : MkH x4 x5 x8 x9 h2 := fun n H e => by
  have g := f.1 x4 5 (by rw [r4]; decide) (by rw [r4]; exact s1)
  rw [g.2.2] at e
  have rH := rr T (thR T r4 (i := 5) (k2 := 64) rfl (by decide)) e
  rw [(f.1 H _ (by rw [rH]; decide) (by rw [rH]; show S 64 (cw c H) _ = false; rw [th_ih T r4 (by decide) e rfl]; exact s2 _)).1]
  exact P n H e
theorem tk_fr (T : TH ρ c h) (r2 : ρ x2 = 14) (f : Fr ρ (cat c S h) h h2) (s1 : ∀ w, S 14 w 5 = false) (s2 : ∀ w i, S 70 w i = false) (P : TkC x2 x3 x10 h) : TkC x2 x3 x10 h2 := by
  rcases P with P | P
  · exact Or.inl P
  · refine Or.inr (fun r e => ?_)
    rw [(fr_RI f r2 (by decide) s1).2.2] at e
    have rH := rr T (thR T r2 (i := 5) (k2 := 70) rfl (by decide)) e
    rw [(fr_RI f rH (by decide) (fun w => s2 w _)).1]
    exact P r e
theorem mk_fr (T : TH ρ c h) (rx : ρ x0 = 16) (r2 : ρ x2 = 14) (r4 : ρ x4 = 13) (f : Fr ρ (cat c S h) h h2) (s1 : ∀ w, S 16 w 11 = false) (s2 : ∀ w, S 16 w 12 = false) (s3 : ∀ w, S 16 w 13 = false) (t6 : ∀ w, S 14 w 6 = false) (t7 : ∀ w, S 14 w 7 = false) (u6 : ∀ w i, S 71 w i = false) (u7 : ∀ w i, S 72 w i = false) (b3 : S 13 (cw c x4) 3 = false) (b0 : S 13 (cw c x4) 0 = false) (m : ∀ i, S 62 (cw c x4) i = false) (P : MkP x0 x2 x4 x3 x6 x7 x9 h) : MkP x0 x2 x4 x3 x6 x7 x9 h2 := by
  obtain ⟨a1, a2, a3, a4, a5, a6⟩ := P
  have k11 := (fr_RI f rx (by decide) s1).1
  have k13 := (fr_RI f rx (by decide) s3).1
  refine ⟨?_, sq_fr T rx f s1 s2 s3 a2, a3, by rw [k13]; exact a4, fun q => by rw [k13]; exact a5 q, fun M lk lo p1 p2 p3 => ?_⟩
  · rw [(f.1 x4 3 (by rw [r4]; decide) (by rw [r4]; exact b3)).1]; exact a1
  rw [(f.1 x4 0 (by rw [r4]; decide) (by rw [r4]; exact b0)).2.2] at p1
  rw [(fr_RI f r2 (by decide) t6).2.2] at p2
  rw [(fr_RI f r2 (by decide) t7).2.2] at p3
  have rM := rr T (thR T r4 (i := 0) (k2 := 62) rfl (by decide)) p1
  have rk := rr T (thR T r2 (i := 6) (k2 := 71) rfl (by decide)) p2
  have ro := rr T (thR T r2 (i := 7) (k2 := 72) rfl (by decide)) p3
  rw [(fr_RI f rk (by decide) (fun w => u6 w _)).1, (fr_RI f ro (by decide) (fun w => u7 w _)).1, k11]
  have hm : ∀ i, hI h2 M i = hI h M i := fun i => (f.1 M i (by rw [rM]; decide) (by rw [rM]; show S 62 (cw c M) i = false; rw [th_ih T r4 (by decide) p1 rfl]; exact m i)).1
  refine ⟨(a6 M lk lo p1 p2 p3).1, fun w z => ⟨((a6 M lk lo p1 p2 p3).2 w z).1, ?_⟩⟩
  obtain ⟨dx, dy, b1, b2, b3⟩ := ((a6 M lk lo p1 p2 p3).2 w z).2
  exact ⟨dx, dy, b1, b2, fun j j1 j2 => by rw [hm]; exact b3 j j1 j2⟩
/-- one square of the board changes, so that the squares between stay empty -/
theorem mk_sq {M : Nat} {w : Int64} (T : TH ρ c h) (rx : ρ x0 = 16) (r2 : ρ x2 = 14) (r4 : ρ x4 = 13) (eM : hR h x4 0 = some M) (P : MkP x0 x2 x4 x3 x6 x7 x9 h) (ok : v = 0 ∨ q = x7 ∨ ¬ x9.toInt < 2) (e : o = wJ (wI h M q.toNatClampNeg v) x4 2 w) (hq : 0 ≤ q.toInt) : MkP x0 x2 x4 x3 x6 x7 x9 o := by
  have rM := rr T (thR T r4 (i := 0) (k2 := 62) rfl (by decide)) eM
  have ne : ∀ {a k : Nat}, ρ a = k → k ≠ 62 → ∀ j, hI o a j = hI h a j := fun ha hk j => by
    rw [e]
    show hI (wI h M q.toNatClampNeg v) _ j = _
    rw [r_I, if_neg (fun z => hk (by rw [← ha, z.1, rM]))]
  have hRo : ∀ a i, hR o a i = hR h a i := fun a i => by rw [e]; rfl
  obtain ⟨a1, a2, a3, a4, a5, a6⟩ := P
  refine ⟨by rw [ne r4 (by decide)]; exact a1, ?_, a3, by rw [ne rx (by decide)]; exact a4, fun z => by rw [ne rx (by decide)]; exact a5 z, fun M' lk lo p1 p2 p3 => ?_⟩
  · unfold SqOk; rw [ne rx (by decide), ne rx (by decide), ne rx (by decide)]; exact a2
  rw [hRo] at p1 p2 p3
  have := r_eq eM p1
  subst this
  have rk := rr T (thR T r2 (i := 6) (k2 := 71) rfl (by decide)) p2
  have ro := rr T (thR T r2 (i := 7) (k2 := 72) rfl (by decide)) p3
  rw [ne rk (by decide), ne ro (by decide), ne rx (by decide)]
  refine ⟨(a6 _ lk lo p1 p2 p3).1, fun z1 z2 => ?_⟩
  obtain ⟨y1, dx, dy, b1, b2, b3⟩ := (a6 _ lk lo p1 p2 p3).2 z1 z2
  refine ⟨y1, dx, dy, b1, b2, fun j j1 j2 => ?_⟩
  rw [e]
  show (hI (wI h M' q.toNatClampNeg v) M' _).toInt ≤ 0
  rw [r_I]
  by_cases hj : ((x6.toInt / (hI h x0 11).toInt + j * dy) * (hI h x0 11).toInt + (x6.toInt % (hI h x0 11).toInt + j * dx)).toNat = q.toNatClampNeg
  · rw [if_pos ⟨rfl, hj⟩]
    rcases ok with ok | ok | ok
    · rw [ok]; decide
    · exfalso
      have iF : Rg 3 8 (hI h x0 11) := thI T rx rfl
      have i9 : ¬ x9.toInt = 3 := by omega
      have hF : 0 < (hI h x0 11).toInt := by have := iF.1; omega
      have w1 := way_in hF b1 b2 (show 0 ≤ j by omega) (Int.le_of_lt j2) (a5 i9).1 a3 (a5 i9).2 a4 a2
      have w2 := way_ne hF b1 b2 j1 j2 y1
      rw [ok] at hj
      have := nc_i a3
      omega
    · exact absurd z1 ok
  · rw [if_neg (fun z => hj z.2)]
    exact b3 j j1 j2
theorem mk_leave {x0' : Nat} (T : TH ρ c h) (rx : ρ x0 = 16) (r2 : ρ x2 = 14) (r4 : ρ x4 = 13) (hq : 0 ≤ q.toInt) (P : MkP x0 x2 x4 x3 x6 x7 x9 h) (e : sX15_leave h x0' x4 q = some o) : MkP x0 x2 x4 x3 x6 x7 x9 o := by
  obtain ⟨M, eM, rM⟩ := thR T r4 (i := 0) (k2 := 62) rfl (by decide)
  obtain ⟨w, e⟩ := lv_post eM e
  exact mk_sq T rx r2 r4 eM P (Or.inl rfl) e hq
theorem mk_come {x0' : Nat} (T : TH ρ c h) (rx : ρ x0 = 16) (r2 : ρ x2 = 14) (r4 : ρ x4 = 13) (P : MkP x0 x2 x4 x3 x6 x7 x9 h) (e : sX15_come h x0' x4 x7 v = some o) : MkP x0 x2 x4 x3 x6 x7 x9 o := by
  obtain ⟨M, eM, rM⟩ := thR T r4 (i := 0) (k2 := 62) rfl (by decide)
  obtain ⟨w, e⟩ := cm_post eM e
  exact mk_sq T rx r2 r4 eM P (Or.inr (Or.inl rfl)) e P.2.2.1
theorem mk_come2 {x0' : Nat} (T : TH ρ c h) (rx : ρ x0 = 16) (r2 : ρ x2 = 14) (r4 : ρ x4 = 13) (hq : 0 ≤ q.toInt) (k2 : x9 = (2 : Int32)) (P : MkP x0 x2 x4 x3 x6 x7 x9 h) (e : sX15_come h x0' x4 q v = some o) : MkP x0 x2 x4 x3 x6 x7 x9 o := by
  obtain ⟨M, eM, rM⟩ := thR T r4 (i := 0) (k2 := 62) rfl (by decide)
  obtain ⟨w, e⟩ := cm_post eM e
  exact mk_sq T rx r2 r4 eM P (Or.inr (Or.inr (by rw [k2]; decide))) e hq
theorem mh_inc {r : Nat} {z : Int32} (T : TH ρ c h) (r4 : ρ x4 = 13) (er : hR h x4 5 = some r) (e : o = wI h r z.toNatClampNeg (hI h r z.toNatClampNeg + (1 : Int32))) (P : MkH x4 x5 x8 x9 h) : MkH x4 x5 x8 x9 o := fun n H eH => by
  rw [e] at eH
  replace eH : hR h x4 5 = some H := eH
  have := r_eq er eH
  subst this
  have rH := rr T (thR T r4 (i := 5) (k2 := 64) rfl (by decide)) er
  have ii : Rg 0 16 (hI h H z.toNatClampNeg) := thI T rH rfl
  rw [e, r_I]
  by_cases w : ((2 : Int32) * x8 + x5).toNatClampNeg = z.toNatClampNeg
  · rw [if_pos ⟨rfl, w⟩, ta (by have := ii.1; have := ii.2; show _ ≤ _ + (1 : Int) ∧ _ + (1 : Int) ≤ _; omega)]
    have := ii.1
    show 0 < _ + (1 : Int)
    omega
  · rw [if_neg (fun y => w y.2)]
    exact P n H eH
theorem mk_start {r3 r6 r9 r12 : Nat} {o1 h15 : Hp} {v2 v5 v8 v11 v14 : Int32} (T : TH ρ c h) (rx : ρ x0 = 16) (r1 : ρ x1 = 13) (r2 : ρ x2 = 14) (r4 : ρ x4 = 13) (SQ : SqOk x0 h) (MV : MvB x0 x1 x2 h) (hi : 0 ≤ x3.toInt ∧ x3.toInt < (hI h x2 0).toInt) (ec : sX12_copy h x4 x1 = some o1) (e15 : h15 = wI o1 x4 3 (0 : Int32)) (a1 : hR o1 x2 1 = some r3) (a2 : hR o1 x2 2 = some r6) (a3 : hR o1 x2 3 = some r9) (a6 : hR o1 x2 6 = some r12) (e2 : v2 = hI o1 x1 1) (e5 : v5 = hI o1 r3 x3.toNatClampNeg) (e8 : v8 = hI o1 r6 x3.toNatClampNeg) (e11 : v11 = hI o1 r9 x3.toNatClampNeg) (e14 : v14 = hI o1 r12 x3.toNatClampNeg) :
    MkP x0 x2 x4 x3 v5 v8 v14 h15 ∧ MkH x4 v2 v11 v14 h15 := by
  obtain ⟨Mb, eMb, rMb⟩ := thR T r1 (i := 0) (k2 := 62) rfl (by decide)
  obtain ⟨Mt, eMt, rMt⟩ := thR T r4 (i := 0) (k2 := 62) rfl (by decide)
  obtain ⟨Pb, ePb, rPb⟩ := thR T r1 (i := 4) (k2 := 63) rfl (by decide)
  obtain ⟨Pt, ePt, rPt⟩ := thR T r4 (i := 4) (k2 := 63) rfl (by decide)
  obtain ⟨Hb, eHb, rHb⟩ := thR T r1 (i := 5) (k2 := 64) rfl (by decide)
  obtain ⟨Ht, eHt, rHt⟩ := thR T r4 (i := 5) (k2 := 64) rfl (by decide)
  obtain ⟨C, eC, rC⟩ := thR T r4 (i := 6) (k2 := 65) rfl (by decide)
  obtain ⟨f1, fM, fH, f3, f4, f5, f6, fo, _⟩ := cpy_post r4 r1 rMb rMt rPb rPt rHb rHt rC eMb eMt ePb ePt eHb eHt eC ec
  rw [f1] at a1 a2 a3 a6
  have q1 := rr T (thR T r2 (i := 1) (k2 := 66) rfl (by decide)) a1
  have q2 := rr T (thR T r2 (i := 2) (k2 := 67) rfl (by decide)) a2
  have q3 := rr T (thR T r2 (i := 3) (k2 := 68) rfl (by decide)) a3
  have q6 := rr T (thR T r2 (i := 6) (k2 := 71) rfl (by decide)) a6
  obtain ⟨lo, a7, q7⟩ := thR T r2 (i := 7) (k2 := 72) rfl (by decide)
  rw [fo r3 _ (by rw [q1]; decide)] at e5
  rw [fo r6 _ (by rw [q2]; decide)] at e8
  rw [fo r9 _ (by rw [q3]; decide)] at e11
  rw [fo r12 _ (by rw [q6]; decide)] at e14
  rw [f6] at e2
  have E := MV Mb Hb r3 r6 r9 r12 lo eMb eHb a1 a2 a3 a6 a7 x3.toNatClampNeg (by rw [nc_i hi.1]; exact hi.2)
  rw [← e5, ← e8, ← e11, ← e14, ← e2] at E
  obtain ⟨E1, E2, E3, E4⟩ := E
  have i8 : Rg 0 63 v8 := by rw [e8]; exact thI T q2 rfl
  have i5 : Rg (-1) 63 v5 := by rw [e5]; exact thI T q1 rfl
  have i11 : Rg 0 11 v11 := by rw [e11]; exact thI T q3 rfl
  have i2 : Rg 0 1 v2 := by rw [e2]; exact thI T r1 rfl
  have k0 : ∀ {a k : Nat}, ρ a = k → k ≠ 13 → ∀ j, hI h15 a j = hI o1 a j := fun ha hk j => by rw [e15, r_I, if_neg (fun z => hk (by rw [← ha, z.1, r4]))]
  have kx : ∀ j, hI h15 x0 j = hI h x0 j := fun j => by rw [k0 rx (by decide), fo x0 _ (by rw [rx]; decide)]
  have kR : ∀ a i, hR h15 a i = hR h a i := fun a i => by rw [e15]; exact f1 a i
  refine ⟨⟨by rw [e15, r_I, if_pos ⟨rfl, rfl⟩]; rfl, ?_, i8.1, by rw [kx]; exact E1, fun z => by rw [kx]; exact ⟨(E3 z).1, (E3 z).2.1⟩, fun M' lk' lo' p1 p2 p3 => ?_⟩, fun n H' p => ?_⟩
  · unfold SqOk; rw [kx, kx, kx]; exact SQ
  · rw [kR] at p1 p2 p3
    have y1 := r_eq eMt p1
    have y2 := r_eq a6 p2
    have y3 := r_eq a7 p3
    subst y1; subst y2; subst y3
    rw [k0 q6 (by decide), k0 q7 (by decide), fo _ _ (by rw [q6]; decide), fo _ _ (by rw [q7]; decide), kx]
    refine ⟨e14.symm, fun z1 z2 => ⟨(E4 z1 z2).1, ?_⟩⟩
    obtain ⟨dx, dy, b1, b2, b3⟩ := (E4 z1 z2).2
    refine ⟨dx, dy, b1, b2, fun j j1 j2 => ?_⟩
    have iF : Rg 3 8 (hI h x0 11) := thI T rx rfl
    have i13 : Rg 9 64 (hI h x0 13) := thI T rx rfl
    have i9 : ¬ v14.toInt = 3 := by omega
    have w1 := way_in (show 0 < (hI h x0 11).toInt by have := iF.1; omega) b1 b2 (show 0 ≤ j by omega) (Int.le_of_lt j2) (E3 i9).1 i8.1 (E3 i9).2.1 E1 SQ
    rw [k0 rMt (by decide), fM _ (by have := i13.2; omega)]
    exact b3 j j1 j2
  · rw [kR] at p
    have y1 := r_eq eHt p
    subst y1
    have m1 : ((2 : Int32) * v11 + v2).toInt = 2 * v11.toInt + v2.toInt := by
      have a := tm (x := (2 : Int32)) (y := v11) (by have := i11.1; have := i11.2; show _ ≤ 2 * v11.toInt ∧ 2 * v11.toInt ≤ _; omega)
      have a : ((2 : Int32) * v11).toInt = 2 * v11.toInt := a
      rw [ta (by rw [a]; have := i11.1; have := i11.2; have := i2.1; have := i2.2; omega), a]
    have ix := nc_i (x := (2 : Int32) * v11 + v2) (by rw [m1]; have := i11.1; have := i2.1; omega)
    rw [k0 rHt (by decide), fH _ (by have := i11.2; have := i2.2; omega)]
    exact E2 n
theorem pe_0 (e : (hI h x4 3).toInt = 0) : PE x4 h := fun M P p1 p2 k k1 k2 => by omega
/-- the squares gone over, as far as they are noted -/
def PaE (x0 x4 : Nat) (x6 x7 x11 x12 : Int32) (h : Hp) : Prop := SqOk x0 h ∧ (0 ≤ x6.toInt ∧ x6.toInt < (hI h x0 13).toInt) ∧ (0 ≤ x7.toInt ∧ x7.toInt < (hI h x0 13).toInt) ∧ (hI h x4 3).toInt = x11.toInt ∧ 1 ≤ x12.toInt ∧ ∀ M P, hR h x4 0 = some M → hR h x4 4 = some P → ∃ dx dy : Int, x7.toInt / (hI h x0 11).toInt = x6.toInt / (hI h x0 11).toInt + x11.toInt * dy ∧ x7.toInt % (hI h x0 11).toInt = x6.toInt % (hI h x0 11).toInt + x11.toInt * dx ∧ (∀ j : Int, 1 ≤ j → j < x11.toInt → (hI h M ((x6.toInt / (hI h x0 11).toInt + j * dy) * (hI h x0 11).toInt + (x6.toInt % (hI h x0 11).toInt + j * dx)).toNat).toInt ≤ 0) ∧ ∀ j : Nat, 1 ≤ j → (j : Int) < x12.toInt → (hI h P j).toInt = (x6.toInt / (hI h x0 11).toInt + j * dy) * (hI h x0 11).toInt + (x6.toInt % (hI h x0 11).toInt + j * dx)
theorem pa_val {x11 x12 F : Int32} {dx dy R sq : Int} (iF : Rg 3 8 F) (i6 : Rg 0 63 x6) (i7 : Rg 0 63 x7) (i11 : 2 ≤ x11.toInt ∧ x11.toInt ≤ 63) (i12 : 1 ≤ x12.toInt ∧ x12.toInt < x11.toInt) (s1 : x6.toInt < sq) (t1 : x7.toInt < sq) (s64 : sq ≤ 64) (es : sq = F.toInt * R) (e1 : x7.toInt / F.toInt = x6.toInt / F.toInt + x11.toInt * dy) (e2 : x7.toInt % F.toInt = x6.toInt % F.toInt + x11.toInt * dx) :
    ((x6 / F + (x7 / F - x6 / F) / x11 * x12) * F + (x6 - x6 / F * F + ((x7 - x7 / F * F) - (x6 - x6 / F * F)) / x11 * x12)).toInt = (x6.toInt / F.toInt + x12.toInt * dy) * F.toInt + (x6.toInt % F.toInt + x12.toInt * dx) := by
  have hF : 0 < F.toInt := by have := iF.1; omega
  have F8 := iF.2
  have w := way_in hF e1 e2 (show 0 ≤ x12.toInt by omega) (Int.le_of_lt i12.2) i6.1 i7.1 s1 t1 es
  have wk := way_in hF e1 e2 (show 0 ≤ x11.toInt by omega) (Int.le_refl _) i6.1 i7.1 s1 t1 es
  have w0 := way_in hF e1 e2 (Int.le_refl 0) (show 0 ≤ x11.toInt by omega) i6.1 i7.1 s1 t1 es
  have z0 : (0 : Int) * dx = 0 ∧ (0 : Int) * dy = 0 := ⟨Int.zero_mul _, Int.zero_mul _⟩
  rw [z0.1, z0.2] at w0
  have q6 := tr i6 iF ⟨by decide, by decide⟩
  have q7 := tr i7 iF ⟨by decide, by decide⟩
  have d6 := td i6 iF ⟨by decide, by decide⟩
  have d7 := td i7 iF ⟨by decide, by decide⟩
  have r7 : R - 1 ≤ 63 := by
    have : F.toInt * (R - 1) ≤ 63 := by rw [Int.mul_sub]; omega
    by_cases q : 0 ≤ R - 1
    · have : 1 * (R - 1) ≤ F.toInt * (R - 1) := Int.mul_le_mul_of_nonneg_right (by omega) q
      omega
    · omega
  have n11 : x11 ≠ -1 := fun q => by rw [q] at i11; exact absurd i11.1 (by decide)
  have s6 := ts (x := x7 - x7 / F * F) (y := x6 - x6 / F * F) (by rw [q6, q7]; omega)
  have sd := ts (x := x7 / F) (y := x6 / F) (by rw [d6, d7]; omega)
  rw [q6, q7] at s6
  rw [d6, d7] at sd
  have v6 : (((x7 - x7 / F * F) - (x6 - x6 / F * F)) / x11).toInt = dx := by
    rw [Int32.toInt_div_of_ne_right _ _ n11, s6, e2]
    have : x6.toInt % F.toInt + x11.toInt * dx - x6.toInt % F.toInt = dx * x11.toInt := by rw [Int.mul_comm dx]; omega
    rw [this]; exact Int.mul_tdiv_cancel _ (by omega)
  have vd : ((x7 / F - x6 / F) / x11).toInt = dy := by
    rw [Int32.toInt_div_of_ne_right _ _ n11, sd, e1]
    have : x6.toInt / F.toInt + x11.toInt * dy - x6.toInt / F.toInt = dy * x11.toInt := by rw [Int.mul_comm dy]; omega
    rw [this]; exact Int.mul_tdiv_cancel _ (by omega)
  have c1 : dx * x12.toInt = x12.toInt * dx := Int.mul_comm _ _
  have c2 : dy * x12.toInt = x12.toInt * dy := Int.mul_comm _ _
  have m6 := tm (x := ((x7 - x7 / F * F) - (x6 - x6 / F * F)) / x11) (y := x12) (by rw [v6, c1]; omega)
  have md := tm (x := (x7 / F - x6 / F) / x11) (y := x12) (by rw [vd, c2]; omega)
  rw [v6, c1] at m6
  rw [vd, c2] at md
  have a6 := ta (x := x6 - x6 / F * F) (y := ((x7 - x7 / F * F) - (x6 - x6 / F * F)) / x11 * x12) (by rw [q6, m6]; omega)
  have ad := ta (x := x6 / F) (y := (x7 / F - x6 / F) / x11 * x12) (by rw [d6, md]; omega)
  rw [q6, m6] at a6
  rw [d6, md] at ad
  have f1 := tm (x := x6 / F + (x7 / F - x6 / F) / x11 * x12) (y := F) (by rw [ad]; omega)
  rw [ad] at f1
  rw [ta (by rw [f1, a6]; omega), f1, a6]
end
def Z3 (x4 : Nat) (h : Hp) : Prop := (hI h x4 3).toInt = 0
def TkP (x2 : Nat) (x3 : Int32) (h : Hp) : Prop := ∀ r, hR h x2 5 = some r → 0 ≤ (hI h r x3.toNatClampNeg).toInt
section
variable {ρ : Nat → Nat} {c : Cm} {h h2 o : Hp} {S : Nat → Nat → Nat → Bool} {x0 x1 x2 x4 : Nat} {x3 x5 x6 x7 x8 x9 x10 x11 x12 q v v6 v11 v15 : Int32}
theorem z3_fr (T : TH ρ c h) (r4 : ρ x4 = 13) (f : Fr ρ (cat c S h) h h2) (b3 : S 13 (cw c x4) 3 = false) (P : Z3 x4 h) : Z3 x4 h2 := by
  unfold Z3
  rw [(f.1 x4 3 (by rw [r4]; decide) (by rw [r4]; exact b3)).1]; exact P
theorem tp_fr (T : TH ρ c h) (r2 : ρ x2 = 14) (f : Fr ρ (cat c S h) h h2) (s1 : ∀ w, S 14 w 5 = false) (s2 : ∀ w i, S 70 w i = false) (P : TkP x2 x3 h) : TkP x2 x3 h2 := fun r e => by
  rw [(fr_RI f r2 (by decide) s1).2.2] at e
  have rH := rr T (thR T r2 (i := 5) (k2 := 70) rfl (by decide)) e
  rw [(fr_RI f rH (by decide) (fun w => s2 w _)).1]
  exact P r e
theorem mk_n (P : MkP x0 x2 x4 x3 x6 x7 x9 h) : x9.toInt = 3 ∨ 0 ≤ x6.toInt := by
  by_cases w : x9.toInt = 3
  · exact Or.inl w
  · exact Or.inr (P.2.2.2.2.1 w).1
theorem pas_start {r1 r4' P : Nat} {h9 h12 : Hp} (T : TH ρ c h) (rx : ρ x0 = 16) (rl : ρ x2 = 14) (rb : ρ x4 = 13) (MK : MkP x0 x2 x4 x3 x6 x7 x9 h) (e1 : hR h x2 6 = some r1) (e4 : hR h x2 7 = some r4') (eP : hR h x4 4 = some P) (c1 : ¬ (2 : Int32) ≤ hI h r1 x3.toNatClampNeg) (c2 : ¬ hI h r4' x3.toNatClampNeg ≤ 0) (e9 : h9 = wI h x4 3 (hI h r4' x3.toNatClampNeg)) (e12 : h12 = wI h9 P (0 : Int32).toNatClampNeg x7) (e15 : v15 = hI h12 r4' x3.toNatClampNeg) : PaE x0 x4 x6 x7 v15 (1 : Int32) h12 := by
  have q1 := rr T (thR T rl (i := 6) (k2 := 71) rfl (by decide)) e1
  have q4 := rr T (thR T rl (i := 7) (k2 := 72) rfl (by decide)) e4
  have qP := rr T (thR T rb (i := 4) (k2 := 63) rfl (by decide)) eP
  have ne : ∀ {a k : Nat}, ρ a = k → k ≠ 13 → k ≠ 63 → ∀ j, hI h12 a j = hI h a j := fun ha k1 k2 j => by
    rw [e12, r_I, if_neg (fun z => k2 (by rw [← ha, z.1, qP])), e9, r_I, if_neg (fun z => k1 (by rw [← ha, z.1, rb]))]
  have kR : ∀ a i, hR h12 a i = hR h a i := fun a i => by rw [e12, e9]; rfl
  have k3 : hI h12 x4 3 = hI h r4' x3.toNatClampNeg := by rw [e12, r_I, if_neg (fun z => absurd (z.1 ▸ rb) (by rw [qP]; decide)), e9, r_I, if_pos ⟨rfl, rfl⟩]
  rw [ne q4 (by decide) (by decide)] at e15
  obtain ⟨a1, a2, a3, a4, a5, a6⟩ := MK
  obtain ⟨M, eM, rM⟩ := thR T rb (i := 0) (k2 := 62) rfl (by decide)
  obtain ⟨b1, b2⟩ := a6 M r1 r4' eM e1 e4
  have c1 : x9.toInt < 2 := by rw [← b1]; exact nle_i c1
  have i9 : ¬ x9.toInt = 3 := by omega
  refine ⟨?_, by rw [ne rx (by decide) (by decide)]; exact a5 i9, by rw [ne rx (by decide) (by decide)]; exact ⟨a3, a4⟩, by rw [k3, e15], by decide, fun M' P' p1 p2 => ?_⟩
  · unfold SqOk; rw [ne rx (by decide) (by decide), ne rx (by decide) (by decide), ne rx (by decide) (by decide)]; exact a2
  rw [kR] at p1 p2
  have y1 := r_eq eM p1
  subst y1
  rw [e15, ne rx (by decide) (by decide)]
  obtain ⟨_, dx, dy, w1, w2, w3⟩ := b2 c1 (nle_i c2)
  refine ⟨dx, dy, w1, w2, fun j j1 j2 => ?_, fun j j1 j2 => absurd j2 (by show ¬ (j : Int) < 1; omega)⟩
  rw [ne rM (by decide) (by decide)]
  exact w3 j j1 j2
theorem pa_on (T : TH ρ c h) (rx : ρ x0 = 16) (rb : ρ x4 = 13) (i11 : Rg 0 63 x11) (PA : PaE x0 x4 x6 x7 x11 x12 h) (c1 : ¬ x11 ≤ x12) (e6 : v6 = (x6 - x6 / hI h x0 11 * hI h x0 11) + (((x7 - x7 / hI h x0 11 * hI h x0 11) - (x6 - x6 / hI h x0 11 * hI h x0 11)) / x11) * x12) (e11 : v11 = (x6 / hI h x0 11) + (((x7 / hI h x0 11) - (x6 / hI h x0 11)) / x11) * x12) {M P : Nat} (eM : hR h x4 0 = some M) (eP : hR h x4 4 = some P) : ∃ dx dy : Int, (x7.toInt / (hI h x0 11).toInt = x6.toInt / (hI h x0 11).toInt + x11.toInt * dy ∧ x7.toInt % (hI h x0 11).toInt = x6.toInt % (hI h x0 11).toInt + x11.toInt * dx ∧ (∀ j : Int, 1 ≤ j → j < x11.toInt → (hI h M ((x6.toInt / (hI h x0 11).toInt + j * dy) * (hI h x0 11).toInt + (x6.toInt % (hI h x0 11).toInt + j * dx)).toNat).toInt ≤ 0) ∧ ∀ j : Nat, 1 ≤ j → (j : Int) < x12.toInt → (hI h P j).toInt = (x6.toInt / (hI h x0 11).toInt + j * dy) * (hI h x0 11).toInt + (x6.toInt % (hI h x0 11).toInt + j * dx)) ∧ (v11 * hI h x0 11 + v6).toInt = (x6.toInt / (hI h x0 11).toInt + x12.toInt * dy) * (hI h x0 11).toInt + (x6.toInt % (hI h x0 11).toInt + x12.toInt * dx) ∧ 0 ≤ (v11 * hI h x0 11 + v6).toInt ∧ (v11 * hI h x0 11 + v6).toInt ≤ 63 := by
  obtain ⟨a1, a2, a3, a4, a5, a6⟩ := PA
  obtain ⟨dx, dy, w⟩ := a6 M P eM eP
  have c1 := nle_i c1
  have iF : Rg 3 8 (hI h x0 11) := thI T rx rfl
  have i13 : Rg 9 64 (hI h x0 13) := thI T rx rfl
  have q := pa_val (x6 := x6) (x7 := x7) (x11 := x11) (x12 := x12) (F := hI h x0 11) iF ⟨a2.1, by have := i13.2; omega⟩ ⟨a3.1, by have := i13.2; omega⟩ ⟨by omega, i11.2⟩ ⟨a5, c1⟩ a2.2 a3.2 i13.2 a1 w.1 w.2.1
  have y := way_in (show 0 < (hI h x0 11).toInt by have := iF.1; omega) w.1 w.2.1 (show 0 ≤ x12.toInt by omega) (Int.le_of_lt c1) a2.1 a3.1 a2.2 a3.2 a1
  refine ⟨dx, dy, w, ?_⟩
  rw [e6, e11]
  have i2 := i13.2
  exact ⟨q, by rw [q]; exact y.2.2.1, by rw [q]; omega⟩
theorem pa_rg (T : TH ρ c h) (rx : ρ x0 = 16) (rb : ρ x4 = 13) (i11 : Rg 0 63 x11) (PA : PaE x0 x4 x6 x7 x11 x12 h) (c1 : ¬ x11 ≤ x12) (e6 : v6 = (x6 - x6 / hI h x0 11 * hI h x0 11) + (((x7 - x7 / hI h x0 11 * hI h x0 11) - (x6 - x6 / hI h x0 11 * hI h x0 11)) / x11) * x12) (e11 : v11 = (x6 / hI h x0 11) + (((x7 / hI h x0 11) - (x6 / hI h x0 11)) / x11) * x12) : Rg 0 63 (v11 * hI h x0 11 + v6) := by
  obtain ⟨M, eM, rM⟩ := thR T rb (i := 0) (k2 := 62) rfl (by decide)
  obtain ⟨P, eP, rP⟩ := thR T rb (i := 4) (k2 := 63) rfl (by decide)
  obtain ⟨_, _, _, _, y⟩ := pa_on T rx rb i11 PA c1 e6 e11 eM eP
  exact y
theorem pa_step {P : Nat} (T : TH ρ c h) (rx : ρ x0 = 16) (rb : ρ x4 = 13) (i11 : Rg 0 63 x11) (PA : PaE x0 x4 x6 x7 x11 x12 h) (c1 : ¬ x11 ≤ x12) (e6 : v6 = (x6 - x6 / hI h x0 11 * hI h x0 11) + (((x7 - x7 / hI h x0 11 * hI h x0 11) - (x6 - x6 / hI h x0 11 * hI h x0 11)) / x11) * x12) (e11 : v11 = (x6 / hI h x0 11) + (((x7 / hI h x0 11) - (x6 / hI h x0 11)) / x11) * x12) (eP : hR h x4 4 = some P) (eo : o = wI h P x12.toNatClampNeg (v11 * hI h x0 11 + v6)) (e15 : v15 = x12 + (1 : Int32)) : PaE x0 x4 x6 x7 x11 v15 o := by
  obtain ⟨M, eM, rM⟩ := thR T rb (i := 0) (k2 := 62) rfl (by decide)
  have rP := rr T (thR T rb (i := 4) (k2 := 63) rfl (by decide)) eP
  obtain ⟨dx, dy, w, y1, _, _⟩ := pa_on T rx rb i11 PA c1 e6 e11 eM eP
  have ne : ∀ {a k : Nat}, ρ a = k → k ≠ 63 → ∀ j, hI o a j = hI h a j := fun ha k2 j => by rw [eo, r_I, if_neg (fun z => k2 (by rw [← ha, z.1, rP]))]
  obtain ⟨a1, a2, a3, a4, a5, a6⟩ := PA
  have c1 := nle_i c1
  obtain ⟨n1, n2⟩ := nc_1 (x := x12) (v := v15) (by omega) (by have := i11.2; omega) e15
  refine ⟨?_, by rw [ne rx (by decide)]; exact a2, by rw [ne rx (by decide)]; exact a3, by rw [ne rb (by decide)]; exact a4, by omega, fun M' P' p1 p2 => ?_⟩
  · unfold SqOk; rw [ne rx (by decide), ne rx (by decide), ne rx (by decide)]; exact a1
  rw [eo] at p1 p2
  replace p1 : hR h x4 0 = some M' := p1
  replace p2 : hR h x4 4 = some P' := p2
  have z1 := r_eq eM p1
  have z2 := r_eq eP p2
  subst z1; subst z2
  rw [ne rx (by decide)]
  refine ⟨dx, dy, w.1, w.2.1, fun j j1 j2 => by rw [ne rM (by decide)]; exact w.2.2.1 j j1 j2, fun j j1 j2 => ?_⟩
  rw [eo, r_I]
  have k12 := nc_i (x := x12) (by omega)
  by_cases hj : j = x12.toNatClampNeg
  · rw [if_pos ⟨rfl, hj⟩, y1, hj, k12]
  · rw [if_neg (fun z => hj z.2)]
    exact w.2.2.2 j j1 (by omega)
theorem pas_pe (T : TH ρ c h) (rx : ρ x0 = 16) (PA : PaE x0 x4 x6 x7 x11 x12 h) (c1 : x11 ≤ x12) : PE x4 h := by
  obtain ⟨a1, a2, a3, a4, a5, a6⟩ := PA
  intro M P eM eP k k1 k2
  have c1 := le_i c1
  obtain ⟨dx, dy, w1, w2, w3, w4⟩ := a6 M P eM eP
  have iF : Rg 3 8 (hI h x0 11) := thI T rx rfl
  have e := w4 k k1 (by omega)
  have y := way_in (show 0 < (hI h x0 11).toInt by have := iF.1; omega) w1 w2 (show 0 ≤ (k : Int) by omega) (show (k : Int) ≤ x11.toInt by omega) a2.1 a3.1 a2.2 a3.2 a1
  have := w3 k (by omega) (by omega)
  rw [← e] at this
  exact this
end
theorem mh_use {x4 : Nat} {x5 x8 x9 : Int32} {h : Hp} (P : MkH x4 x5 x8 x9 h) (H : Nat) (e : hR h x4 5 = some H) : x9.toInt = 3 → 0 < (hI h H ((2 : Int32) * x8 + x5).toNatClampNeg).toInt := fun n => P n H e
end
section
/-! places that are kept -/
def BdS (x0 : Nat) (h : Hp) : Prop := ∀ r s, hR h x0 14 = some r → hR h x0 15 = some s → ∀ i, i < 60 → ¬ hI h s i ≤ 0 → ∃ b, hR h r i = some b ∧ PE b h
/-- two places have two boards, with rows of their own -/
def BdU (x0 : Nat) (h : Hp) : Prop := ∀ r, hR h x0 14 = some r → ∀ i j a b, ¬ i = j → hR h r i = some a → hR h r j = some b → ∀ k, (k = 0 ∨ k = 4) → ∀ M M', hR h a k = some M → hR h b k = some M' → ¬ M = M'
def BdP (x0 : Nat) (h : Hp) : Prop := BdS x0 h ∧ BdU x0 h
def HasB (x0 : Nat) (x1 : Int32) (h : Hp) : Prop := ∀ r, hR h x0 14 = some r → ∃ b, hR h r x1.toNatClampNeg = some b ∧ PE b h
/-- the place is kept, and the list has moves of its board -/
def MvP (x0 : Nat) (x1 : Int32) (h : Hp) : Prop := ∀ r, hR h x0 14 = some r → ∃ b, hR h r x1.toNatClampNeg = some b ∧ PE b h ∧ ∀ l, hR h x0 30 = some l → MvB x0 b l h
section
variable {ρ : Nat → Nat} {c : Cm} {h h2 o : Hp} {S : Nat → Nat → Nat → Bool} {x0 b : Nat} {x1 : Int32}
theorem hb_of {o : Int32 × Hp} (T : TH ρ c h) (r0 : ρ x0 = 16) (P : BdP x0 h) (e : sX15_has h x0 x1 = some o) (n : ¬ o.1 = 0) : HasB x0 x1 h := by
  intro r er
  unfold sX15_has sX15_has_23 sX15_has_24 at e
  rcases br_s e with ⟨_, e⟩ | ⟨c1, e⟩
  · exact absurd (by rw [← Option.some.inj (gd_s e).2]) n
  rcases br_s e with ⟨_, e⟩ | ⟨c2, e⟩
  · exact absurd (by rw [← Option.some.inj (gd_s e).2]) n
  obtain ⟨s, es, e⟩ := cl_s e
  replace e := (gd_s e).2
  rcases br_s e with ⟨_, e⟩ | ⟨c3, e⟩
  · exact absurd (by rw [← Option.some.inj (gd_s e).2]) n
  have l1 := nlt_i c1
  have l2 := nle_i c2
  have z0 : (0 : Int32).toInt = 0 := rfl
  have z60 : (60 : Int32).toInt = 60 := rfl
  exact P.1 r s er es _ (by have := nc_i (x := x1) (by omega); omega) c3
theorem pe_o (T : TH ρ c h) (rb : ρ b = 13) (wb : cw c b = 3400) (f : Fr ρ (cat c S h) h h2) (b0 : S 13 3400 0 = false) (b3 : S 13 3400 3 = false) (b4 : S 13 3400 4 = false) (m : ∀ i, S 62 3400 i = false) (p : ∀ i, S 63 3400 i = false) (P : PE b h) : PE b h2 := pe_fr T rb f (by rw [wb]; exact b0) (by rw [wb]; exact b3) (by rw [wb]; exact b4) (by rw [wb]; exact m) (by rw [wb]; exact p) P
theorem bp_fr (T : TH ρ c h) (rx : ρ x0 = 16) (f : Fr ρ (cat c S h) h h2) (s1 : ∀ w, S 16 w 14 = false) (s2 : ∀ w, S 16 w 15 = false) (s3 : ∀ w i, S 84 w i = false) (s4 : ∀ w i, S 85 w i = false) (b0 : S 13 3400 0 = false) (b3 : S 13 3400 3 = false) (b4 : S 13 3400 4 = false) (m : ∀ i, S 62 3400 i = false) (p : ∀ i, S 63 3400 i = false) (P : BdP x0 h) : BdP x0 h2 := by
  refine ⟨fun r s e1 e2 i hi hs => ?_, fun r e1 i j a b ne ea eb k hk M M' m1 m2 => ?_⟩
  · rw [(fr_RI f rx (by decide) s1).2.2] at e1
    rw [(fr_RI f rx (by decide) s2).2.2] at e2
    have q1 := rr T (thR T rx (i := 14) (k2 := 84) rfl (by decide)) e1
    have q2 := rr T (thR T rx (i := 15) (k2 := 85) rfl (by decide)) e2
    rw [(fr_RI f q2 (by decide) (fun w => s4 w _)).1] at hs
    obtain ⟨b, eb, pb⟩ := P.1 r s e1 e2 i hi hs
    exact ⟨b, by rw [(fr_RI f q1 (by decide) (fun w => s3 w _)).2.2]; exact eb, pe_o T (thRn T q1 (k2 := 13) rfl (by decide) eb) (th_id T q1 eb rfl (by decide)) f b0 b3 b4 m p pb⟩
  · rw [(fr_RI f rx (by decide) s1).2.2] at e1
    have q1 := rr T (thR T rx (i := 14) (k2 := 84) rfl (by decide)) e1
    rw [(fr_RI f q1 (by decide) (fun w => s3 w _)).2.2] at ea eb
    have ra := thRn T q1 (k2 := 13) rfl (by decide) ea
    have wa : cw c a = 3400 := th_id T q1 ea rfl (by decide)
    have rb := thRn T q1 (k2 := 13) rfl (by decide) eb
    have wb : cw c b = 3400 := th_id T q1 eb rfl (by decide)
    have hS : S 13 3400 k = false := by rcases hk with hk | hk <;> rw [hk]; exact b0; exact b4
    rw [(f.1 a k (by rw [ra]; decide) (by rw [ra]; show S 13 (cw c a) k = false; rw [wa]; exact hS)).2.2] at m1
    rw [(f.1 b k (by rw [rb]; decide) (by rw [rb]; show S 13 (cw c b) k = false; rw [wb]; exact hS)).2.2] at m2
    exact P.2 r e1 i j a b ne ea eb k hk M M' m1 m2
theorem hb_fr (T : TH ρ c h) (rx : ρ x0 = 16) (f : Fr ρ (cat c S h) h h2) (s1 : ∀ w, S 16 w 14 = false) (s3 : ∀ w i, S 84 w i = false) (b0 : S 13 3400 0 = false) (b3 : S 13 3400 3 = false) (b4 : S 13 3400 4 = false) (m : ∀ i, S 62 3400 i = false) (p : ∀ i, S 63 3400 i = false) (P : HasB x0 x1 h) : HasB x0 x1 h2 := by
  intro r e1
  rw [(fr_RI f rx (by decide) s1).2.2] at e1
  have q1 := rr T (thR T rx (i := 14) (k2 := 84) rfl (by decide)) e1
  obtain ⟨b, eb, pb⟩ := P r e1
  exact ⟨b, by rw [(fr_RI f q1 (by decide) (fun w => s3 w _)).2.2]; exact eb, pe_o T (thRn T q1 (k2 := 13) rfl (by decide) eb) (th_id T q1 eb rfl (by decide)) f b0 b3 b4 m p pb⟩
theorem mp_fr (T : TH ρ c h) (rx : ρ x0 = 16) (f : Fr ρ (cat c S h) h h2) (s1 : ∀ w, S 16 w 14 = false) (s2 : ∀ w, S 16 w 30 = false) (s3 : ∀ w i, S 84 w i = false) (b0 : S 13 3400 0 = false) (b3 : S 13 3400 3 = false) (b4 : S 13 3400 4 = false) (m : ∀ i, S 62 3400 i = false) (p : ∀ i, S 63 3400 i = false)
    (v1 : ∀ w, S 16 w 11 = false) (v2 : ∀ w, S 16 w 13 = false) (b1 : S 13 3400 1 = false) (b5 : S 13 3400 5 = false) (hd : ∀ i, S 64 3400 i = false)
    (t0 : S 14 2530 0 = false) (t1 : S 14 2530 1 = false) (t2 : S 14 2530 2 = false) (t3 : S 14 2530 3 = false) (t6 : S 14 2530 6 = false) (t7 : S 14 2530 7 = false)
    (u1 : ∀ i, S 66 2530 i = false) (u2 : ∀ i, S 67 2530 i = false) (u3 : ∀ i, S 68 2530 i = false) (u6 : ∀ i, S 71 2530 i = false) (u7 : ∀ i, S 72 2530 i = false) (P : MvP x0 x1 h) : MvP x0 x1 h2 := by
  intro r e1
  rw [(fr_RI f rx (by decide) s1).2.2] at e1
  have q1 := rr T (thR T rx (i := 14) (k2 := 84) rfl (by decide)) e1
  obtain ⟨b, eb, pb, pm⟩ := P r e1
  have rb := thRn T q1 (k2 := 13) rfl (by decide) eb
  have wb : cw c b = 3400 := th_id T q1 eb rfl (by decide)
  refine ⟨b, by rw [(fr_RI f q1 (by decide) (fun w => s3 w _)).2.2]; exact eb, pe_o T rb wb f b0 b3 b4 m p pb, fun l el => ?_⟩
  rw [(fr_RI f rx (by decide) s2).2.2] at el
  have rl := rr T (thR T rx (i := 30) (k2 := 14) rfl (by decide)) el
  have wl : cw c l = 2530 := th_id T rx el rfl (by decide)
  exact mv_fr T rx rb rl f v1 v2 (by rw [wb]; exact b0) (by rw [wb]; exact b1) (by rw [wb]; exact b5) (by rw [wb]; exact m) (by rw [wb]; exact hd) (by rw [wl]; exact t0) (by rw [wl]; exact t1) (by rw [wl]; exact t2) (by rw [wl]; exact t3) (by rw [wl]; exact t6) (by rw [wl]; exact t7) (by rw [wl]; exact u1) (by rw [wl]; exact u2) (by rw [wl]; exact u3) (by rw [wl]; exact u6) (by rw [wl]; exact u7) (pm l el)
theorem mp_hb (P : MvP x0 x1 h) : HasB x0 x1 h := fun r e => by
  obtain ⟨b, e1, p, _⟩ := P r e
  exact ⟨b, e1, p⟩
theorem mp_of {r l : Nat} (er : hR h x0 14 = some r) (eb : hR h r x1.toNatClampNeg = some b) (el : hR h x0 30 = some l) (pe : PE b h) (mv : MvB x0 b l h) : MvP x0 x1 h := fun r' e => by
  have := r_eq er e
  subst this
  exact ⟨b, eb, pe, fun l' e' => by have := r_eq el e'; subst this; exact mv⟩
theorem mp_mv {r l : Nat} (P : MvP x0 x1 h) (er : hR h x0 14 = some r) (eb : hR h r x1.toNatClampNeg = some b) (el : hR h x0 30 = some l) : MvB x0 b l h := by
  obtain ⟨b', e1, p, m⟩ := P r er
  have := r_eq e1 eb
  subst this
  exact m l el
end
/-- a board that is copied -/
theorem pe_copy {ρ : Nat → Nat} {c : Cm} {h o : Hp} {x0 x1 : Nat} (T : TH ρ c h) (r0 : ρ x0 = 13) (r1 : ρ x1 = 13) (P : PE x1 h) (e : sX12_copy h x0 x1 = some o) : PE x0 o := by
  obtain ⟨Mb, eMb, rMb⟩ := thR T r1 (i := 0) (k2 := 62) rfl (by decide)
  obtain ⟨Mt, eMt, rMt⟩ := thR T r0 (i := 0) (k2 := 62) rfl (by decide)
  obtain ⟨Pb, ePb, rPb⟩ := thR T r1 (i := 4) (k2 := 63) rfl (by decide)
  obtain ⟨Pt, ePt, rPt⟩ := thR T r0 (i := 4) (k2 := 63) rfl (by decide)
  obtain ⟨Hb, eHb, rHb⟩ := thR T r1 (i := 5) (k2 := 64) rfl (by decide)
  obtain ⟨Ht, eHt, rHt⟩ := thR T r0 (i := 5) (k2 := 64) rfl (by decide)
  obtain ⟨C, eC, rC⟩ := thR T r0 (i := 6) (k2 := 65) rfl (by decide)
  obtain ⟨f1, fM, fH, f3, f4, f5, f6, fo, _⟩ := cpy_post r0 r1 rMb rMt rPb rPt rHb rHt rC eMb eMt ePb ePt eHb eHt eC e
  intro M P' p1 p2 k k1 k2
  rw [f1] at p1 p2
  have y1 := r_eq eMt p1
  have y2 := r_eq ePt p2
  subst y1; subst y2
  rw [f4] at k2
  have i3 : Rg 0 64 (hI h x1 3) := thI T r1 rfl
  have c3 := nc_i i3.1
  rw [f5 k (by omega)]
  have ip : Rg 0 63 (hI h Pb k) := thI T rPb rfl
  rw [fM _ (by have := rg_clamp (n := 63) ip (by decide); omega)]
  exact P Mb Pb eMb ePb k k1 k2
/-- the squares gone over are empty, as far as looked -/
def PpE (b : Nat) (n : Int32) (h : Hp) : Prop := 1 ≤ n.toInt ∧ ∀ M P, hR h b 0 = some M → hR h b 4 = some P → ∀ k : Nat, 1 ≤ k → (k : Int) < n.toInt → (hI h M (hI h P k).toNatClampNeg).toInt ≤ 0
section
variable {ρ : Nat → Nat} {c : Cm} {h h2 : Hp} {S : Nat → Nat → Nat → Bool} {b M P : Nat} {n v : Int32}
theorem pp_fr (T : TH ρ c h) (rb : ρ b = 13) (f : Fr ρ (cat c S h) h h2) (s1 : S 13 (cw c b) 0 = false) (s3 : S 13 (cw c b) 4 = false) (s4 : ∀ i, S 62 (cw c b) i = false) (s5 : ∀ i, S 63 (cw c b) i = false) (Q : PpE b n h) : PpE b n h2 := by
  have g : ∀ {a k j : Nat}, ρ a = k → k ≠ 0 → S k (cw c a) j = false → hI h2 a j = hI h a j ∧ hR h2 a j = hR h a j := fun {a k j} ha hk hs => by
    have := f.1 a j (by rw [ha]; exact hk) (by rw [ha]; exact hs)
    exact ⟨this.1, this.2.2⟩
  refine ⟨Q.1, fun M P' p1 p2 k k1 k2 => ?_⟩
  rw [(g rb (by decide) s1).2] at p1
  rw [(g rb (by decide) s3).2] at p2
  have rM := rr T (thR T rb (i := 0) (k2 := 62) rfl (by decide)) p1
  have rP := rr T (thR T rb (i := 4) (k2 := 63) rfl (by decide)) p2
  rw [(g rM (by decide) (by rw [th_ih T rb (by decide) p1 rfl]; exact s4 _)).1, (g rP (by decide) (by rw [th_ih T rb (by decide) p2 rfl]; exact s5 _)).1]
  exact Q.2 M P' p1 p2 k k1 k2
theorem pp_1 : PpE b (1 : Int32) h := ⟨by decide, fun _ _ _ _ k k1 k2 => absurd k2 (by show ¬ (k : Int) < 1; omega)⟩
theorem pp_s (Q : PpE b n h) (i : Rg 0 64 n) (eM : hR h b 0 = some M) (eP : hR h b 4 = some P) (cc : hI h M (hI h P n.toNatClampNeg).toNatClampNeg ≤ 0) (e : v = n + (1 : Int32)) : PpE b v h := by
  obtain ⟨w1, w2⟩ := nc_1 (x := n) i.1 (by have := i.2; omega) e
  refine ⟨by have := Q.1; omega, fun M' P' p1 p2 k k1 k2 => ?_⟩
  have y1 := r_eq eM p1
  have y2 := r_eq eP p2
  subst y1; subst y2
  by_cases q : k = n.toNatClampNeg
  · rw [q]; exact le_i cc
  · exact Q.2 _ _ p1 p2 k k1 (by have := nc_i i.1; omega)
theorem pp_e (Q : PpE b n h) (cc : hI h b 3 ≤ n) : PE b h := fun M P p1 p2 k k1 k2 => Q.2 M P p1 p2 k k1 (by have := le_i cc; omega)
theorem pe_le (cc : hI h b 3 ≤ 0) : PE b h := fun M P p1 p2 k k1 k2 => by
  have := le_i cc
  have z : (0 : Int32).toInt = 0 := rfl
  omega
/-- the list has moves of a board that is held by a field -/
def MvF (i j : Nat) (x0 : Nat) (h : Hp) : Prop := ∀ b l, hR h x0 i = some b → hR h x0 j = some l → MvB x0 b l h
theorem mf_fr {i j wb wl x0 : Nat} (ki : rfK 16 i = 13) (kj : rfK 16 j = 14) (hi : kid 16 i = wb) (hj : kid 16 j = wl) (bi : wb ≠ 0) (bj : wl ≠ 0) (T : TH ρ c h) (rx : ρ x0 = 16) (f : Fr ρ (cat c S h) h h2) (a1 : ∀ w, S 16 w i = false) (a2 : ∀ w, S 16 w j = false)
    (v1 : ∀ w, S 16 w 11 = false) (v2 : ∀ w, S 16 w 13 = false) (b0 : S 13 wb 0 = false) (b1 : S 13 wb 1 = false) (b5 : S 13 wb 5 = false) (m : ∀ i, S 62 wb i = false) (hd : ∀ i, S 64 wb i = false)
    (t0 : S 14 wl 0 = false) (t1 : S 14 wl 1 = false) (t2 : S 14 wl 2 = false) (t3 : S 14 wl 3 = false) (t6 : S 14 wl 6 = false) (t7 : S 14 wl 7 = false)
    (u1 : ∀ i, S 66 wl i = false) (u2 : ∀ i, S 67 wl i = false) (u3 : ∀ i, S 68 wl i = false) (u6 : ∀ i, S 71 wl i = false) (u7 : ∀ i, S 72 wl i = false) (P : MvF i j x0 h) : MvF i j x0 h2 := fun b l e1 e2 => by
  rw [(fr_RI f rx (by decide) a1).2.2] at e1
  rw [(fr_RI f rx (by decide) a2).2.2] at e2
  have rb := rr T (thR T rx ki (by decide)) e1
  have rl := rr T (thR T rx kj (by decide)) e2
  have wb' : cw c b = wb := th_id T rx e1 hi bi
  have wl' : cw c l = wl := th_id T rx e2 hj bj
  exact mv_fr T rx rb rl f v1 v2 (by rw [wb']; exact b0) (by rw [wb']; exact b1) (by rw [wb']; exact b5) (by rw [wb']; exact m) (by rw [wb']; exact hd) (by rw [wl']; exact t0) (by rw [wl']; exact t1) (by rw [wl']; exact t2) (by rw [wl']; exact t3) (by rw [wl']; exact t6) (by rw [wl']; exact t7) (by rw [wl']; exact u1) (by rw [wl']; exact u2) (by rw [wl']; exact u3) (by rw [wl']; exact u6) (by rw [wl']; exact u7) (P b l e1 e2)
theorem mf_of {i j x0 b l : Nat} (e1 : hR h x0 i = some b) (e2 : hR h x0 j = some l) (mv : MvB x0 b l h) : MvF i j x0 h := fun b' l' p1 p2 => by
  have y1 := r_eq e1 p1
  have y2 := r_eq e2 p2
  subst y1; subst y2
  exact mv
end
/-- the solver of endings has its room -/
def LenP (x0 : Nat) (h : Hp) : Prop := ∀ i a, (i = 11 ∨ i = 12 ∨ i = 13) → hR h x0 i = some a → hN h a = 600000
theorem len_fr {ρ : Nat → Nat} {c : Cm} {h h2 : Hp} {S : Nat → Nat → Nat → Bool} {x0 : Nat} (T : TH ρ c h) (r0 : ρ x0 = 1) (f : Fr ρ (cat c S h) h h2) (s1 : ∀ w, S 1 w 11 = false) (s2 : ∀ w, S 1 w 12 = false) (s3 : ∀ w, S 1 w 13 = false) (P : LenP x0 h) : LenP x0 h2 := fun i a hi e => by
  have e' : hR h x0 i = some a := by
    rcases hi with q | q | q <;> subst q
    · rw [(fr_RI f r0 (by decide) s1).2.2] at e; exact e
    · rw [(fr_RI f r0 (by decide) s2).2.2] at e; exact e
    · rw [(fr_RI f r0 (by decide) s3).2.2] at e; exact e
  have ra : ρ a ≠ 0 := by
    rcases hi with q | q | q <;> subst q
    · rw [rr T (thR T r0 (i := 11) (k2 := 24) rfl (by decide)) e']; decide
    · rw [rr T (thR T r0 (i := 12) (k2 := 25) rfl (by decide)) e']; decide
    · rw [rr T (thR T r0 (i := 13) (k2 := 26) rfl (by decide)) e']; decide
  rw [f.2 a ra]
  exact P i a hi e'
theorem len_u11 {x0 : Nat} {h : Hp} (P : LenP x0 h) (r : Nat) (e : hR h x0 11 = some r) : (nI (hN h r)).toInt = 600000 := by rw [P 11 r (by decide) e]; rfl
theorem len_u12 {x0 : Nat} {h : Hp} (P : LenP x0 h) (r : Nat) (e : hR h x0 12 = some r) : (nI (hN h r)).toInt = 600000 := by rw [P 12 r (by decide) e]; rfl
theorem len_u13 {x0 : Nat} {h : Hp} (P : LenP x0 h) (r : Nat) (e : hR h x0 13 = some r) : (nI (hN h r)).toInt = 600000 := by rw [P 13 r (by decide) e]; rfl
/-- the list that a field holds has moves of the board -/
def MvL (j x0 b : Nat) (h : Hp) : Prop := ∀ l, hR h x0 j = some l → MvB x0 b l h
/-- a number of a move of the list that a field holds -/
def InL (j x0 : Nat) (x : Int32) (h : Hp) : Prop := ∀ l, hR h x0 j = some l → x.toInt < (hI h l 0).toInt
section
variable {ρ : Nat → Nat} {c : Cm} {h h2 : Hp} {S : Nat → Nat → Nat → Bool} {x0 b j wl : Nat} {x1 : Int32}
theorem ml_fr (kj : rfK 16 j = 14) (hj : kid 16 j = wl) (bj : wl ≠ 0) (T : TH ρ c h) (rx : ρ x0 = 16) (rb : ρ b = 13) (f : Fr ρ (cat c S h) h h2) (a2 : ∀ w, S 16 w j = false)
    (v1 : ∀ w, S 16 w 11 = false) (v2 : ∀ w, S 16 w 13 = false) (b0 : S 13 (cw c b) 0 = false) (b1 : S 13 (cw c b) 1 = false) (b5 : S 13 (cw c b) 5 = false) (m : ∀ i, S 62 (cw c b) i = false) (hd : ∀ i, S 64 (cw c b) i = false)
    (t0 : S 14 wl 0 = false) (t1 : S 14 wl 1 = false) (t2 : S 14 wl 2 = false) (t3 : S 14 wl 3 = false) (t6 : S 14 wl 6 = false) (t7 : S 14 wl 7 = false)
    (u1 : ∀ i, S 66 wl i = false) (u2 : ∀ i, S 67 wl i = false) (u3 : ∀ i, S 68 wl i = false) (u6 : ∀ i, S 71 wl i = false) (u7 : ∀ i, S 72 wl i = false) (P : MvL j x0 b h) : MvL j x0 b h2 := fun l e2 => by
  rw [(fr_RI f rx (by decide) a2).2.2] at e2
  have rl := rr T (thR T rx kj (by decide)) e2
  have wl' : cw c l = wl := th_id T rx e2 hj bj
  exact mv_fr T rx rb rl f v1 v2 b0 b1 b5 m hd (by rw [wl']; exact t0) (by rw [wl']; exact t1) (by rw [wl']; exact t2) (by rw [wl']; exact t3) (by rw [wl']; exact t6) (by rw [wl']; exact t7) (by rw [wl']; exact u1) (by rw [wl']; exact u2) (by rw [wl']; exact u3) (by rw [wl']; exact u6) (by rw [wl']; exact u7) (P l e2)
theorem il_fr (kj : rfK 16 j = 14) (hj : kid 16 j = wl) (bj : wl ≠ 0) (T : TH ρ c h) (rx : ρ x0 = 16) (f : Fr ρ (cat c S h) h h2) (a2 : ∀ w, S 16 w j = false) (t0 : S 14 wl 0 = false) (P : InL j x0 x1 h) : InL j x0 x1 h2 := fun l e2 => by
  rw [(fr_RI f rx (by decide) a2).2.2] at e2
  have rl := rr T (thR T rx kj (by decide)) e2
  have wl' : cw c l = wl := th_id T rx e2 hj bj
  rw [(f.1 l 0 (by rw [rl]; decide) (by rw [rl]; show S 14 (cw c l) 0 = false; rw [wl']; exact t0)).1]
  exact P l e2
theorem mp_ml {r : Nat} (P : MvP x0 x1 h) (er : hR h x0 14 = some r) (eb : hR h r x1.toNatClampNeg = some b) : MvL 30 x0 b h := fun l el => mp_mv P er eb el
theorem il_of {l : Nat} {x : Int32} (el : hR h x0 j = some l) (q : x.toInt < (hI h l 0).toInt) : InL j x0 x h := fun l' e => by
  have := r_eq el e
  subst this
  exact q
end
section
variable {ρ : Nat → Nat} {c : Cm} {h h2 : Hp} {A B : List (Nat × Nat)} {a k w a0 sp dp n : Nat}
theorem m999 {A : List (Nat × Nat)} {k : Nat} (m : mS A k 999 = true) (q : A.all (fun p => p.2 == 999) = true) (i : Nat) : mS A k i = true := by
  unfold mS at m ⊢
  rw [List.any_eq_true] at m ⊢
  obtain ⟨p, hp, e⟩ := m
  rw [List.all_eq_true] at q
  refine ⟨p, hp, ?_⟩
  rw [Bool.and_eq_true] at e ⊢
  exact ⟨e.1, by rw [q p hp]; rfl⟩
theorem fr1C (e : ρ a = k) (m : mS A k 999 = true) (en : h2 = cpI h a0 sp a dp n) (q : A.all (fun p => p.2 == 999) = true := by rfl) : Fr ρ (cat c (fS A []) h) h h2 := by
  rw [en]
  refine ⟨fun b j hb hs => ⟨?_, rfl, rfl⟩, fun _ _ => rfl⟩
  rw [cp_at, if_neg]
  rintro ⟨q1, _⟩
  have : fS A [] (ρ b) (cw c b) j = false := hs
  rw [q1, e, fs_t (m999 m q j)] at this
  exact absurd this (by decide)
theorem fr1Co (e : ρ a = k) (ew : cw c a = w) (m : mS B k 999 = true) (en : h2 = cpI h a0 sp a dp n) (q : B.all (fun p => p.2 == 999) = true := by rfl) : Fr ρ (cat c (fS [] [(w, B)]) h) h h2 := by
  rw [en]
  refine ⟨fun b j hb hs => ⟨?_, rfl, rfl⟩, fun _ _ => rfl⟩
  rw [cp_at, if_neg]
  rintro ⟨q1, _⟩
  have : fS [] [(w, B)] (ρ b) (cw c b) j = false := hs
  rw [q1, e, ew, fs_u (m999 m q j)] at this
  exact absurd this (by decide)
end
/-- the fresh rules tell a board -/
def FrF (x0 : Nat) (h : Hp) : Prop := ∀ r, hR h x0 5 = some r → 3 ≤ (hI h r 0).toInt
def FrB (x0 : Nat) (h : Hp) : Prop := ∀ r, hR h x0 5 = some r → 3 ≤ (hI h r 0).toInt ∧ 3 ≤ (hI h r 1).toInt
section
variable {ρ : Nat → Nat} {c : Cm} {h h2 : Hp} {S : Nat → Nat → Nat → Bool} {x0 r : Nat} {v : Int32}
theorem ff_fr (T : TH ρ c h) (rx : ρ x0 = 16) (f : Fr ρ (cat c S h) h h2) (s1 : ∀ w, S 16 w 5 = false) (s2 : ∀ w, S 15 w 0 = false) (P : FrF x0 h) : FrF x0 h2 := fun r e => by
  rw [(fr_RI f rx (by decide) s1).2.2] at e
  have q := rr T (thR T rx (i := 5) (k2 := 15) rfl (by decide)) e
  rw [(fr_RI f q (by decide) s2).1]
  exact P r e
theorem fb_fr (T : TH ρ c h) (rx : ρ x0 = 16) (f : Fr ρ (cat c S h) h h2) (s1 : ∀ w, S 16 w 5 = false) (s2 : ∀ w, S 15 w 0 = false) (s3 : ∀ w, S 15 w 1 = false) (P : FrB x0 h) : FrB x0 h2 := fun r e => by
  rw [(fr_RI f rx (by decide) s1).2.2] at e
  have q := rr T (thR T rx (i := 5) (k2 := 15) rfl (by decide)) e
  rw [(fr_RI f q (by decide) s2).1, (fr_RI f q (by decide) s3).1]
  exact P r e
theorem ff_w (er : hR h x0 5 = some r) (e : h2 = wI h r 0 v) (hv : 3 ≤ v.toInt) : FrF x0 h2 := fun r' e' => by
  rw [e] at e' ⊢
  replace e' : hR h x0 5 = some r' := e'
  have := r_eq er e'
  subst this
  rw [r_I, if_pos ⟨rfl, rfl⟩]; exact hv
theorem fb_w (P : FrF x0 h) (er : hR h x0 5 = some r) (e : h2 = wI h r 1 v) (hv : 3 ≤ v.toInt) : FrB x0 h2 := fun r' e' => by
  rw [e] at e' ⊢
  replace e' : hR h x0 5 = some r' := e'
  have := r_eq er e'
  subst this
  refine ⟨?_, ?_⟩
  · rw [r_I, if_neg (by simp)]; exact P r' e'
  · rw [r_I, if_pos ⟨rfl, rfl⟩]; exact hv
end
/-- men stand on the squares of the set -/
def PosM (x1 : Nat) (x : Int64) (h : Hp) : Prop := ∀ on s, hR h x1 0 = some on → s < 64 → bitJ x s = true → 0 ≤ (hI h on s).toInt
section
variable {ρ : Nat → Nat} {c : Cm} {h h2 : Hp} {S : Nat → Nat → Nat → Bool} {x1 on of d : Nat} {x y : Int64}
theorem pm_fr (T : TH ρ c h) (r1 : ρ x1 = 4) (f : Fr ρ (cat c S h) h h2) (s1 : S 4 (cw c x1) 0 = false) (s2 : ∀ i, S 34 (cw c x1) i = false) (P : PosM x1 x h) : PosM x1 x h2 := fun on s e hs hb => by
  rw [(f.1 x1 0 (by rw [r1]; decide) (by rw [r1]; exact s1)).2.2] at e
  have q := th_on T r1 e
  rw [(f.1 on s (by rw [q]; decide) (by rw [q]; show S 34 (cw c on) s = false; rw [th_ih T r1 (by decide) e rfl]; exact s2 s)).1]
  exact P on s e hs hb
theorem pm_start (T : TH ρ c h) (r1 : ρ x1 = 4) (h3 : hR h x1 1 = some of) (hd : d < 2) : PosM x1 (hJ h of d) h := fun on s e hs hb => (th_ps T r1 e h3 hs hd hb).1
theorem pm_and (P : PosM x1 x h) : PosM x1 (x &&& y) h := fun on s e hs hb => P on s e hs (by
  have q : bitJ (x &&& y) s = (bitJ x s && bitJ y s) := by
    unfold bitJ
    rw [Int64.toBitVec_and, BitVec.getLsbD_and]
  rw [q, Bool.and_eq_true] at hb
  exact hb.1)
theorem pm_low {o : Int32 × Hp} {g : Hp} (P : PosM x1 x h) (e : sX11_lowest g x = some o) (nz : ¬ lg_cmp x (0 : Int64) = 0) (io : Rg 0 63 o.1) (er : hR h x1 0 = some on) (hi : Rg (-2) 23 (hI h on o.1.toNatClampNeg)) : Rg 0 23 (hI h on o.1.toNatClampNeg) := by
  unfold sX11_lowest at e
  have e := Option.some.inj (gd_s e).2
  refine ⟨P on _ er (by have := rg_clamp (n := 63) io (by decide); omega) ?_, hi.2⟩
  rw [← e]
  exact sq_bit (cmp0 nz)
end
/-- a man stands there, where one is seen -/
def MnC (x1 : Nat) (x7 x8 : Int32) (h : Hp) : Prop := x8 = 0 ∨ ∀ r, hR h x1 0 = some r → 1 ≤ (hI h r x7.toNatClampNeg).toInt
theorem mc_fr {ρ : Nat → Nat} {c : Cm} {h h2 : Hp} {S : Nat → Nat → Nat → Bool} {x1 : Nat} {x7 x8 : Int32} (T : TH ρ c h) (r1 : ρ x1 = 13) (f : Fr ρ (cat c S h) h h2) (s1 : S 13 (cw c x1) 0 = false) (s2 : ∀ i, S 62 (cw c x1) i = false) (P : MnC x1 x7 x8 h) : MnC x1 x7 x8 h2 := by
  rcases P with P | P
  · exact Or.inl P
  · refine Or.inr (fun r e => ?_)
    rw [(f.1 x1 0 (by rw [r1]; decide) (by rw [r1]; exact s1)).2.2] at e
    have q := rr T (thR T r1 (i := 0) (k2 := 62) rfl (by decide)) e
    rw [(f.1 r _ (by rw [q]; decide) (by rw [q]; show S 62 (cw c r) _ = false; rw [th_ih T r1 (by decide) e rfl]; exact s2 _)).1]
    exact P r e
end
