/-! places that are kept -/
def BdS (x0 : Nat) (h : Hp) : Prop := ∀ r s, hR h x0 14 = some r → hR h x0 15 = some s → ∀ i, i < 60 → ¬ hI h s i ≤ 0 → ∃ b, hR h r i = some b ∧ PE b h
/-- two places have two boards, with rows of their own -/
def BdU (x0 : Nat) (h : Hp) : Prop := ∀ r, hR h x0 14 = some r → ∀ i j a b, ¬ i = j → hR h r i = some a → hR h r j = some b → ∀ k, (k = 0 ∨ k = 4) → ∀ M M', hR h a k = some M → hR h b k = some M' → ¬ M = M'
def BdP (x0 : Nat) (h : Hp) : Prop := BdS x0 h ∧ BdU x0 h
def HasB (x0 : Nat) (x1 : Int32) (h : Hp) : Prop := ∀ r, hR h x0 14 = some r → ∃ b, hR h r x1.toNatClampNeg = some b ∧ PE b h
/-- the place is kept, and the list has moves of its board -/
def MvP (x0 : Nat) (x1 : Int32) (h : Hp) : Prop := ∀ r, hR h x0 14 = some r → ∃ b, hR h r x1.toNatClampNeg = some b ∧ PE b h ∧ ∀ l, hR h x0 30 = some l → MvB x0 b l h
section
variable {ρ : Nat → Nat} {c : Cm} {h h2 o : Hp} {S : Nat → Nat → Nat → Bool} {x0 b : Nat} {x1 : Int32}
theorem hb_of {o : Int32 × Hp} (T : TH ρ c h) (r0 : ρ x0 = 16) (P : BdP x0 h) (e : sX15_has h x0 x1 = some o) (n : ¬ o.1 = 0) : HasB x0 x1 h := by
  intro r er
  unfold sX15_has sX15_has_23 sX15_has_24 at e
  rcases br_s e with ⟨_, e⟩ | ⟨c1, e⟩
  · exact absurd (by rw [← Option.some.inj (gd_s e).2]) n
  rcases br_s e with ⟨_, e⟩ | ⟨c2, e⟩
  · exact absurd (by rw [← Option.some.inj (gd_s e).2]) n
  obtain ⟨s, es, e⟩ := cl_s e
  replace e := (gd_s e).2
  rcases br_s e with ⟨_, e⟩ | ⟨c3, e⟩
  · exact absurd (by rw [← Option.some.inj (gd_s e).2]) n
  have l1 := nlt_i c1
  have l2 := nle_i c2
  have z0 : (0 : Int32).toInt = 0 := rfl
  have z60 : (60 : Int32).toInt = 60 := rfl
  exact P.1 r s er es _ (by have := nc_i (x := x1) (by omega); omega) c3
theorem pe_o (T : TH ρ c h) (rb : ρ b = 13) (wb : cw c b = 3400) (f : Fr ρ (cat c S h) h h2) (b0 : S 13 3400 0 = false) (b3 : S 13 3400 3 = false) (b4 : S 13 3400 4 = false) (m : ∀ i, S 62 3400 i = false) (p : ∀ i, S 63 3400 i = false) (P : PE b h) : PE b h2 := pe_fr T rb f (by rw [wb]; exact b0) (by rw [wb]; exact b3) (by rw [wb]; exact b4) (by rw [wb]; exact m) (by rw [wb]; exact p) P
theorem bp_fr (T : TH ρ c h) (rx : ρ x0 = 16) (f : Fr ρ (cat c S h) h h2) (s1 : ∀ w, S 16 w 14 = false) (s2 : ∀ w, S 16 w 15 = false) (s3 : ∀ w i, S 84 w i = false) (s4 : ∀ w i, S 85 w i = false) (b0 : S 13 3400 0 = false) (b3 : S 13 3400 3 = false) (b4 : S 13 3400 4 = false) (m : ∀ i, S 62 3400 i = false) (p : ∀ i, S 63 3400 i = false) (P : BdP x0 h) : BdP x0 h2 := by
  refine ⟨fun r s e1 e2 i hi hs => ?_, fun r e1 i j a b ne ea eb k hk M M' m1 m2 => ?_⟩
  · rw [(fr_RI f rx (by decide) s1).2.2] at e1
    rw [(fr_RI f rx (by decide) s2).2.2] at e2
    have q1 := rr T (thR T rx (i := 14) (k2 := 84) rfl (by decide)) e1
    have q2 := rr T (thR T rx (i := 15) (k2 := 85) rfl (by decide)) e2
    rw [(fr_RI f q2 (by decide) (fun w => s4 w _)).1] at hs
    obtain ⟨b, eb, pb⟩ := P.1 r s e1 e2 i hi hs
    exact ⟨b, by rw [(fr_RI f q1 (by decide) (fun w => s3 w _)).2.2]; exact eb, pe_o T (thRn T q1 (k2 := 13) rfl (by decide) eb) (th_id T q1 eb rfl (by decide)) f b0 b3 b4 m p pb⟩
  · rw [(fr_RI f rx (by decide) s1).2.2] at e1
    have q1 := rr T (thR T rx (i := 14) (k2 := 84) rfl (by decide)) e1
    rw [(fr_RI f q1 (by decide) (fun w => s3 w _)).2.2] at ea eb
    have ra := thRn T q1 (k2 := 13) rfl (by decide) ea
    have wa : cw c a = 3400 := th_id T q1 ea rfl (by decide)
    have rb := thRn T q1 (k2 := 13) rfl (by decide) eb
    have wb : cw c b = 3400 := th_id T q1 eb rfl (by decide)
    have hS : S 13 3400 k = false := by rcases hk with hk | hk <;> rw [hk]; exact b0; exact b4
    rw [(f.1 a k (by rw [ra]; decide) (by rw [ra]; show S 13 (cw c a) k = false; rw [wa]; exact hS)).2.2] at m1
    rw [(f.1 b k (by rw [rb]; decide) (by rw [rb]; show S 13 (cw c b) k = false; rw [wb]; exact hS)).2.2] at m2
    exact P.2 r e1 i j a b ne ea eb k hk M M' m1 m2
theorem hb_fr (T : TH ρ c h) (rx : ρ x0 = 16) (f : Fr ρ (cat c S h) h h2) (s1 : ∀ w, S 16 w 14 = false) (s3 : ∀ w i, S 84 w i = false) (b0 : S 13 3400 0 = false) (b3 : S 13 3400 3 = false) (b4 : S 13 3400 4 = false) (m : ∀ i, S 62 3400 i = false) (p : ∀ i, S 63 3400 i = false) (P : HasB x0 x1 h) : HasB x0 x1 h2 := by
  intro r e1
  rw [(fr_RI f rx (by decide) s1).2.2] at e1
  have q1 := rr T (thR T rx (i := 14) (k2 := 84) rfl (by decide)) e1
  obtain ⟨b, eb, pb⟩ := P r e1
  exact ⟨b, by rw [(fr_RI f q1 (by decide) (fun w => s3 w _)).2.2]; exact eb, pe_o T (thRn T q1 (k2 := 13) rfl (by decide) eb) (th_id T q1 eb rfl (by decide)) f b0 b3 b4 m p pb⟩
theorem mp_fr (T : TH ρ c h) (rx : ρ x0 = 16) (f : Fr ρ (cat c S h) h h2) (s1 : ∀ w, S 16 w 14 = false) (s2 : ∀ w, S 16 w 30 = false) (s3 : ∀ w i, S 84 w i = false) (b0 : S 13 3400 0 = false) (b3 : S 13 3400 3 = false) (b4 : S 13 3400 4 = false) (m : ∀ i, S 62 3400 i = false) (p : ∀ i, S 63 3400 i = false)
    (v1 : ∀ w, S 16 w 11 = false) (v2 : ∀ w, S 16 w 13 = false) (b1 : S 13 3400 1 = false) (b5 : S 13 3400 5 = false) (hd : ∀ i, S 64 3400 i = false)
    (t0 : S 14 2530 0 = false) (t1 : S 14 2530 1 = false) (t2 : S 14 2530 2 = false) (t3 : S 14 2530 3 = false) (t6 : S 14 2530 6 = false) (t7 : S 14 2530 7 = false)
    (u1 : ∀ i, S 66 2530 i = false) (u2 : ∀ i, S 67 2530 i = false) (u3 : ∀ i, S 68 2530 i = false) (u6 : ∀ i, S 71 2530 i = false) (u7 : ∀ i, S 72 2530 i = false) (P : MvP x0 x1 h) : MvP x0 x1 h2 := by
  intro r e1
  rw [(fr_RI f rx (by decide) s1).2.2] at e1
  have q1 := rr T (thR T rx (i := 14) (k2 := 84) rfl (by decide)) e1
  obtain ⟨b, eb, pb, pm⟩ := P r e1
  have rb := thRn T q1 (k2 := 13) rfl (by decide) eb
  have wb : cw c b = 3400 := th_id T q1 eb rfl (by decide)
  refine ⟨b, by rw [(fr_RI f q1 (by decide) (fun w => s3 w _)).2.2]; exact eb, pe_o T rb wb f b0 b3 b4 m p pb, fun l el => ?_⟩
  rw [(fr_RI f rx (by decide) s2).2.2] at el
  have rl := rr T (thR T rx (i := 30) (k2 := 14) rfl (by decide)) el
  have wl : cw c l = 2530 := th_id T rx el rfl (by decide)
  exact mv_fr T rx rb rl f v1 v2 (by rw [wb]; exact b0) (by rw [wb]; exact b1) (by rw [wb]; exact b5) (by rw [wb]; exact m) (by rw [wb]; exact hd) (by rw [wl]; exact t0) (by rw [wl]; exact t1) (by rw [wl]; exact t2) (by rw [wl]; exact t3) (by rw [wl]; exact t6) (by rw [wl]; exact t7) (by rw [wl]; exact u1) (by rw [wl]; exact u2) (by rw [wl]; exact u3) (by rw [wl]; exact u6) (by rw [wl]; exact u7) (pm l el)
theorem mp_hb (P : MvP x0 x1 h) : HasB x0 x1 h := fun r e => by
  obtain ⟨b, e1, p, _⟩ := P r e
  exact ⟨b, e1, p⟩
theorem mp_of {r l : Nat} (er : hR h x0 14 = some r) (eb : hR h r x1.toNatClampNeg = some b) (el : hR h x0 30 = some l) (pe : PE b h) (mv : MvB x0 b l h) : MvP x0 x1 h := fun r' e => by
  have := r_eq er e
  subst this
  exact ⟨b, eb, pe, fun l' e' => by have := r_eq el e'; subst this; exact mv⟩
theorem mp_mv {r l : Nat} (P : MvP x0 x1 h) (er : hR h x0 14 = some r) (eb : hR h r x1.toNatClampNeg = some b) (el : hR h x0 30 = some l) : MvB x0 b l h := by
  obtain ⟨b', e1, p, m⟩ := P r er
  have := r_eq e1 eb
  subst this
  exact m l el
end
/-- a board that is copied -/
theorem pe_copy {ρ : Nat → Nat} {c : Cm} {h o : Hp} {x0 x1 : Nat} (T : TH ρ c h) (r0 : ρ x0 = 13) (r1 : ρ x1 = 13) (P : PE x1 h) (e : sX12_copy h x0 x1 = some o) : PE x0 o := by
  obtain ⟨Mb, eMb, rMb⟩ := thR T r1 (i := 0) (k2 := 62) rfl (by decide)
  obtain ⟨Mt, eMt, rMt⟩ := thR T r0 (i := 0) (k2 := 62) rfl (by decide)
  obtain ⟨Pb, ePb, rPb⟩ := thR T r1 (i := 4) (k2 := 63) rfl (by decide)
  obtain ⟨Pt, ePt, rPt⟩ := thR T r0 (i := 4) (k2 := 63) rfl (by decide)
  obtain ⟨Hb, eHb, rHb⟩ := thR T r1 (i := 5) (k2 := 64) rfl (by decide)
  obtain ⟨Ht, eHt, rHt⟩ := thR T r0 (i := 5) (k2 := 64) rfl (by decide)
  obtain ⟨C, eC, rC⟩ := thR T r0 (i := 6) (k2 := 65) rfl (by decide)
  obtain ⟨f1, fM, fH, f3, f4, f5, f6, fo, _⟩ := cpy_post r0 r1 rMb rMt rPb rPt rHb rHt rC eMb eMt ePb ePt eHb eHt eC e
  intro M P' p1 p2 k k1 k2
  rw [f1] at p1 p2
  have y1 := r_eq eMt p1
  have y2 := r_eq ePt p2
  subst y1; subst y2
  rw [f4] at k2
  have i3 : Rg 0 64 (hI h x1 3) := thI T r1 rfl
  have c3 := nc_i i3.1
  rw [f5 k (by omega)]
  have ip : Rg 0 63 (hI h Pb k) := thI T rPb rfl
  rw [fM _ (by have := rg_clamp (n := 63) ip (by decide); omega)]
  exact P Mb Pb eMb ePb k k1 k2
/-- the squares gone over are empty, as far as looked -/
def PpE (b : Nat) (n : Int32) (h : Hp) : Prop := 1 ≤ n.toInt ∧ ∀ M P, hR h b 0 = some M → hR h b 4 = some P → ∀ k : Nat, 1 ≤ k → (k : Int) < n.toInt → (hI h M (hI h P k).toNatClampNeg).toInt ≤ 0
section
variable {ρ : Nat → Nat} {c : Cm} {h h2 : Hp} {S : Nat → Nat → Nat → Bool} {b M P : Nat} {n v : Int32}
theorem pp_fr (T : TH ρ c h) (rb : ρ b = 13) (f : Fr ρ (cat c S h) h h2) (s1 : S 13 (cw c b) 0 = false) (s3 : S 13 (cw c b) 4 = false) (s4 : ∀ i, S 62 (cw c b) i = false) (s5 : ∀ i, S 63 (cw c b) i = false) (Q : PpE b n h) : PpE b n h2 := by
  have g : ∀ {a k j : Nat}, ρ a = k → k ≠ 0 → S k (cw c a) j = false → hI h2 a j = hI h a j ∧ hR h2 a j = hR h a j := fun {a k j} ha hk hs => by
    have := f.1 a j (by rw [ha]; exact hk) (by rw [ha]; exact hs)
    exact ⟨this.1, this.2.2⟩
  refine ⟨Q.1, fun M P' p1 p2 k k1 k2 => ?_⟩
  rw [(g rb (by decide) s1).2] at p1
  rw [(g rb (by decide) s3).2] at p2
  have rM := rr T (thR T rb (i := 0) (k2 := 62) rfl (by decide)) p1
  have rP := rr T (thR T rb (i := 4) (k2 := 63) rfl (by decide)) p2
  rw [(g rM (by decide) (by rw [th_ih T rb (by decide) p1 rfl]; exact s4 _)).1, (g rP (by decide) (by rw [th_ih T rb (by decide) p2 rfl]; exact s5 _)).1]
  exact Q.2 M P' p1 p2 k k1 k2
theorem pp_1 : PpE b (1 : Int32) h := ⟨by decide, fun _ _ _ _ k k1 k2 => absurd k2 (by show ¬ (k : Int) < 1; omega)⟩
theorem pp_s (Q : PpE b n h) (i : Rg 0 64 n) (eM : hR h b 0 = some M) (eP : hR h b 4 = some P) (cc : hI h M (hI h P n.toNatClampNeg).toNatClampNeg ≤ 0) (e : v = n + (1 : Int32)) : PpE b v h := by
  obtain ⟨w1, w2⟩ := nc_1 (x := n) i.1 (by have := i.2; omega) e
  refine ⟨by have := Q.1; omega, fun M' P' p1 p2 k k1 k2 => ?_⟩
  have y1 := r_eq eM p1
  have y2 := r_eq eP p2
  subst y1; subst y2
  by_cases q : k = n.toNatClampNeg
  · rw [q]; exact le_i cc
  · exact Q.2 _ _ p1 p2 k k1 (by have := nc_i i.1; omega)
theorem pp_e (Q : PpE b n h) (cc : hI h b 3 ≤ n) : PE b h := fun M P p1 p2 k k1 k2 => Q.2 M P p1 p2 k k1 (by have := le_i cc; omega)
theorem pe_le (cc : hI h b 3 ≤ 0) : PE b h := fun M P p1 p2 k k1 k2 => by
  have := le_i cc
  have z : (0 : Int32).toInt = 0 := rfl
  omega
/-- the list has moves of a board that is held by a field -/
def MvF (i j : Nat) (x0 : Nat) (h : Hp) : Prop := ∀ b l, hR h x0 i = some b → hR h x0 j = some l → MvB x0 b l h
theorem mf_fr {i j wb wl x0 : Nat} (ki : rfK 16 i = 13) (kj : rfK 16 j = 14) (hi : kid 16 i = wb) (hj : kid 16 j = wl) (bi : wb ≠ 0) (bj : wl ≠ 0) (T : TH ρ c h) (rx : ρ x0 = 16) (f : Fr ρ (cat c S h) h h2) (a1 : ∀ w, S 16 w i = false) (a2 : ∀ w, S 16 w j = false)
    (v1 : ∀ w, S 16 w 11 = false) (v2 : ∀ w, S 16 w 13 = false) (b0 : S 13 wb 0 = false) (b1 : S 13 wb 1 = false) (b5 : S 13 wb 5 = false) (m : ∀ i, S 62 wb i = false) (hd : ∀ i, S 64 wb i = false)
    (t0 : S 14 wl 0 = false) (t1 : S 14 wl 1 = false) (t2 : S 14 wl 2 = false) (t3 : S 14 wl 3 = false) (t6 : S 14 wl 6 = false) (t7 : S 14 wl 7 = false)
    (u1 : ∀ i, S 66 wl i = false) (u2 : ∀ i, S 67 wl i = false) (u3 : ∀ i, S 68 wl i = false) (u6 : ∀ i, S 71 wl i = false) (u7 : ∀ i, S 72 wl i = false) (P : MvF i j x0 h) : MvF i j x0 h2 := fun b l e1 e2 => by
  rw [(fr_RI f rx (by decide) a1).2.2] at e1
  rw [(fr_RI f rx (by decide) a2).2.2] at e2
  have rb := rr T (thR T rx ki (by decide)) e1
  have rl := rr T (thR T rx kj (by decide)) e2
  have wb' : cw c b = wb := th_id T rx e1 hi bi
  have wl' : cw c l = wl := th_id T rx e2 hj bj
  exact mv_fr T rx rb rl f v1 v2 (by rw [wb']; exact b0) (by rw [wb']; exact b1) (by rw [wb']; exact b5) (by rw [wb']; exact m) (by rw [wb']; exact hd) (by rw [wl']; exact t0) (by rw [wl']; exact t1) (by rw [wl']; exact t2) (by rw [wl']; exact t3) (by rw [wl']; exact t6) (by rw [wl']; exact t7) (by rw [wl']; exact u1) (by rw [wl']; exact u2) (by rw [wl']; exact u3) (by rw [wl']; exact u6) (by rw [wl']; exact u7) (P b l e1 e2)
theorem mf_of {i j x0 b l : Nat} (e1 : hR h x0 i = some b) (e2 : hR h x0 j = some l) (mv : MvB x0 b l h) : MvF i j x0 h := fun b' l' p1 p2 => by
  have y1 := r_eq e1 p1
  have y2 := r_eq e2 p2
  subst y1; subst y2
  exact mv
end
/-- the solver of endings has its room -/
def LenP (x0 : Nat) (h : Hp) : Prop := ∀ i a, (i = 11 ∨ i = 12 ∨ i = 13) → hR h x0 i = some a → hN h a = 600000
theorem len_fr {ρ : Nat → Nat} {c : Cm} {h h2 : Hp} {S : Nat → Nat → Nat → Bool} {x0 : Nat} (T : TH ρ c h) (r0 : ρ x0 = 1) (f : Fr ρ (cat c S h) h h2) (s1 : ∀ w, S 1 w 11 = false) (s2 : ∀ w, S 1 w 12 = false) (s3 : ∀ w, S 1 w 13 = false) (P : LenP x0 h) : LenP x0 h2 := fun i a hi e => by
  have e' : hR h x0 i = some a := by
    rcases hi with q | q | q <;> subst q
    · rw [(fr_RI f r0 (by decide) s1).2.2] at e; exact e
    · rw [(fr_RI f r0 (by decide) s2).2.2] at e; exact e
    · rw [(fr_RI f r0 (by decide) s3).2.2] at e; exact e
  have ra : ρ a ≠ 0 := by
    rcases hi with q | q | q <;> subst q
    · rw [rr T (thR T r0 (i := 11) (k2 := 24) rfl (by decide)) e']; decide
    · rw [rr T (thR T r0 (i := 12) (k2 := 25) rfl (by decide)) e']; decide
    · rw [rr T (thR T r0 (i := 13) (k2 := 26) rfl (by decide)) e']; decide
  rw [f.2 a ra]
  exact P i a hi e'
theorem len_u11 {x0 : Nat} {h : Hp} (P : LenP x0 h) (r : Nat) (e : hR h x0 11 = some r) : (nI (hN h r)).toInt = 600000 := by rw [P 11 r (by decide) e]; rfl
theorem len_u12 {x0 : Nat} {h : Hp} (P : LenP x0 h) (r : Nat) (e : hR h x0 12 = some r) : (nI (hN h r)).toInt = 600000 := by rw [P 12 r (by decide) e]; rfl
theorem len_u13 {x0 : Nat} {h : Hp} (P : LenP x0 h) (r : Nat) (e : hR h x0 13 = some r) : (nI (hN h r)).toInt = 600000 := by rw [P 13 r (by decide) e]; rfl
/-- the list that a field holds has moves of the board -/
def MvL (j x0 b : Nat) (h : Hp) : Prop := ∀ l, hR h x0 j = some l → MvB x0 b l h
/-- a number of a move of the list that a field holds -/
def InL (j x0 : Nat) (x : Int32) (h : Hp) : Prop := ∀ l, hR h x0 j = some l → x.toInt < (hI h l 0).toInt
section
variable {ρ : Nat → Nat} {c : Cm} {h h2 : Hp} {S : Nat → Nat → Nat → Bool} {x0 b j wl : Nat} {x1 : Int32}
theorem ml_fr (kj : rfK 16 j = 14) (hj : kid 16 j = wl) (bj : wl ≠ 0) (T : TH ρ c h) (rx : ρ x0 = 16) (rb : ρ b = 13) (f : Fr ρ (cat c S h) h h2) (a2 : ∀ w, S 16 w j = false)
    (v1 : ∀ w, S 16 w 11 = false) (v2 : ∀ w, S 16 w 13 = false) (b0 : S 13 (cw c b) 0 = false) (b1 : S 13 (cw c b) 1 = false) (b5 : S 13 (cw c b) 5 = false) (m : ∀ i, S 62 (cw c b) i = false) (hd : ∀ i, S 64 (cw c b) i = false)
    (t0 : S 14 wl 0 = false) (t1 : S 14 wl 1 = false) (t2 : S 14 wl 2 = false) (t3 : S 14 wl 3 = false) (t6 : S 14 wl 6 = false) (t7 : S 14 wl 7 = false)
    (u1 : ∀ i, S 66 wl i = false) (u2 : ∀ i, S 67 wl i = false) (u3 : ∀ i, S 68 wl i = false) (u6 : ∀ i, S 71 wl i = false) (u7 : ∀ i, S 72 wl i = false) (P : MvL j x0 b h) : MvL j x0 b h2 := fun l e2 => by
  rw [(fr_RI f rx (by decide) a2).2.2] at e2
  have rl := rr T (thR T rx kj (by decide)) e2
  have wl' : cw c l = wl := th_id T rx e2 hj bj
  exact mv_fr T rx rb rl f v1 v2 b0 b1 b5 m hd (by rw [wl']; exact t0) (by rw [wl']; exact t1) (by rw [wl']; exact t2) (by rw [wl']; exact t3) (by rw [wl']; exact t6) (by rw [wl']; exact t7) (by rw [wl']; exact u1) (by rw [wl']; exact u2) (by rw [wl']; exact u3) (by rw [wl']; exact u6) (by rw [wl']; exact u7) (P l e2)
theorem il_fr (kj : rfK 16 j = 14) (hj : kid 16 j = wl) (bj : wl ≠ 0) (T : TH ρ c h) (rx : ρ x0 = 16) (f : Fr ρ (cat c S h) h h2) (a2 : ∀ w, S 16 w j = false) (t0 : S 14 wl 0 = false) (P : InL j x0 x1 h) : InL j x0 x1 h2 := fun l e2 => by
  rw [(fr_RI f rx (by decide) a2).2.2] at e2
  have rl := rr T (thR T rx kj (by decide)) e2
  have wl' : cw c l = wl := th_id T rx e2 hj bj
  rw [(f.1 l 0 (by rw [rl]; decide) (by rw [rl]; show S 14 (cw c l) 0 = false; rw [wl']; exact t0)).1]
  exact P l e2
theorem mp_ml {r : Nat} (P : MvP x0 x1 h) (er : hR h x0 14 = some r) (eb : hR h r x1.toNatClampNeg = some b) : MvL 30 x0 b h := fun l el => mp_mv P er eb el
theorem il_of {l : Nat} {x : Int32} (el : hR h x0 j = some l) (q : x.toInt < (hI h l 0).toInt) : InL j x0 x h := fun l' e => by
  have := r_eq el e
  subst this
  exact q
end
section
variable {ρ : Nat → Nat} {c : Cm} {h h2 : Hp} {A B : List (Nat × Nat)} {a k w a0 sp dp n : Nat}
theorem m999 {A : List (Nat × Nat)} {k : Nat} (m : mS A k 999 = true) (q : A.all (fun p => p.2 == 999) = true) (i : Nat) : mS A k i = true := by
  unfold mS at m ⊢
  rw [List.any_eq_true] at m ⊢
  obtain ⟨p, hp, e⟩ := m
  rw [List.all_eq_true] at q
  refine ⟨p, hp, ?_⟩
  rw [Bool.and_eq_true] at e ⊢
  exact ⟨e.1, by rw [q p hp]; rfl⟩
theorem fr1C (e : ρ a = k) (m : mS A k 999 = true) (en : h2 = cpI h a0 sp a dp n) (q : A.all (fun p => p.2 == 999) = true := by rfl) : Fr ρ (cat c (fS A []) h) h h2 := by
  rw [en]
  refine ⟨fun b j hb hs => ⟨?_, rfl, rfl⟩, fun _ _ => rfl⟩
  rw [cp_at, if_neg]
  rintro ⟨q1, _⟩
  have : fS A [] (ρ b) (cw c b) j = false := hs
  rw [q1, e, fs_t (m999 m q j)] at this
  exact absurd this (by decide)
theorem fr1Co (e : ρ a = k) (ew : cw c a = w) (m : mS B k 999 = true) (en : h2 = cpI h a0 sp a dp n) (q : B.all (fun p => p.2 == 999) = true := by rfl) : Fr ρ (cat c (fS [] [(w, B)]) h) h h2 := by
  rw [en]
  refine ⟨fun b j hb hs => ⟨?_, rfl, rfl⟩, fun _ _ => rfl⟩
  rw [cp_at, if_neg]
  rintro ⟨q1, _⟩
  have : fS [] [(w, B)] (ρ b) (cw c b) j = false := hs
  rw [q1, e, ew, fs_u (m999 m q j)] at this
  exact absurd this (by decide)
end
/-- the fresh rules tell a board -/
def FrF (x0 : Nat) (h : Hp) : Prop := ∀ r, hR h x0 5 = some r → 3 ≤ (hI h r 0).toInt
def FrB (x0 : Nat) (h : Hp) : Prop := ∀ r, hR h x0 5 = some r → 3 ≤ (hI h r 0).toInt ∧ 3 ≤ (hI h r 1).toInt
section
variable {ρ : Nat → Nat} {c : Cm} {h h2 : Hp} {S : Nat → Nat → Nat → Bool} {x0 r : Nat} {v : Int32}
theorem ff_fr (T : TH ρ c h) (rx : ρ x0 = 16) (f : Fr ρ (cat c S h) h h2) (s1 : ∀ w, S 16 w 5 = false) (s2 : ∀ w, S 15 w 0 = false) (P : FrF x0 h) : FrF x0 h2 := fun r e => by
  rw [(fr_RI f rx (by decide) s1).2.2] at e
  have q := rr T (thR T rx (i := 5) (k2 := 15) rfl (by decide)) e
  rw [(fr_RI f q (by decide) s2).1]
  exact P r e
theorem fb_fr (T : TH ρ c h) (rx : ρ x0 = 16) (f : Fr ρ (cat c S h) h h2) (s1 : ∀ w, S 16 w 5 = false) (s2 : ∀ w, S 15 w 0 = false) (s3 : ∀ w, S 15 w 1 = false) (P : FrB x0 h) : FrB x0 h2 := fun r e => by
  rw [(fr_RI f rx (by decide) s1).2.2] at e
  have q := rr T (thR T rx (i := 5) (k2 := 15) rfl (by decide)) e
  rw [(fr_RI f q (by decide) s2).1, (fr_RI f q (by decide) s3).1]
  exact P r e
theorem ff_w (er : hR h x0 5 = some r) (e : h2 = wI h r 0 v) (hv : 3 ≤ v.toInt) : FrF x0 h2 := fun r' e' => by
  rw [e] at e' ⊢
  replace e' : hR h x0 5 = some r' := e'
  have := r_eq er e'
  subst this
  rw [r_I, if_pos ⟨rfl, rfl⟩]; exact hv
theorem fb_w (P : FrF x0 h) (er : hR h x0 5 = some r) (e : h2 = wI h r 1 v) (hv : 3 ≤ v.toInt) : FrB x0 h2 := fun r' e' => by
  rw [e] at e' ⊢
  replace e' : hR h x0 5 = some r' := e'
  have := r_eq er e'
  subst this
  refine ⟨?_, ?_⟩
  · rw [r_I, if_neg (by simp)]; exact P r' e'
  · rw [r_I, if_pos ⟨rfl, rfl⟩]; exact hv
end
/-- men stand on the squares of the set -/
def PosM (x1 : Nat) (x : Int64) (h : Hp) : Prop := ∀ on s, hR h x1 0 = some on → s < 64 → bitJ x s = true → 0 ≤ (hI h on s).toInt
section
variable {ρ : Nat → Nat} {c : Cm} {h h2 : Hp} {S : Nat → Nat → Nat → Bool} {x1 on of d : Nat} {x y : Int64}
theorem pm_fr (T : TH ρ c h) (r1 : ρ x1 = 4) (f : Fr ρ (cat c S h) h h2) (s1 : S 4 (cw c x1) 0 = false) (s2 : ∀ i, S 34 (cw c x1) i = false) (P : PosM x1 x h) : PosM x1 x h2 := fun on s e hs hb => by
  rw [(f.1 x1 0 (by rw [r1]; decide) (by rw [r1]; exact s1)).2.2] at e
  have q := th_on T r1 e
  rw [(f.1 on s (by rw [q]; decide) (by rw [q]; show S 34 (cw c on) s = false; rw [th_ih T r1 (by decide) e rfl]; exact s2 s)).1]
  exact P on s e hs hb
theorem pm_start (T : TH ρ c h) (r1 : ρ x1 = 4) (h3 : hR h x1 1 = some of) (hd : d < 2) : PosM x1 (hJ h of d) h := fun on s e hs hb => (th_ps T r1 e h3 hs hd hb).1
theorem pm_and (P : PosM x1 x h) : PosM x1 (x &&& y) h := fun on s e hs hb => P on s e hs (by
  have q : bitJ (x &&& y) s = (bitJ x s && bitJ y s) := by
    unfold bitJ
    rw [Int64.toBitVec_and, BitVec.getLsbD_and]
  rw [q, Bool.and_eq_true] at hb
  exact hb.1)
theorem pm_low {o : Int32 × Hp} {g : Hp} (P : PosM x1 x h) (e : sX11_lowest g x = some o) (nz : ¬ lg_cmp x (0 : Int64) = 0) (io : Rg 0 63 o.1) (er : hR h x1 0 = some on) (hi : Rg (-2) 23 (hI h on o.1.toNatClampNeg)) : Rg 0 23 (hI h on o.1.toNatClampNeg) := by
  unfold sX11_lowest at e
  have e := Option.some.inj (gd_s e).2
  refine ⟨P on _ er (by have := rg_clamp (n := 63) io (by decide); omega) ?_, hi.2⟩
  rw [← e]
  exact sq_bit (cmp0 nz)
end
/-- a man stands there, where one is seen -/
def MnC (x1 : Nat) (x7 x8 : Int32) (h : Hp) : Prop := x8 = 0 ∨ ∀ r, hR h x1 0 = some r → 1 ≤ (hI h r x7.toNatClampNeg).toInt
theorem mc_fr {ρ : Nat → Nat} {c : Cm} {h h2 : Hp} {S : Nat → Nat → Nat → Bool} {x1 : Nat} {x7 x8 : Int32} (T : TH ρ c h) (r1 : ρ x1 = 13) (f : Fr ρ (cat c S h) h h2) (s1 : S 13 (cw c x1) 0 = false) (s2 : ∀ i, S 62 (cw c x1) i = false) (P : MnC x1 x7 x8 h) : MnC x1 x7 x8 h2 := by
  rcases P with P | P
  · exact Or.inl P
  · refine Or.inr (fun r e => ?_)
    rw [(f.1 x1 0 (by rw [r1]; decide) (by rw [r1]; exact s1)).2.2] at e
    have q := rr T (thR T r1 (i := 0) (k2 := 62) rfl (by decide)) e
    rw [(f.1 r _ (by rw [q]; decide) (by rw [q]; show S 62 (cw c r) _ = false; rw [th_ih T r1 (by decide) e rfl]; exact s2 _)).1]
    exact P r e
