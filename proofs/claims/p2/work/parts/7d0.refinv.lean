/-! the reference's invariant -/
def sqN (_ : Nat) (_ : Hp) : Nat := 64
/-- no game's board behind the row's end -/
def NoG (x0 : Nat) (h : Hp) : Prop := ∀ r, hR h x0 37 = some r → ∀ i, 2408 ≤ i → hR h r i = none
def RfI (x0 : Nat) (h : Hp) : Prop := SqOk x0 h ∧ (∃ B, BdY (sqN x0 h) B x0 h) ∧ (∃ B, GaY (sqN x0 h) B x0 h) ∧ DpP x0 h ∧ PbP x0 h ∧ (∃ B, FdPY (sqN x0 h) B x0 h) ∧ EnR x0 h ∧ NoG x0 h
/-- a board's places -/
def bdO (S : Nat → Nat → Nat → Bool) (w : Nat) : Prop := (∀ i, i < 7 → S 13 w i = false) ∧ (∀ i, S 62 w i = false) ∧ (∀ i, S 63 w i = false) ∧ ∀ i, S 64 w i = false
def cB (S : Nat → Nat → Nat → Bool) : Prop := (∀ w, S 16 w 14 = false) ∧ (∀ w, S 16 w 15 = false) ∧ (∀ w i, S 84 w i = false) ∧ (∀ w i, S 85 w i = false) ∧ bdO S 3400
def cG (S : Nat → Nat → Nat → Bool) : Prop := (∀ w, S 16 w 37 = false) ∧ (∀ w i, S 92 w i = false) ∧ ∀ j, j ≤ 2407 → bdO S (5000 + j)
def cD (S : Nat → Nat → Nat → Bool) : Prop := (∀ w, S 16 w 33 = false) ∧ (∀ w, S 16 w 34 = false) ∧ (∀ w i, S 90 w i = false) ∧ ∀ w i, S 91 w i = false
def cP (S : Nat → Nat → Nat → Bool) : Prop := (∀ w, S 16 w 65 = false) ∧ ∀ w, S 16 w 68 = false
def cF (S : Nat → Nat → Nat → Bool) : Prop := fdBY S ∧ fdO S ∧ fdT S ∧ ∀ w, S 16 w 44 = false
def cEn (S : Nat → Nat → Nat → Bool) : Prop := (∀ w, S 16 w 13 = false) ∧ (∀ w, S 16 w 46 = false) ∧ (∀ w, S 16 w 47 = false) ∧ (∀ w, S 16 w 48 = false) ∧ (∀ w, S 16 w 49 = false) ∧ (∀ w, S 16 w 50 = false) ∧ (∀ w, S 16 w 55 = false) ∧ (∀ w, S 16 w 56 = false) ∧ (∀ w, S 16 w 59 = false) ∧ (∀ w i, S 99 w i = false) ∧ (∀ w i, S 100 w i = false) ∧ (∀ w i, S 101 w i = false) ∧ (∀ w i, S 106 w i = false) ∧ ∀ w i, S 107 w i = false
section
variable {zq : Nat} {Bq : Nat × Nat} {ρ : Nat → Nat} {c : Cm} {h o : Hp} {S : Nat → Nat → Nat → Bool} {x0 b k w i F : Nat}
theorem bdy_ex (T : TH ρ c h) (r0 : ρ x0 = 16) (f : Fr ρ (cat c S h) h o) (s : cB S) (P : BdY zq Bq x0 h) : ∃ B, BdY zq B x0 o := by
  obtain ⟨s1, s2, s3, s4, s5, s6, s7, s8⟩ := s
  obtain ⟨r, er, qr⟩ := thR T r0 (i := 14) (k2 := 84) rfl (by decide)
  have er' : hR o x0 14 = some r := by rw [(fr_RI f r0 (by decide) s1).2.2]; exact er
  exact ⟨(o.1.1 + 5 * nuC o r 60, o.1.2 + 162 * nuC o r 60), bdy_x T r0 f s1 s2 s3 s4 s5 s6 s7 s8 P (fun r' e' => by
    have : r' = r := r_eq er' e'
    subst this
    exact ⟨Nat.le_refl _, Nat.le_refl _⟩)⟩
theorem gay_ex (T : TH ρ c h) (r0 : ρ x0 = 16) (f : Fr ρ (cat c S h) h o) (s : cG S) (N : NoG x0 h) (P : GaY zq Bq x0 h) : ∃ B, GaY zq B x0 o := by
  obtain ⟨s1, s2, s3⟩ := s
  obtain ⟨r, er, qr⟩ := thR T r0 (i := 37) (k2 := 92) rfl (by decide)
  have er' : hR o x0 37 = some r := by rw [(fr_RI f r0 (by decide) s1).2.2]; exact er
  refine ⟨(o.1.1 + 5 * nuC o r 2408, o.1.2 + 162 * nuC o r 2408), fun i b B => ?_, fun r' e' => ?_⟩
  · obtain ⟨r', t1, t2⟩ := B
    have : r' = r := r_eq er' t1
    subst this
    rw [(fr_RI f qr (by decide) (fun w => s2 w i)).2.2] at t2
    have B0 : Gb x0 i b h := ⟨r', er, t2⟩
    obtain ⟨k1, k2⟩ := gb_r T r0 B0
    have li : i ≤ 2407 := by
      by_cases z : i ≤ 2407
      · exact z
      · have := N r' er i (by omega)
        rw [this] at t2
        exact absurd t2 (by simp)
    obtain ⟨a1, a2, a3, a4⟩ := s3 i li
    exact pz_fr T k1 f (fun i hi => by rw [k2]; exact a1 i (by omega)) (fun i => by rw [k2]; exact a2 i) (fun i => by rw [k2]; exact a3 i) (fun i => by rw [k2]; exact a4 i) (P.1 i b B0)
  · have : r' = r := r_eq er' e'
    subst this
    exact ⟨Nat.le_refl _, Nat.le_refl _⟩
theorem nog_f (T : TH ρ c h) (r0 : ρ x0 = 16) (f : Fr ρ (cat c S h) h o) (s1 : ∀ w, S 16 w 37 = false) (s2 : ∀ w i, 2408 ≤ i → S 92 w i = false) (N : NoG x0 h) : NoG x0 o := fun r er i hi => by
  rw [(fr_RI f r0 (by decide) s1).2.2] at er
  rw [(fr_RI f (rr T (thR T r0 (i := 37) (k2 := 92) rfl (by decide)) er) (by decide) (fun w => s2 w i hi)).2.2]
  exact N r er i hi
theorem dpp_f (T : TH ρ c h) (r0 : ρ x0 = 16) (f : Fr ρ (cat c S h) h o) (s : cD S) (P : DpP x0 h) : DpP x0 o := fun rb rl e1 e2 d b e3 => by
  rw [(fr_RI f r0 (by decide) s.1).2.2] at e1
  rw [(fr_RI f r0 (by decide) s.2.1).2.2] at e2
  have q1 := rr T (thR T r0 (i := 33) (k2 := 90) rfl (by decide)) e1
  have q2 := rr T (thR T r0 (i := 34) (k2 := 91) rfl (by decide)) e2
  rw [(fr_RI f q1 (by decide) (fun w => s.2.2.1 w d)).2.2] at e3
  obtain ⟨l, el⟩ := P rb rl e1 e2 d b e3
  exact ⟨l, by rw [(fr_RI f q2 (by decide) (fun w => s.2.2.2 w d)).2.2]; exact el⟩
theorem pbp_f (T : TH ρ c h) (r0 : ρ x0 = 16) (f : Fr ρ (cat c S h) h o) (s : cP S) (P : PbP x0 h) : PbP x0 o := fun n => by
  rw [(fr_RI f r0 (by decide) s.1).1] at n
  rw [(fr_RI f r0 (by decide) s.2).1]
  exact P n
theorem enr_f (T : TH ρ c h) (r0 : ρ x0 = 16) (f : Fr ρ (cat c S h) h o) (s : cEn S) (P : EnR x0 h) : EnR x0 o := fun n => by
  obtain ⟨s13, s46, s47, s48, s49, s50, s55, s56, s59, t99, t100, t101, t106, t107⟩ := s
  rw [(fr_RI f r0 (by decide) s50).1] at n
  obtain ⟨⟨p1, p2, p3, p4, p5, p6⟩, q⟩ := P n
  have e13 := (fr_RI f r0 (by decide) s13).1
  have e49 := (fr_RI f r0 (by decide) s49).1
  have e46 := (fr_RI f r0 (by decide) s46).2.2
  have e47 := (fr_RI f r0 (by decide) s47).2.2
  have e48 := (fr_RI f r0 (by decide) s48).2.2
  have e55 := (fr_RI f r0 (by decide) s55).2.2
  have e56 := (fr_RI f r0 (by decide) s56).2.2
  have e59 := (fr_RI f r0 (by decide) s59).2.1
  have am : ∀ {r : Nat}, hR h x0 46 = some r → ∀ k, hI o r k = hI h r k := fun e k => (fr_RI f (rr T (thR T r0 (i := 46) (k2 := 99) rfl (by decide)) e) (by decide) (fun w => t99 w k)).1
  have ae : ∀ {r : Nat}, hR h x0 47 = some r → ∀ k, hI o r k = hI h r k := fun e k => (fr_RI f (rr T (thR T r0 (i := 47) (k2 := 100) rfl (by decide)) e) (by decide) (fun w => t100 w k)).1
  have ab : ∀ {r : Nat}, hR h x0 48 = some r → ∀ k, hI o r k = hI h r k := fun e k => (fr_RI f (rr T (thR T r0 (i := 48) (k2 := 101) rfl (by decide)) e) (by decide) (fun w => t101 w k)).1
  have ak : ∀ {r : Nat}, hR h x0 55 = some r → ∀ k, hI o r k = hI h r k := fun e k => (fr_RI f (rr T (thR T r0 (i := 55) (k2 := 106) rfl (by decide)) e) (by decide) (fun w => t106 w k)).1
  have as : ∀ {r : Nat}, hR h x0 56 = some r → ∀ k, hI o r k = hI h r k := fun e k => (fr_RI f (rr T (thR T r0 (i := 56) (k2 := 107) rfl (by decide)) e) (by decide) (fun w => t107 w k)).1
  refine ⟨⟨fun r er => ?_, ?_, fun rm rb em eb k hk => ?_, fun rs rk rm re es ek em ee j hj hp => ?_, fun rm re em ee k hk i hi => ?_, fun rm rb em eb k hk => ?_⟩, by rw [e49]; exact q⟩
  · rw [e56] at er
    rw [e49, uC_eq 16384 (fun j _ => as er j)]
    exact p1 r er
  · unfold S2; rw [e59]; exact p2
  · rw [e46] at em
    rw [e48] at eb
    rw [e49] at hk
    rw [e13, e59, am em k, ab eb k]
    exact p3 rm rb em eb k hk
  · rw [e56] at es
    rw [e55] at ek
    rw [e46] at em
    rw [e47] at ee
    rw [as es j] at hp ⊢
    rw [ak ek j, e49]
    obtain ⟨q1, q2⟩ := p4 rs rk rm re es ek em ee j hj hp
    refine ⟨q1, ?_⟩
    rw [q2, am em _]
    exact (pkN_eq _ (fun i hi => ae ee _)).symm
  · rw [e46] at em
    rw [e47] at ee
    rw [e49] at hk
    rw [am em k] at hi
    rw [ae ee (5 * k + i)]
    exact p5 rm re em ee k hk i hi
  · rw [e46] at em
    rw [e48] at eb
    rw [e49] at hk
    rw [e13, am em k, ab eb k, ab eb (k + 1)]
    exact p6 rm rb em eb k hk
/-- places that the invariant reads -/
def badR (k w i : Nat) : Bool := (k == 16 && [11, 12, 13, 14, 15, 33, 34, 37, 40, 41, 42, 44, 46, 47, 48, 49, 50, 55, 56, 59, 65, 68].contains i) || ([84, 85, 90, 91, 92, 95, 96, 97, 99, 100, 101, 106, 107].contains k) || (((k == 13 && decide (i < 7)) || [62, 63, 64].contains k) && (w == 3400 || decide (5000 ≤ w)))
theorem bad_b {w : Nat} (hw : (w == 3400 || decide (5000 ≤ w)) = true) (hb : ∀ k w i, badR k w i = true → S k w i = false) : bdO S w := ⟨fun i hi => hb 13 w i (by unfold badR; rw [hw, decide_eq_true hi]; simp), fun i => hb 62 w i (by unfold badR; rw [hw]; simp), fun i => hb 63 w i (by unfold badR; rw [hw]; simp), fun i => hb 64 w i (by unfold badR; rw [hw]; simp)⟩
theorem bad_w {j : Nat} (hj : 5000 ≤ j) : (j == 3400 || decide (5000 ≤ j)) = true := by rw [decide_eq_true hj, Bool.or_true]
theorem bad_k {k : Nat} (hk : [84, 85, 90, 91, 92, 95, 96, 97, 99, 100, 101, 106, 107].contains k = true) (hb : ∀ k w i, badR k w i = true → S k w i = false) : ∀ w i, S k w i = false := fun w i => hb k w i (by unfold badR; rw [hk]; simp)
theorem bad_i {i : Nat} (hi : [11, 12, 13, 14, 15, 33, 34, 37, 40, 41, 42, 44, 46, 47, 48, 49, 50, 55, 56, 59, 65, 68].contains i = true) (hb : ∀ k w i, badR k w i = true → S k w i = false) : ∀ w, S 16 w i = false := fun w => hb 16 w i (by unfold badR; rw [hi]; simp)
theorem cB_of (hb : ∀ k w i, badR k w i = true → S k w i = false) : cB S := ⟨bad_i rfl hb, bad_i rfl hb, bad_k rfl hb, bad_k rfl hb, bad_b rfl hb⟩
theorem cG_of (hb : ∀ k w i, badR k w i = true → S k w i = false) : cG S := ⟨bad_i rfl hb, bad_k rfl hb, fun j _ => bad_b (bad_w (by omega)) hb⟩
theorem cD_of (hb : ∀ k w i, badR k w i = true → S k w i = false) : cD S := ⟨bad_i rfl hb, bad_i rfl hb, bad_k rfl hb, bad_k rfl hb⟩
theorem cP_of (hb : ∀ k w i, badR k w i = true → S k w i = false) : cP S := ⟨bad_i rfl hb, bad_i rfl hb⟩
theorem cF_of (hb : ∀ k w i, badR k w i = true → S k w i = false) : cF S := ⟨⟨bad_i rfl hb, bad_k rfl hb, fun j => by
  obtain ⟨a1, a2, a3, a4⟩ := bad_b (w := 11000 + j) (bad_w (by omega)) hb
  exact ⟨fun i hi => a1 i (by omega), a2, a3, a4⟩⟩, ⟨bad_i rfl hb, bad_k rfl hb⟩, ⟨bad_i rfl hb, bad_k rfl hb⟩, bad_i rfl hb⟩
theorem cEn_of (hb : ∀ k w i, badR k w i = true → S k w i = false) : cEn S := ⟨bad_i rfl hb, bad_i rfl hb, bad_i rfl hb, bad_i rfl hb, bad_i rfl hb, bad_i rfl hb, bad_i rfl hb, bad_i rfl hb, bad_i rfl hb, bad_k rfl hb, bad_k rfl hb, bad_k rfl hb, bad_k rfl hb, bad_k rfl hb⟩
/-- over a frame that leaves all of it -/
theorem rfi_f (T : TH ρ c h) (r0 : ρ x0 = 16) (f : Fr ρ (cat c S h) h o) (hb : ∀ k w i, badR k w i = true → S k w i = false) (P : RfI x0 h) : RfI x0 o := by
  obtain ⟨p1, ⟨B1, p2⟩, ⟨B2, p3⟩, p4, p5, ⟨B3, p6⟩, p7, p8⟩ := P
  have e : sqN x0 o = sqN x0 h := rfl
  obtain ⟨a1, a2, a3, a4⟩ := cF_of hb
  refine ⟨sq_fr T r0 f (bad_i rfl hb) (bad_i rfl hb) (bad_i rfl hb) p1, ?_, ?_, dpp_f T r0 f (cD_of hb) p4, pbp_f T r0 f (cP_of hb) p5, ?_, enr_f T r0 f (cEn_of hb) p7, nog_f T r0 f (bad_i rfl hb) (fun w i _ => bad_k rfl hb w i) p8⟩
  · rw [e]; exact bdy_ex T r0 f (cB_of hb) p2
  · rw [e]; exact gay_ex T r0 f (cG_of hb) p8 p3
  · rw [e]; exact fdy_ex T r0 f a1 a2 a3 a4 p6
end
