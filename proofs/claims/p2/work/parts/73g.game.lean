/-! games of the reference -/
def SY (E : Nat → Nat → Bool) (wb wl : Nat → Bool) (k w i : Nat) : Bool := (E k i || mS saL k i) || ((mS bpL k i && wb w) || (mS mpL k i && wl w))
abbrev noE : Nat → Nat → Bool := fun _ _ => false
theorem noE_f {k i : Nat} {P : Prop} (z : noE k i = true) : P := absurd z Bool.false_ne_true
theorem sy_sub {E E' : Nat → Nat → Bool} {wb wl wb' wl' : Nat → Bool} (h1 : ∀ k i, E k i = true → E' k i = true) (h2 : ∀ i, wb i = true → wb' i = true) (h3 : ∀ i, wl i = true → wl' i = true) {k w i : Nat} (m : SY E wb wl k w i = true) : SY E' wb' wl' k w i = true := by
  unfold SY at m ⊢
  rw [Bool.or_eq_true, Bool.or_eq_true, Bool.or_eq_true, Bool.and_eq_true, Bool.and_eq_true] at m ⊢
  rcases m with (a | a) | (⟨a, b⟩ | ⟨a, b⟩)
  · exact Or.inl (Or.inl (h1 _ _ a))
  · exact Or.inl (Or.inr a)
  · exact Or.inr (Or.inl ⟨a, h2 _ b⟩)
  · exact Or.inr (Or.inr ⟨a, h3 _ b⟩)
theorem sy_f {E : Nat → Nat → Bool} {wb wl : Nat → Bool} {k w i : Nat} (h1 : E k i = false) (h2 : mS saL k i = false) (h3 : mS bpL k i = false ∨ wb w = false) (h4 : mS mpL k i = false ∨ wl w = false) : SY E wb wl k w i = false := by
  unfold SY
  have a3 : (mS bpL k i && wb w) = false := by
    rcases h3 with h | h
    · rw [h]; rfl
    · rw [h, Bool.and_false]
  have a4 : (mS mpL k i && wl w) = false := by
    rcases h4 with h | h
    · rw [h]; rfl
    · rw [h, Bool.and_false]
  rw [h1, h2, a3, a4]; rfl
section
variable {ρ : Nat → Nat} {c : Cm} {h o : Hp} {E : Nat → Nat → Bool} {wb wl : Nat → Bool} {x0 d b l w i : Nat}
theorem syA (hp : ∀ k w i, SY E wb wl k w i = true → cPm c k w i = true) : pmA c saL := fun w k i m => hp k w i (by unfold SY; rw [m, Bool.or_true, Bool.true_or])
theorem syE (hp : ∀ k w i, SY E wb wl k w i = true → cPm c k w i = true) {k : Nat} (m : E k i = true) : ∀ w, cPm c k w i = true := fun w => hp k w i (by unfold SY; rw [m, Bool.true_or, Bool.true_or])
theorem syB (hp : ∀ k w i, SY E wb wl k w i = true → cPm c k w i = true) (hw : wb w = true) : pmO c w bpL := fun k i m => hp k w i (by unfold SY; rw [m, hw, Bool.and_true, Bool.true_or, Bool.or_true])
theorem syM (hp : ∀ k w i, SY E wb wl k w i = true → cPm c k w i = true) (hw : wl w = true) : pmO c w mpL := fun k i m => hp k w i (by unfold SY; rw [m, hw, Bool.and_true, Bool.or_true, Bool.or_true])
/-- what is written beside boards and lists leaves them as they are -/
def nice (E : Nat → Nat → Bool) : Prop := (∀ k i, k = 13 ∨ k = 14 ∨ (62 ≤ k ∧ k ≤ 72) ∨ k = 15 → E k i = false) ∧ E 16 11 = false ∧ E 16 12 = false ∧ E 16 13 = false ∧ E 16 37 = false ∧ E 16 14 = false
theorem nice_0 : nice noE := ⟨fun _ _ _ => rfl, rfl, rfl, rfl, rfl, rfl⟩
theorem pe_sy (n : nice E) (T : TH ρ c h) (rb : ρ b = 13) (ew : cw c b = w) (hb : wb w = false) (f : Fr ρ (cat c (SY E wb wl) h) h o) (P : PE b h) : PE b o := by
  have z : ∀ k i, (k = 13 ∨ k = 14 ∨ (62 ≤ k ∧ k ≤ 72) ∨ k = 15) → mS saL k i = false → mS mpL k i = false → SY E wb wl k (cw c b) i = false := fun k i a0 a1 a2 => sy_f (n.1 k i a0) a1 (Or.inr (by rw [ew]; exact hb)) (Or.inl a2)
  exact pe_fr T rb f (z _ _ (by omega) rfl rfl) (z _ _ (by omega) rfl rfl) (z _ _ (by omega) rfl rfl) (fun i => z _ _ (by omega) rfl rfl) (fun i => z _ _ (by omega) rfl rfl) P
theorem mv_sy {w' : Nat} (n : nice E) (T : TH ρ c h) (r0 : ρ x0 = 16) (rb : ρ b = 13) (rl : ρ l = 14) (ew : cw c b = w) (hb : wb w = false) (el : cw c l = w') (hl : wl w' = false) (f : Fr ρ (cat c (SY E wb wl) h) h o) (M : MvB x0 b l h) : MvB x0 b l o := by
  have z : ∀ k i, (k = 13 ∨ k = 14 ∨ (62 ≤ k ∧ k ≤ 72) ∨ k = 15) → mS saL k i = false → mS mpL k i = false → SY E wb wl k (cw c b) i = false := fun k i a0 a1 a2 => sy_f (n.1 k i a0) a1 (Or.inr (by rw [ew]; exact hb)) (Or.inl a2)
  have y : ∀ k i, (k = 13 ∨ k = 14 ∨ (62 ≤ k ∧ k ≤ 72) ∨ k = 15) → mS saL k i = false → mS bpL k i = false → SY E wb wl k (cw c l) i = false := fun k i a0 a1 a2 => sy_f (n.1 k i a0) a1 (Or.inl a2) (Or.inr (by rw [el]; exact hl))
  exact mv_fr T r0 rb rl f (fun _ => sy_f n.2.1 rfl (Or.inl rfl) (Or.inl rfl)) (fun _ => sy_f n.2.2.2.1 rfl (Or.inl rfl) (Or.inl rfl)) (z _ _ (by omega) rfl rfl) (z _ _ (by omega) rfl rfl) (z _ _ (by omega) rfl rfl) (fun i => z _ _ (by omega) rfl rfl) (fun i => z _ _ (by omega) rfl rfl) (y _ _ (by omega) rfl rfl) (y _ _ (by omega) rfl rfl) (y _ _ (by omega) rfl rfl) (y _ _ (by omega) rfl rfl) (y _ _ (by omega) rfl rfl) (y _ _ (by omega) rfl rfl) (fun i => y _ _ (by omega) rfl rfl) (fun i => y _ _ (by omega) rfl rfl) (fun i => y _ _ (by omega) rfl rfl) (fun i => y _ _ (by omega) rfl rfl) (fun i => y _ _ (by omega) rfl rfl) M
theorem sq_sy (n : nice E) (T : TH ρ c h) (r0 : ρ x0 = 16) (f : Fr ρ (cat c (SY E wb wl) h) h o) (P : SqOk x0 h) : SqOk x0 o := sq_fr T r0 f (fun _ => sy_f n.2.1 rfl (Or.inl rfl) (Or.inl rfl)) (fun _ => sy_f n.2.2.1 rfl (Or.inl rfl) (Or.inl rfl)) (fun _ => sy_f n.2.2.2.1 rfl (Or.inl rfl) (Or.inl rfl)) P
theorem bk_sy (n : nice E) (n84 : ∀ i, E 84 i = false) (T : TH ρ c h) (r0 : ρ x0 = 16) (f : Fr ρ (cat c (SY E wb wl) h) h o) (hb : wb 3400 = false) (B : BK x0 i b h) : BK x0 i b o := by
  obtain ⟨k1, k3⟩ := bk_r T r0 B
  obtain ⟨r, e1, e2, P⟩ := B
  obtain ⟨q1, f1, g1⟩ := thR T r0 (i := 14) (k2 := 84) rfl (by decide)
  have h1 : ρ r = 84 := by rw [r_eq f1 e1]; exact g1
  refine ⟨r, ?_, ?_, pe_sy n T k1 k3 hb f P⟩
  · rw [(fr_RI f r0 (by decide) (fun _ => sy_f n.2.2.2.2.2 rfl (Or.inl rfl) (Or.inl rfl))).2.2]; exact e1
  · rw [(fr_RI f h1 (by decide) (fun _ => sy_f (n84 _) rfl (Or.inl rfl) (Or.inl rfl))).2.2]; exact e2
/-- a game's board, and all of them -/
def Gb (x0 i b : Nat) (h : Hp) : Prop := ∃ r, hR h x0 37 = some r ∧ hR h r i = some b
def GaP (x0 : Nat) (h : Hp) : Prop := ∀ i b, Gb x0 i b h → PE b h
theorem gb_r (T : TH ρ c h) (r0 : ρ x0 = 16) (B : Gb x0 i b h) : ρ b = 13 ∧ cw c b = 5000 + i := by
  obtain ⟨r, e1, e2⟩ := B
  obtain ⟨q1, f1, g1⟩ := thR T r0 (i := 37) (k2 := 92) rfl (by decide)
  have h1 : ρ r = 92 := by rw [r_eq f1 e1]; exact g1
  exact ⟨thRn T h1 (k2 := 13) rfl (by decide) e2, th_id T h1 (w := 5000 + i) e2 rfl (by omega)⟩
theorem gb_sy (n : nice E) (n92 : E 92 i = false) (T : TH ρ c h) (r0 : ρ x0 = 16) (f : Fr ρ (cat c (SY E wb wl) h) h o) : Gb x0 i b h ↔ Gb x0 i b o := by
  obtain ⟨q1, f1, g1⟩ := thR T r0 (i := 37) (k2 := 92) rfl (by decide)
  have a1 := (fr_RI f r0 (by decide) (fun _ => sy_f n.2.2.2.2.1 rfl (Or.inl rfl) (Or.inl rfl)) : hI o x0 37 = _ ∧ _).2.2
  have a2 := (fr_RI f g1 (by decide) (fun _ => sy_f n92 rfl (Or.inl rfl) (Or.inl rfl)) : hI o q1 i = _ ∧ _).2.2
  constructor
  · rintro ⟨r, e1, e2⟩
    have : r = q1 := r_eq f1 e1
    subst this
    exact ⟨r, by rw [a1]; exact e1, by rw [a2]; exact e2⟩
  · rintro ⟨r, e1, e2⟩
    rw [a1] at e1
    have : r = q1 := r_eq f1 e1
    subst this
    rw [a2] at e2
    exact ⟨r, e1, e2⟩
theorem ga_sy (n : nice E) (n92 : ∀ i, E 92 i = false) (T : TH ρ c h) (r0 : ρ x0 = 16) (f : Fr ρ (cat c (SY E wb wl) h) h o) (hb : ∀ j, wb (5000 + j) = false ∨ ∀ b, Gb x0 j b h → PE b o) (G : GaP x0 h) : GaP x0 o := fun i b B => by
  have B0 := (gb_sy n (n92 i) T r0 f).mpr B
  rcases hb i with q | q
  · obtain ⟨k1, k2⟩ := gb_r T r0 B0
    exact pe_sy n T k1 k2 q f (G i b B0)
  · exact q b B0
end
def gi (x1 x2 : Int32) : Nat := (x1 * (301 : Int32) + x2).toNatClampNeg
theorem gi_r {x1 x2 : Int32} (i1 : Rg 0 7 x1) (i2 : Rg 0 300 x2) : Rg 0 2407 (x1 * (301 : Int32) + x2) := rg_add (rg_mulc i1 (rg_b rfl : Rg 301 301 (301 : Int32)) (by decide) : Rg 0 2107 (x1 * (301 : Int32))) i2 (by decide)
theorem gi_ne {x1 x2 y2 : Int32} (i1 : Rg 0 7 x1) (i2 : Rg 0 300 x2) (j2 : Rg 0 300 y2) (n : x2.toInt ≠ y2.toInt) : gi x1 x2 ≠ gi x1 y2 := by
  have m : Rg 0 2107 (x1 * (301 : Int32)) := rg_mulc i1 (rg_b rfl : Rg 301 301 (301 : Int32)) (by decide)
  have a := nc_i (gi_r i1 i2).1
  have b := nc_i (gi_r i1 j2).1
  have e1 := ti_add m i2 (by decide)
  have e2 := ti_add m j2 (by decide)
  unfold gi
  omega
def g92 (n : Nat) : Nat → Nat → Bool := fun k i => k == 92 && i == n
theorem nice_92 {n : Nat} : nice (g92 n) := by
  refine ⟨fun k i hk => ?_, rfl, rfl, rfl, rfl, rfl⟩
  unfold g92
  rw [bq_ne (show k ≠ 92 by omega)]; rfl
section
variable {ρ : Nat → Nat} {c : Cm} {h o : Hp} {E : Nat → Nat → Bool} {wb wl : Nat → Bool} {x0 d b l w i F : Nat} {x1 x2 : Int32}
/-- the board of a game at a move: made where it is wanting -/
theorem gameB (h9 : ∀ w, cPm c 92 w (gi x1 x2) = true) (T : TH ρ c h) (r0 : ρ x0 = 16) (i1 : Rg 0 7 x1) (i2 : Rg 0 300 x2) (G : GaP x0 h) : Sat (sX15_gameBoard h x0 x1 x2) (fun o => ∃ ρ' c', Ext ρ c ρ' c' ∧ TH ρ' c' o.2 ∧ GaP x0 o.2 ∧ Gb x0 (gi x1 x2) o.1 o.2 ∧ ∀ j b, Gb x0 j b h → Gb x0 j b o.2) := by
  unfold sX15_gameBoard
  refine s_q (fun v ev => ?_)
  have iv : Rg 0 2407 v := by rw [ev]; exact gi_r i1 i2
  have eg : gi x1 x2 = v.toNatClampNeg := by rw [ev]; rfl
  rw [eg] at h9 ⊢
  obtain ⟨r, er, qr⟩ := thR T r0 (i := 37) (k2 := 92) rfl (by decide)
  refine s_ref er ?_
  refine s_gd (by rw [thN T qr (k := 92) (n := 2408) rfl (by decide)]; exact rg_inB iv (by decide)) ?_
  have t1 : h.1 = c.1 := T.1.1
  cases q : hR h r v.toNatClampNeg with
  | none =>
    show Sat (cl (hR h x0 37) _) _
    refine s_ref er ?_
    refine s_q (fun a ea => ?_)
    refine s_q (fun h8 e8 => ?_)
    subst ea
    subst e8
    unfold sX15_gameBoard_25 sX15_gameBoard_29 sX15_gameBoard_30
    obtain ⟨o1, eo1, ρ1, c1, X1, T1, a1, w1, O1⟩ := newBoard T (5000 + v.toNatClampNeg)
    refine s_val eo1 ?_
    have ob : o1 = boH h := by rw [boH_v] at eo1; exact (Option.some.inj eo1).symm
    have z3 : hI o1 (hS h) 3 = 0 := by rw [ob]; exact boH_I h 0 3 (by decide)
    have r01 := ex_r X1 r0 (by decide)
    have qr1 := ex_r X1 qr (by decide)
    have lt : ∀ a, ρ a ≠ 0 → a < h.1.1 := fun a ha => by rw [t1]; exact T.2.1.2.2.1 a ha
    have lt0 : x0 < h.1.1 := lt x0 (by rw [r0]; decide)
    have ltr : r < h.1.1 := lt r (by rw [qr]; decide)
    have er1 : hR o1 x0 37 = some r := by rw [(O1 x0 lt0).2.2.1]; exact er
    refine s_gd (by rw [thN T1 qr1 (k := 92) (n := 2408) rfl (by decide)]; exact rg_inB iv (by decide)) ?_
    refine s_q (fun h2 e2 => ?_)
    have T2 : TH ρ1 c1 h2 := by
      rw [e2]
      exact th_wRe T1 qr1 (k2 := 13) rfl (by decide) a1 (by decide) (by decide) rfl rfl rfl w1 (ex_p X1 (h9 _))
    have er2 : hR h2 x0 37 = some r := by rw [e2, r_R, if_neg (ne_r r01 qr1 (by decide))]; exact er1
    refine s_ref er2 ?_
    refine s_gd (by rw [thN T2 qr1 (k := 92) (n := 2408) rfl (by decide)]; exact rg_inB iv (by decide)) ?_
    have ee : hR h2 r v.toNatClampNeg = some (hS h) := by rw [e2, r_R, if_pos ⟨rfl, rfl⟩]
    have kp : ∀ j b, Gb x0 j b h → Gb x0 j b h2 := fun j b ⟨r', g1, g2⟩ => by
      have : r' = r := r_eq er g1
      subst this
      have z : j ≠ v.toNatClampNeg := fun z => by rw [z, q] at g2; exact absurd g2 (by simp)
      exact ⟨r', er2, by rw [e2, r_R, if_neg (fun y => z y.2), (O1 r' ltr).2.2.1]; exact g2⟩
    refine s_ref ee (s_some ⟨ρ1, c1, X1, T2, fun j b B => ?_, ⟨r, er2, ee⟩, kp⟩)
    obtain ⟨r', g1, g2⟩ := B
    have : r' = r := r_eq er2 g1
    subst this
    by_cases z : j = v.toNatClampNeg
    · rw [z, ee] at g2
      rw [← Option.some.inj g2]
      exact pe_0 (by rw [e2]; show (hI o1 (hS h) 3).toInt = 0; rw [z3]; rfl)
    · rw [e2, r_R, if_neg (fun y => z y.2), (O1 r' ltr).2.2.1] at g2
      have P := G j b ⟨r', er, g2⟩
      have rb := thRn T qr (k2 := 13) rfl (by decide) g2
      have ltb := lt b (by rw [rb]; decide)
      intro M Pa m1 m2 k k1 k2
      have x1' : hR h2 b 0 = hR h b 0 := by rw [e2, r_R, if_neg (ne_r (ex_r X1 rb (by decide)) qr1 (by decide)), (O1 b ltb).2.2.1]
      have x2' : hR h2 b 4 = hR h b 4 := by rw [e2, r_R, if_neg (ne_r (ex_r X1 rb (by decide)) qr1 (by decide)), (O1 b ltb).2.2.1]
      rw [x1'] at m1
      rw [x2'] at m2
      obtain ⟨M', f1, s1⟩ := thR T rb (i := 0) (k2 := 62) rfl (by decide)
      obtain ⟨P', f2, s2⟩ := thR T rb (i := 4) (k2 := 63) rfl (by decide)
      have ltM := lt M (by rw [r_eq f1 m1, s1]; decide)
      have ltP := lt Pa (by rw [r_eq f2 m2, s2]; decide)
      have i3 : hI h2 b 3 = hI h b 3 := by rw [e2]; exact (O1 b ltb).1 3
      have iP : hI h2 Pa k = hI h Pa k := by rw [e2]; exact (O1 Pa ltP).1 k
      have iM : ∀ n, hI h2 M n = hI h M n := fun n => by rw [e2]; exact (O1 M ltM).1 n
      rw [i3] at k2
      rw [iP, iM]
      exact P M Pa m1 m2 k k1 k2
  | some r4 =>
    show Sat (sX15_gameBoard_30 h x0 v) _
    unfold sX15_gameBoard_30
    refine s_ref er ?_
    refine s_gd (by rw [thN T qr (k := 92) (n := 2408) rfl (by decide)]; exact rg_inB iv (by decide)) ?_
    exact s_ref q (s_some ⟨ρ, c, ex_0, T, G, ⟨r, er, q⟩, fun _ _ B => B⟩)
theorem s_game {β : Type} {Q : β → Prop} {k : Nat × Hp → Option β} (hp : ∀ k w i, SY E wb wl k w i = true → cPm c k w i = true) (hi : ∀ i, E 92 i = true) (T : TH ρ c h) (r0 : ρ x0 = 16) (i1 : Rg 0 7 x1) (i2 : Rg 0 300 x2) (G : GaP x0 h) (H : ∀ o ρ1 c1, Ext ρ c ρ1 c1 → TH ρ1 c1 o.2 → Fr ρ (cat c (SY (g92 (gi x1 x2)) no no) h) h o.2 → GaP x0 o.2 → Gb x0 (gi x1 x2) o.1 o.2 → (∀ j b, Gb x0 j b h → Gb x0 j b o.2) → Sat (k o) Q) : Sat (cl (sX15_gameBoard h x0 x1 x2) k) Q :=
  s_mk (g := fun (o : Nat × Hp) => o.2) (P := fun (o : Nat × Hp) (_ : Nat → Nat) (_ : Cm) => GaP x0 o.2 ∧ Gb x0 (gi x1 x2) o.1 o.2 ∧ ∀ j b, Gb x0 j b h → Gb x0 j b o.2) T (fun k w i m => hp k w i (sy_sub (fun k i z => by
      unfold g92 at z
      rw [Bool.and_eq_true, beq_iff_eq] at z
      rw [z.1]; exact hi i) (fun _ z => no_f z) (fun _ z => no_f z) m))
    (gameB (syE (sx_c (SY (g92 (gi x1 x2)) no no)) (by unfold g92; rw [beq_self_eq_true, beq_self_eq_true]; rfl)) (th_in _ T) r0 i1 i2 G) (fun _ _ _ _ _ p => p) (fun o ρ1 c1 X T1 f p => H o ρ1 c1 X T1 f p.1 p.2.1 p.2.2)
theorem s_played {β : Type} {Q : β → Prop} {k : Nat → Option β} (T : TH ρ c h) (r0 : ρ x0 = 16) (i1 : Rg 0 7 x1) (H : ∀ r, hR h x0 39 = some r → ρ r = 94 → Sat (k r) Q) : Sat (cl (hR h x0 39) fun r => gd (inB x1 (hN h r)) (k r)) Q := by
  obtain ⟨r, er, qr⟩ := thR T r0 (i := 39) (k2 := 94) rfl (by decide)
  refine s_ref er ?_
  exact s_gd (by rw [thN T qr (k := 94) (n := 8) rfl (by decide)]; exact rg_inB i1 (by decide)) (H r er qr)
end
