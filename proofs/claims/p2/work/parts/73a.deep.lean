/-! boards and lists at a depth (reference) -/
def bpL : List (Nat × Nat) := [(62, 999), (63, 999), (64, 999), (65, 999), (13, 1), (13, 2), (13, 3), (13, 7)]
def mpL : List (Nat × Nat) := [(66, 999), (67, 999), (68, 999), (69, 999), (70, 999), (71, 999), (72, 999), (14, 0)]
def saL : List (Nat × Nat) := [(87, 999), (88, 999), (89, 999), (16, 23), (16, 24), (16, 29)]
/-- what is written: places of the rows of depths, boards and lists by their holders -/
def SX (p wb wl : Nat → Bool) (k w i : Nat) : Bool := (((k == 90 || k == 91) && p i) || mS saL k i) || ((mS bpL k i && wb w) || (mS mpL k i && wl w))
theorem sx_sub {p wb wl p' wb' wl' : Nat → Bool} (h1 : ∀ i, p i = true → p' i = true) (h2 : ∀ i, wb i = true → wb' i = true) (h3 : ∀ i, wl i = true → wl' i = true) {k w i : Nat} (m : SX p wb wl k w i = true) : SX p' wb' wl' k w i = true := by
  unfold SX at m ⊢
  rw [Bool.or_eq_true, Bool.or_eq_true, Bool.or_eq_true, Bool.and_eq_true, Bool.and_eq_true, Bool.and_eq_true] at m ⊢
  rcases m with (⟨a, b⟩ | a) | (⟨a, b⟩ | ⟨a, b⟩)
  · exact Or.inl (Or.inl ⟨a, h1 _ b⟩)
  · exact Or.inl (Or.inr a)
  · exact Or.inr (Or.inl ⟨a, h2 _ b⟩)
  · exact Or.inr (Or.inr ⟨a, h3 _ b⟩)
theorem sx_f {p wb wl : Nat → Bool} {k w i : Nat} (h1 : (k == 90 || k == 91) = false ∨ p i = false) (h2 : mS saL k i = false) (h3 : mS bpL k i = false ∨ wb w = false) (h4 : mS mpL k i = false ∨ wl w = false) : SX p wb wl k w i = false := by
  unfold SX
  have a1 : ((k == 90 || k == 91) && p i) = false := by
    rcases h1 with h | h
    · rw [h]; rfl
    · rw [h, Bool.and_false]
  have a3 : (mS bpL k i && wb w) = false := by
    rcases h3 with h | h
    · rw [h]; rfl
    · rw [h, Bool.and_false]
  have a4 : (mS mpL k i && wl w) = false := by
    rcases h4 with h | h
    · rw [h]; rfl
    · rw [h, Bool.and_false]
  rw [a1, h2, a3, a4]; rfl
abbrev no : Nat → Bool := fun _ => false
theorem no_f {i : Nat} {P : Prop} (z : no i = true) : P := absurd z Bool.false_ne_true
def is (n : Nat) : Nat → Bool := fun w => w == n
theorem is_s {n : Nat} : is n n = true := beq_self_eq_true n
theorem is_e {n w : Nat} (h : is n w = true) : w = n := beq_iff_eq.mp h
theorem is_f {n w : Nat} (h : w ≠ n) : is n w = false := beq_eq_false_iff_ne.mpr h
section
variable {ρ : Nat → Nat} {c : Cm} {h o : Hp} {p wb wl : Nat → Bool} {x0 d b l w : Nat}
theorem sxA (hp : ∀ k w i, SX p wb wl k w i = true → cPm c k w i = true) : pmA c saL := fun w k i m => hp k w i (by unfold SX; rw [m, Bool.or_true, Bool.true_or])
theorem sxB (hp : ∀ k w i, SX p wb wl k w i = true → cPm c k w i = true) (hw : wb w = true) : pmO c w bpL := fun k i m => hp k w i (by unfold SX; rw [m, hw, Bool.and_true, Bool.true_or, Bool.or_true])
theorem sxM (hp : ∀ k w i, SX p wb wl k w i = true → cPm c k w i = true) (hw : wl w = true) : pmO c w mpL := fun k i m => hp k w i (by unfold SX; rw [m, hw, Bool.and_true, Bool.or_true, Bool.or_true])
theorem sx9 (hp : ∀ k w i, SX p wb wl k w i = true → cPm c k w i = true) {i : Nat} (hi : p i = true) : (∀ w, cPm c 90 w i = true) ∧ ∀ w, cPm c 91 w i = true := ⟨fun w => hp 90 w i (by unfold SX; rw [hi]; rfl), fun w => hp 91 w i (by unfold SX; rw [hi]; rfl)⟩
theorem sx_c (S : Nat → Nat → Nat → Bool) : ∀ k w i, S k w i = true → cPm (cat c S h) k w i = true := fun _ _ _ m => m
def Dp (x0 d b l : Nat) (h : Hp) : Prop := ∃ rb rl, hR h x0 33 = some rb ∧ hR h x0 34 = some rl ∧ hR h rb d = some b ∧ hR h rl d = some l
/-- where there is a board, there is a list -/
def DpP (x0 : Nat) (h : Hp) : Prop := ∀ rb rl, hR h x0 33 = some rb → hR h x0 34 = some rl → ∀ d b, hR h rb d = some b → ∃ l, hR h rl d = some l
theorem dp_r (T : TH ρ c h) (r0 : ρ x0 = 16) (D : Dp x0 d b l h) : ρ b = 13 ∧ ρ l = 14 ∧ cw c b = 3500 + d ∧ cw c l = 3600 + d := by
  obtain ⟨rb, rl, e1, e2, e3, e4⟩ := D
  obtain ⟨q1, f1, g1⟩ := thR T r0 (i := 33) (k2 := 90) rfl (by decide)
  obtain ⟨q2, f2, g2⟩ := thR T r0 (i := 34) (k2 := 91) rfl (by decide)
  have h1 : ρ rb = 90 := by rw [r_eq f1 e1]; exact g1
  have h2 : ρ rl = 91 := by rw [r_eq f2 e2]; exact g2
  exact ⟨thRn T h1 (k2 := 13) rfl (by decide) e3, thRn T h2 (k2 := 14) rfl (by decide) e4, th_id T h1 (w := 3500 + d) e3 rfl (by omega), th_id T h2 (w := 3600 + d) e4 rfl (by omega)⟩
theorem dp_keep (T : TH ρ c h) (r0 : ρ x0 = 16) (f : Fr ρ (cat c (SX p wb wl) h) h o) (hp : p d = false) (hb : wb (3500 + d) = false) (hl : wl (3600 + d) = false) (D : Dp x0 d b l h) : Dp x0 d b l o ∧ hI o l 0 = hI h l 0 ∧ (PE b h → PE b o) ∧ (MvB x0 b l h → MvB x0 b l o) := by
  obtain ⟨rb, rl, e1, e2, e3, e4⟩ := D
  obtain ⟨q1, f1, g1⟩ := thR T r0 (i := 33) (k2 := 90) rfl (by decide)
  obtain ⟨q2, f2, g2⟩ := thR T r0 (i := 34) (k2 := 91) rfl (by decide)
  have h1 : ρ rb = 90 := by rw [r_eq f1 e1]; exact g1
  have h2 : ρ rl = 91 := by rw [r_eq f2 e2]; exact g2
  obtain ⟨k1, k2, k3, k4⟩ := dp_r T r0 (d := d) (b := b) (l := l) ⟨rb, rl, e1, e2, e3, e4⟩
  refine ⟨⟨rb, rl, ?_, ?_, ?_, ?_⟩, ?_, fun P => ?_, fun P => ?_⟩
  · rw [(fr_RI f r0 (by decide) (fun _ => sx_f (Or.inl rfl) rfl (Or.inl rfl) (Or.inl rfl))).2.2]; exact e1
  · rw [(fr_RI f r0 (by decide) (fun _ => sx_f (Or.inl rfl) rfl (Or.inl rfl) (Or.inl rfl))).2.2]; exact e2
  · rw [(fr_RI f h1 (by decide) (fun _ => sx_f (Or.inr hp) rfl (Or.inl rfl) (Or.inl rfl))).2.2]; exact e3
  · rw [(fr_RI f h2 (by decide) (fun _ => sx_f (Or.inr hp) rfl (Or.inl rfl) (Or.inl rfl))).2.2]; exact e4
  · exact fr_I f k2 (by decide) k4 (sx_f (Or.inl rfl) rfl (Or.inl rfl) (Or.inr hl))
  · have z : ∀ k i, mS saL k i = false → mS mpL k i = false → (k == 90 || k == 91) = false → SX p wb wl k (cw c b) i = false := fun k i a1 a2 a3 => sx_f (Or.inl a3) a1 (Or.inr (by rw [k3]; exact hb)) (Or.inl a2)
    exact pe_fr T k1 f (z _ _ rfl rfl rfl) (z _ _ rfl rfl rfl) (z _ _ rfl rfl rfl) (fun i => z _ _ rfl rfl rfl) (fun i => z _ _ rfl rfl rfl) P
  · have z : ∀ k i, mS saL k i = false → mS mpL k i = false → (k == 90 || k == 91) = false → SX p wb wl k (cw c b) i = false := fun k i a1 a2 a3 => sx_f (Or.inl a3) a1 (Or.inr (by rw [k3]; exact hb)) (Or.inl a2)
    have y : ∀ k i, mS saL k i = false → mS bpL k i = false → (k == 90 || k == 91) = false → SX p wb wl k (cw c l) i = false := fun k i a1 a2 a3 => sx_f (Or.inl a3) a1 (Or.inl a2) (Or.inr (by rw [k4]; exact hl))
    exact mv_fr T r0 k1 k2 f (fun _ => sx_f (Or.inl rfl) rfl (Or.inl rfl) (Or.inl rfl)) (fun _ => sx_f (Or.inl rfl) rfl (Or.inl rfl) (Or.inl rfl)) (z _ _ rfl rfl rfl) (z _ _ rfl rfl rfl) (z _ _ rfl rfl rfl) (fun i => z _ _ rfl rfl rfl) (fun i => z _ _ rfl rfl rfl) (y _ _ rfl rfl rfl) (y _ _ rfl rfl rfl) (y _ _ rfl rfl rfl) (y _ _ rfl rfl rfl) (y _ _ rfl rfl rfl) (y _ _ rfl rfl rfl) (fun i => y _ _ rfl rfl rfl) (fun i => y _ _ rfl rfl rfl) (fun i => y _ _ rfl rfl rfl) (fun i => y _ _ rfl rfl rfl) (fun i => y _ _ rfl rfl rfl) P
/-- where no place of the rows is written -/
theorem dp_keep0 (T : TH ρ c h) (r0 : ρ x0 = 16) (f : Fr ρ (cat c (SX (fun _ => false) wb wl) h) h o) (D : Dp x0 d b l h) : Dp x0 d b l o := by
  obtain ⟨rb, rl, e1, e2, e3, e4⟩ := D
  obtain ⟨q1, f1, g1⟩ := thR T r0 (i := 33) (k2 := 90) rfl (by decide)
  obtain ⟨q2, f2, g2⟩ := thR T r0 (i := 34) (k2 := 91) rfl (by decide)
  have h1 : ρ rb = 90 := by rw [r_eq f1 e1]; exact g1
  have h2 : ρ rl = 91 := by rw [r_eq f2 e2]; exact g2
  refine ⟨rb, rl, ?_, ?_, ?_, ?_⟩
  · rw [(fr_RI f r0 (by decide) (fun _ => sx_f (Or.inl rfl) rfl (Or.inl rfl) (Or.inl rfl))).2.2]; exact e1
  · rw [(fr_RI f r0 (by decide) (fun _ => sx_f (Or.inl rfl) rfl (Or.inl rfl) (Or.inl rfl))).2.2]; exact e2
  · rw [(fr_RI f h1 (by decide) (fun _ => sx_f (Or.inr rfl) rfl (Or.inl rfl) (Or.inl rfl))).2.2]; exact e3
  · rw [(fr_RI f h2 (by decide) (fun _ => sx_f (Or.inr rfl) rfl (Or.inl rfl) (Or.inl rfl))).2.2]; exact e4
def DW (x0 : Nat) (h : Hp) : Prop := SqOk x0 h ∧ DpP x0 h
theorem dw_keep0 (T : TH ρ c h) (r0 : ρ x0 = 16) (f : Fr ρ (cat c (SX (fun _ => false) wb wl) h) h o) (W : DW x0 h) : DW x0 o := by
  refine ⟨sq_fr T r0 f (fun _ => sx_f (Or.inl rfl) rfl (Or.inl rfl) (Or.inl rfl)) (fun _ => sx_f (Or.inl rfl) rfl (Or.inl rfl) (Or.inl rfl)) (fun _ => sx_f (Or.inl rfl) rfl (Or.inl rfl) (Or.inl rfl)) W.1, fun rb rl e1 e2 d b e3 => ?_⟩
  rw [(fr_RI f r0 (by decide) (fun _ => sx_f (Or.inl rfl) rfl (Or.inl rfl) (Or.inl rfl))).2.2] at e1 e2
  obtain ⟨q1, f1, g1⟩ := thR T r0 (i := 33) (k2 := 90) rfl (by decide)
  obtain ⟨q2, f2, g2⟩ := thR T r0 (i := 34) (k2 := 91) rfl (by decide)
  have h1 : ρ rb = 90 := by rw [r_eq f1 e1]; exact g1
  have h2 : ρ rl = 91 := by rw [r_eq f2 e2]; exact g2
  rw [(fr_RI f h1 (by decide) (fun _ => sx_f (Or.inr rfl) rfl (Or.inl rfl) (Or.inl rfl))).2.2] at e3
  obtain ⟨l, e4⟩ := W.2 rb rl e1 e2 d b e3
  exact ⟨l, by rw [(fr_RI f h2 (by decide) (fun _ => sx_f (Or.inr rfl) rfl (Or.inl rfl) (Or.inl rfl))).2.2]; exact e4⟩
end
/-! calls that make things -/
abbrev MkI (ρ : Nat → Nat) (c : Cm) (lo hi : Int) (P : Hp → Prop) : Int32 × Hp → Prop := fun o => ∃ ρ' c', Ext ρ c ρ' c' ∧ TH ρ' c' o.2 ∧ Rg lo hi o.1 ∧ P o.2
abbrev MkV (ρ : Nat → Nat) (c : Cm) (P : Hp → Prop) : Hp → Prop := fun o => ∃ ρ' c', Ext ρ c ρ' c' ∧ TH ρ' c' o ∧ P o
section
variable {ρ ρ1 : Nat → Nat} {c c1 : Cm} {β : Type} {Q : β → Prop} {h : Hp} {S : Nat → Nat → Nat → Bool} {lo hi : Int} {P : Hp → Prop}
theorem s_mI {m : Option (Int32 × Hp)} {k : Int32 × Hp → Option β} (T : TH ρ c h) (hs : ∀ k w i, S k w i = true → cPm c k w i = true) (Z : Sat m (MkI ρ (cat c S h) lo hi P)) (H : ∀ o ρ1 c1, Ext ρ c ρ1 c1 → TH ρ1 c1 o.2 → Fr ρ (cat c S h) h o.2 → Rg lo hi o.1 → P o.2 → Sat (k o) Q) : Sat (cl m k) Q :=
  s_mk (g := fun (o : Int32 × Hp) => o.2) (P := fun (o : Int32 × Hp) (_ : Nat → Nat) (_ : Cm) => Rg lo hi o.1 ∧ P o.2) T hs Z (fun _ _ _ _ _ p => p) (fun o ρ1 c1 X T1 f p => H o ρ1 c1 X T1 f p.1 p.2)
theorem s_mV {m : Option Hp} {k : Hp → Option β} (T : TH ρ c h) (hs : ∀ k w i, S k w i = true → cPm c k w i = true) (Z : Sat m (MkV ρ (cat c S h) P)) (H : ∀ o ρ1 c1, Ext ρ c ρ1 c1 → TH ρ1 c1 o → Fr ρ (cat c S h) h o → P o → Sat (k o) Q) : Sat (cl m k) Q :=
  s_mk (g := fun (o : Hp) => o) (P := fun (o : Hp) (_ : Nat → Nat) (_ : Cm) => P o) T hs Z (fun _ _ _ _ _ p => p) (fun o ρ1 c1 X T1 f p => H o ρ1 c1 X T1 f p)
theorem mI_ext {m : Option (Int32 × Hp)} (X : Ext ρ c ρ1 c1) (Z : Sat m (MkI ρ1 c1 lo hi P)) : Sat m (MkI ρ c lo hi P) := s_imp Z (fun o ⟨ρ2, c2, Y, z⟩ => ⟨ρ2, c2, ex_t X Y, z⟩)
theorem mV_ext {m : Option Hp} (X : Ext ρ c ρ1 c1) (Z : Sat m (MkV ρ1 c1 P)) : Sat m (MkV ρ c P) := s_imp Z (fun o ⟨ρ2, c2, Y, z⟩ => ⟨ρ2, c2, ex_t X Y, z⟩)
theorem ex_hp (X : Ext ρ c ρ1 c1) (hp : ∀ k w i, S k w i = true → cPm c k w i = true) : ∀ k w i, S k w i = true → cPm c1 k w i = true := fun k w i m => ex_p X (hp k w i m)
end
/-- a board that stands is read -/
theorem deep_read {ρ : Nat → Nat} {c : Cm} {h : Hp} {x0 b l : Nat} {x1 : Int32} (T : TH ρ c h) (r0 : ρ x0 = 16) (i1 : Rg 0 9 x1) (D : Dp x0 x1.toNatClampNeg b l h) : sX15_deepBoard h x0 x1 = some (b, h) := by
  obtain ⟨rb, rl, e1, e2, e3, e4⟩ := D
  obtain ⟨q1, f1, g1⟩ := thR T r0 (i := 33) (k2 := 90) rfl (by decide)
  have h1 : ρ rb = 90 := by rw [r_eq f1 e1]; exact g1
  have g : inB x1 (hN h rb) := by rw [thN T h1 (k := 90) (n := 10) rfl (by decide)]; exact rg_inB i1 (by decide)
  unfold sX15_deepBoard sX15_deepBoard_35
  rw [e1]
  show (gd (inB x1 (hN h rb)) <| onr (hR h rb x1.toNatClampNeg) _ _) = _
  rw [e3]
  unfold gd
  rw [if_pos g]
  show (if inB x1 (hN h rb) then (cl (hR h rb x1.toNatClampNeg) fun r_3 => some (r_3, h)) else none) = _
  rw [if_pos g, e3]
  rfl
/-- the board at a depth, made where it is wanting -/
theorem deepB {ρ : Nat → Nat} {c : Cm} {h : Hp} {x0 : Nat} {x1 : Int32} (h9 : (∀ w, cPm c 90 w x1.toNatClampNeg = true) ∧ ∀ w, cPm c 91 w x1.toNatClampNeg = true) (T : TH ρ c h) (r0 : ρ x0 = 16) (i1 : Rg 0 9 x1) (W : DW x0 h) : Sat (sX15_deepBoard h x0 x1) (fun o => ∃ ρ' c', Ext ρ c ρ' c' ∧ TH ρ' c' o.2 ∧ DW x0 o.2 ∧ ∃ l, Dp x0 x1.toNatClampNeg o.1 l o.2) := by
  obtain ⟨r, er, qr⟩ := thR T r0 (i := 33) (k2 := 90) rfl (by decide)
  obtain ⟨m, em, qm⟩ := thR T r0 (i := 34) (k2 := 91) rfl (by decide)
  have t1 : h.1 = c.1 := T.1.1
  cases q : hR h r x1.toNatClampNeg with
  | none =>
    unfold sX15_deepBoard
    refine s_ref er ?_
    refine s_gd (by rw [thN T qr (k := 90) (n := 10) rfl (by decide)]; exact rg_inB i1 (by decide)) ?_
    rw [q]
    show Sat (cl (hR h x0 33) _) _
    refine s_ref er ?_
    refine s_q (fun a ea => ?_)
    refine s_q (fun h8 e8 => ?_)
    subst ea
    subst e8
    unfold sX15_deepBoard_17 sX15_deepBoard_21 sX15_deepBoard_30 sX15_deepBoard_34 sX15_deepBoard_35
    refine s_cl (s_imp (newBoard T (3500 + x1.toNatClampNeg)) (fun o1 ho => ?_))
    obtain ⟨ρ1, c1, X1, T1, a1, w1, O1⟩ := ho
    have r01 := ex_r X1 r0 (by decide)
    have qr1 := ex_r X1 qr (by decide)
    have qm1 := ex_r X1 qm (by decide)
    have lt1 : ∀ x k, ρ x = k → k ≠ 0 → x < h.1.1 := fun x k hx hk => by rw [t1]; exact T.2.1.2.2.1 x (by rw [hx]; exact hk)
    have lt0 := lt1 x0 _ r0 (by decide)
    have er1 : hR o1 x0 33 = some r := by rw [(O1 x0 lt0).2.2.1]; exact er
    have em1 : hR o1 x0 34 = some m := by rw [(O1 x0 lt0).2.2.1]; exact em
    refine s_gd (by rw [thN T1 qr1 (k := 90) (n := 10) rfl (by decide)]; exact rg_inB i1 (by decide)) ?_
    refine s_q (fun h2 e2 => ?_)
    have T2 : TH ρ1 c1 h2 := by
      rw [e2]
      exact th_wRe T1 qr1 (k2 := 13) rfl (by decide) a1 (by decide) (by decide) rfl rfl rfl w1 (ex_p X1 (h9.1 _))
    have er2 : hR h2 x0 33 = some r := by rw [e2, r_R, if_neg (ne_r r01 qr1 (by decide))]; exact er1
    have em2 : hR h2 x0 34 = some m := by rw [e2, r_R, if_neg (ne_r r01 qr1 (by decide))]; exact em1
    have rr2 : ∀ j, hR h2 r j = if j = x1.toNatClampNeg then some (hS h) else hR h r j := fun j => by
      rw [e2, r_R]
      by_cases z : j = x1.toNatClampNeg
      · rw [if_pos ⟨rfl, z⟩, if_pos z]
      · rw [if_neg (fun y => z y.2), if_neg z, (O1 r (lt1 r _ qr (by decide))).2.2.1]
    have mm2 : ∀ j, hR h2 m j = hR h m j := fun j => by
      rw [e2, r_R, if_neg (ne_r qm1 qr1 (by decide)), (O1 m (lt1 m _ qm (by decide))).2.2.1]
    have ii2 : ∀ j, hI h2 x0 j = hI h x0 j := fun j => by rw [e2]; exact (O1 x0 lt0).1 j
    refine s_ref em2 ?_
    refine s_q (fun b eb => ?_)
    refine s_q (fun h5 e5 => ?_)
    subst eb
    subst e5
    refine s_cl (s_imp (newMoves T2 (3600 + x1.toNatClampNeg)) (fun o3 ho3 => ?_))
    obtain ⟨ρ3, c3, X3, T3, a3, w3, O3⟩ := ho3
    have r03 := ex_r X3 r01 (by decide)
    have qr3 := ex_r X3 qr1 (by decide)
    have qm3 := ex_r X3 qm1 (by decide)
    have t2 : h2.1 = c1.1 := T2.1.1
    have lt2 : ∀ x k, ρ1 x = k → k ≠ 0 → x < h2.1.1 := fun x k hx hk => by rw [t2]; exact T2.2.1.2.2.1 x (by rw [hx]; exact hk)
    have er3 : hR o3 x0 33 = some r := by rw [(O3 x0 (lt2 x0 _ r01 (by decide))).2.2.1]; exact er2
    have em3 : hR o3 x0 34 = some m := by rw [(O3 x0 (lt2 x0 _ r01 (by decide))).2.2.1]; exact em2
    refine s_gd (by rw [thN T3 qm3 (k := 91) (n := 10) rfl (by decide)]; exact rg_inB i1 (by decide)) ?_
    refine s_q (fun h6 e6 => ?_)
    have T6 : TH ρ3 c3 h6 := by
      rw [e6]
      exact th_wRe T3 qm3 (k2 := 14) rfl (by decide) a3 (by decide) (by decide) rfl rfl rfl w3 (ex_p (ex_t X1 X3) (h9.2 _))
    have er6 : hR h6 x0 33 = some r := by rw [e6, r_R, if_neg (ne_r r03 qm3 (by decide))]; exact er3
    have em6 : hR h6 x0 34 = some m := by rw [e6, r_R, if_neg (ne_r r03 qm3 (by decide))]; exact em3
    have rr6 : ∀ j, hR h6 r j = if j = x1.toNatClampNeg then some (hS h) else hR h r j := fun j => by
      rw [e6, r_R, if_neg (ne_r qr3 qm3 (by decide)), (O3 r (lt2 r _ qr1 (by decide))).2.2.1]; exact rr2 j
    have mm6 : ∀ j, hR h6 m j = if j = x1.toNatClampNeg then some (hS h2) else hR h m j := fun j => by
      rw [e6, r_R]
      by_cases z : j = x1.toNatClampNeg
      · rw [if_pos ⟨rfl, z⟩, if_pos z]
      · rw [if_neg (fun y => z y.2), if_neg z, (O3 m (lt2 m _ qm1 (by decide))).2.2.1]; exact mm2 j
    have ii6 : ∀ j, hI h6 x0 j = hI h x0 j := fun j => by rw [e6]; exact ((O3 x0 (lt2 x0 _ r01 (by decide))).1 j).trans (ii2 j)
    have ee6 : hR h6 r x1.toNatClampNeg = some (hS h) := by rw [rr6, if_pos rfl]
    refine s_ref er6 ?_
    refine s_gd (by rw [thN T6 qr3 (k := 90) (n := 10) rfl (by decide)]; exact rg_inB i1 (by decide)) ?_
    refine s_ref ee6 (s_some ⟨ρ3, c3, ex_t X1 X3, T6, ⟨?_, ?_⟩, hS h2, r, m, er6, em6, ee6, by rw [mm6, if_pos rfl]⟩)
    · show (hI h6 x0 13).toInt = (hI h6 x0 11).toInt * (hI h6 x0 12).toInt
      rw [ii6, ii6, ii6]; exact W.1
    · intro rb rl g1 g2 d b g3
      have y1 : rb = r := r_eq er6 g1
      have y2 : rl = m := r_eq em6 g2
      rw [y1, rr6] at g3
      rw [y2, mm6]
      by_cases z : d = x1.toNatClampNeg
      · rw [if_pos z]; exact ⟨_, rfl⟩
      · rw [if_neg z] at g3 ⊢
        exact W.2 r m er em d b g3
  | some b =>
    obtain ⟨l, el⟩ := W.2 r m er em _ b q
    have D : Dp x0 x1.toNatClampNeg b l h := ⟨r, m, er, em, q, el⟩
    exact ⟨(b, h), deep_read T r0 i1 D, ρ, c, ex_0, T, W, l, D⟩
section
variable {ρ : Nat → Nat} {c : Cm} {β : Type} {Q : β → Prop} {h : Hp} {x0 : Nat} {x1 : Int32} {p wb wl : Nat → Bool}
/-- the same, in a walk -/
theorem s_deep {k : Nat × Hp → Option β} (hp : ∀ k w i, SX p wb wl k w i = true → cPm c k w i = true) (hi : p x1.toNatClampNeg = true) (T : TH ρ c h) (r0 : ρ x0 = 16) (i1 : Rg 0 9 x1) (W : DW x0 h) (H : ∀ o ρ1 c1 l, Ext ρ c ρ1 c1 → TH ρ1 c1 o.2 → Fr ρ (cat c (SX (is x1.toNatClampNeg) no no) h) h o.2 → DW x0 o.2 → Dp x0 x1.toNatClampNeg o.1 l o.2 → Sat (k o) Q) : Sat (cl (sX15_deepBoard h x0 x1) k) Q :=
  s_mk (g := fun (o : Nat × Hp) => o.2) (P := fun (o : Nat × Hp) (_ : Nat → Nat) (_ : Cm) => DW x0 o.2 ∧ ∃ l, Dp x0 x1.toNatClampNeg o.1 l o.2) T (fun k w i m => hp k w i (sx_sub (fun i hi' => by rw [is_e hi']; exact hi) (fun _ z => no_f z) (fun _ z => no_f z) m))
    (deepB (sx9 (sx_c (SX (is x1.toNatClampNeg) no no)) is_s) (th_in _ T) r0 i1 W) (fun _ _ _ _ _ p => p) (fun o ρ1 c1 X T1 f ⟨p1, l, p2⟩ => H o ρ1 c1 l X T1 f p1 p2)
theorem s_deep0 {k : Nat × Hp → Option β} {b l : Nat} (T : TH ρ c h) (r0 : ρ x0 = 16) (i1 : Rg 0 9 x1) (D : Dp x0 x1.toNatClampNeg b l h) (H : Sat (k (b, h)) Q) : Sat (cl (sX15_deepBoard h x0 x1) k) Q := s_val (deep_read T r0 i1 D) H
/-- the list at a depth is read -/
theorem s_list {k : Nat → Option β} {b l : Nat} (T : TH ρ c h) (r0 : ρ x0 = 16) (i1 : Rg 0 9 x1) (D : Dp x0 x1.toNatClampNeg b l h) (H : Sat (k l) Q) : Sat (cl (hR h x0 34) fun r_1 => gd (inB x1 (hN h r_1)) <| cl (hR h r_1 x1.toNatClampNeg) k) Q := by
  obtain ⟨rb, rl, e1, e2, e3, e4⟩ := D
  obtain ⟨q2, f2, g2⟩ := thR T r0 (i := 34) (k2 := 91) rfl (by decide)
  have h2 : ρ rl = 91 := by rw [r_eq f2 e2]; exact g2
  refine s_ref e2 ?_
  refine s_gd (by rw [thN T h2 (k := 91) (n := 10) rfl (by decide)]; exact rg_inB i1 (by decide)) ?_
  exact s_ref e4 H
end
