section
/-! boards and lists at a depth (reference) -/
def bpL : List (Nat × Nat) := [(62, 999), (63, 999), (64, 999), (65, 999), (13, 1), (13, 2), (13, 3), (13, 7)]
def mpL : List (Nat × Nat) := [(66, 999), (67, 999), (68, 999), (69, 999), (70, 999), (71, 999), (72, 999), (14, 0)]
def saL : List (Nat × Nat) := [(87, 999), (88, 999), (89, 999), (16, 23), (16, 24), (16, 29)]
/-- what is written: places of the rows of depths, boards and lists by their holders -/
def SX (p wb wl : Nat → Bool) (k w i : Nat) : Bool := (((k == 90 || k == 91) && p i) || mS saL k i) || ((mS bpL k i && wb w) || (mS mpL k i && wl w))
theorem sx_sub {p wb wl p' wb' wl' : Nat → Bool} (h1 : ∀ i, p i = true → p' i = true) (h2 : ∀ i, wb i = true → wb' i = true) (h3 : ∀ i, wl i = true → wl' i = true) {k w i : Nat} (m : SX p wb wl k w i = true) : SX p' wb' wl' k w i = true := by
  unfold SX at m ⊢
  rw [Bool.or_eq_true, Bool.or_eq_true, Bool.or_eq_true, Bool.and_eq_true, Bool.and_eq_true, Bool.and_eq_true] at m ⊢
  rcases m with (⟨a, b⟩ | a) | (⟨a, b⟩ | ⟨a, b⟩)
  · exact Or.inl (Or.inl ⟨a, h1 _ b⟩)
  · exact Or.inl (Or.inr a)
  · exact Or.inr (Or.inl ⟨a, h2 _ b⟩)
  · exact Or.inr (Or.inr ⟨a, h3 _ b⟩)
theorem sx_f {p wb wl : Nat → Bool} {k w i : Nat} (h1 : (k == 90 || k == 91) = false ∨ p i = false) (h2 : mS saL k i = false) (h3 : mS bpL k i = false ∨ wb w = false) (h4 : mS mpL k i = false ∨ wl w = false) : SX p wb wl k w i = false := by
  unfold SX
  have a1 : ((k == 90 || k == 91) && p i) = false := by
    rcases h1 with h | h
    · rw [h]; rfl
    · rw [h, Bool.and_false]
  have a3 : (mS bpL k i && wb w) = false := by
    rcases h3 with h | h
    · rw [h]; rfl
    · rw [h, Bool.and_false]
  have a4 : (mS mpL k i && wl w) = false := by
    rcases h4 with h | h
    · rw [h]; rfl
    · rw [h, Bool.and_false]
  rw [a1, h2, a3, a4]; rfl
abbrev no : Nat → Bool := fun _ => false
theorem no_f {i : Nat} {P : Prop} (z : no i = true) : P := absurd z Bool.false_ne_true
def is (n : Nat) : Nat → Bool := fun w => w == n
theorem is_s {n : Nat} : is n n = true := beq_self_eq_true n
theorem is_e {n w : Nat} (h : is n w = true) : w = n := beq_iff_eq.mp h
theorem is_f {n w : Nat} (h : w ≠ n) : is n w = false := beq_eq_false_iff_ne.mpr h
section
variable {ρ : Nat → Nat} {c : Cm} {h o : Hp} {p wb wl : Nat → Bool} {x0 d b l w : Nat}
theorem sxA (hp : ∀ k w i, SX p wb wl k w i = true → cPm c k w i = true) : pmA c saL := fun w k i m => hp k w i (by unfold SX; rw [m, Bool.or_true, Bool.true_or])
theorem sxB (hp : ∀ k w i, SX p wb wl k w i = true → cPm c k w i = true) (hw : wb w = true) : pmO c w bpL := fun k i m => hp k w i (by unfold SX; rw [m, hw, Bool.and_true, Bool.true_or, Bool.or_true])
theorem sxM (hp : ∀ k w i, SX p wb wl k w i = true → cPm c k w i = true) (hw : wl w = true) : pmO c w mpL := fun k i m => hp k w i (by unfold SX; rw [m, hw, Bool.and_true, Bool.or_true, Bool.or_true])
theorem sx9 (hp : ∀ k w i, SX p wb wl k w i = true → cPm c k w i = true) {i : Nat} (hi : p i = true) : (∀ w, cPm c 90 w i = true) ∧ ∀ w, cPm c 91 w i = true := ⟨fun w => hp 90 w i (by unfold SX; rw [hi]; rfl), fun w => hp 91 w i (by unfold SX; rw [hi]; rfl)⟩
theorem sx_c (S : Nat → Nat → Nat → Bool) : ∀ k w i, S k w i = true → cPm (cat c S h) k w i = true := fun _ _ _ m => m
def Dp (x0 d b l : Nat) (h : Hp) : Prop := ∃ rb rl, hR h x0 33 = some rb ∧ hR h x0 34 = some rl ∧ hR h rb d = some b ∧ hR h rl d = some l
/-- where there is a board, there is a list -/
def DpP (x0 : Nat) (h : Hp) : Prop := ∀ rb rl, hR h x0 33 = some rb → hR h x0 34 = some rl → ∀ d b, hR h rb d = some b → ∃ l, hR h rl d = some l
theorem dp_r (T : TH ρ c h) (r0 : ρ x0 = 16) (D : Dp x0 d b l h) : ρ b = 13 ∧ ρ l = 14 ∧ cw c b = 3500 + d ∧ cw c l = 3600 + d := by
  obtain ⟨rb, rl, e1, e2, e3, e4⟩ := D
  obtain ⟨q1, f1, g1⟩ := thR T r0 (i := 33) (k2 := 90) rfl (by decide)
  obtain ⟨q2, f2, g2⟩ := thR T r0 (i := 34) (k2 := 91) rfl (by decide)
  have h1 : ρ rb = 90 := by rw [r_eq f1 e1]; exact g1
  have h2 : ρ rl = 91 := by rw [r_eq f2 e2]; exact g2
  exact ⟨thRn T h1 (k2 := 13) rfl (by decide) e3, thRn T h2 (k2 := 14) rfl (by decide) e4, th_id T h1 (w := 3500 + d) e3 rfl (by omega), th_id T h2 (w := 3600 + d) e4 rfl (by omega)⟩
theorem dp_keep (T : TH ρ c h) (r0 : ρ x0 = 16) (f : Fr ρ (cat c (SX p wb wl) h) h o) (hp : p d = false) (hb : wb (3500 + d) = false) (hl : wl (3600 + d) = false) (D : Dp x0 d b l h) : Dp x0 d b l o ∧ hI o l 0 = hI h l 0 ∧ (PE b h → PE b o) ∧ (MvB x0 b l h → MvB x0 b l o) := by
  obtain ⟨rb, rl, e1, e2, e3, e4⟩ := D
  obtain ⟨q1, f1, g1⟩ := thR T r0 (i := 33) (k2 := 90) rfl (by decide)
  obtain ⟨q2, f2, g2⟩ := thR T r0 (i := 34) (k2 := 91) rfl (by decide)
  have h1 : ρ rb = 90 := by rw [r_eq f1 e1]; exact g1
  have h2 : ρ rl = 91 := by rw [r_eq f2 e2]; exact g2
  obtain ⟨k1, k2, k3, k4⟩ := dp_r T r0 (d := d) (b := b) (l := l) ⟨rb, rl, e1, e2, e3, e4⟩
  refine ⟨⟨rb, rl, ?_, ?_, ?_, ?_⟩, ?_, fun P => ?_, fun P => ?_⟩
  · rw [(fr_RI f r0 (by decide) (fun _ => sx_f (Or.inl rfl) rfl (Or.inl rfl) (Or.inl rfl))).2.2]; exact e1
  · rw [(fr_RI f r0 (by decide) (fun _ => sx_f (Or.inl rfl) rfl (Or.inl rfl) (Or.inl rfl))).2.2]; exact e2
  · rw [(fr_RI f h1 (by decide) (fun _ => sx_f (Or.inr hp) rfl (Or.inl rfl) (Or.inl rfl))).2.2]; exact e3
  · rw [(fr_RI f h2 (by decide) (fun _ => sx_f (Or.inr hp) rfl (Or.inl rfl) (Or.inl rfl))).2.2]; exact e4
  · exact fr_I f k2 (by decide) k4 (sx_f (Or.inl rfl) rfl (Or.inl rfl) (Or.inr hl))
  · have z : ∀ k i, mS saL k i = false → mS mpL k i = false → (k == 90 || k == 91) = false → SX p wb wl k (cw c b) i = false := fun k i a1 a2 a3 => sx_f (Or.inl a3) a1 (Or.inr (by rw [k3]; exact hb)) (Or.inl a2)
    exact pe_fr T k1 f (z _ _ rfl rfl rfl) (z _ _ rfl rfl rfl) (z _ _ rfl rfl rfl) (fun i => z _ _ rfl rfl rfl) (fun i => z _ _ rfl rfl rfl) P
  · have z : ∀ k i, mS saL k i = false → mS mpL k i = false → (k == 90 || k == 91) = false → SX p wb wl k (cw c b) i = false := fun k i a1 a2 a3 => sx_f (Or.inl a3) a1 (Or.inr (by rw [k3]; exact hb)) (Or.inl a2)
    have y : ∀ k i, mS saL k i = false → mS bpL k i = false → (k == 90 || k == 91) = false → SX p wb wl k (cw c l) i = false := fun k i a1 a2 a3 => sx_f (Or.inl a3) a1 (Or.inl a2) (Or.inr (by rw [k4]; exact hl))
    exact mv_fr T r0 k1 k2 f (fun _ => sx_f (Or.inl rfl) rfl (Or.inl rfl) (Or.inl rfl)) (fun _ => sx_f (Or.inl rfl) rfl (Or.inl rfl) (Or.inl rfl)) (z _ _ rfl rfl rfl) (z _ _ rfl rfl rfl) (z _ _ rfl rfl rfl) (fun i => z _ _ rfl rfl rfl) (fun i => z _ _ rfl rfl rfl) (y _ _ rfl rfl rfl) (y _ _ rfl rfl rfl) (y _ _ rfl rfl rfl) (y _ _ rfl rfl rfl) (y _ _ rfl rfl rfl) (y _ _ rfl rfl rfl) (fun i => y _ _ rfl rfl rfl) (fun i => y _ _ rfl rfl rfl) (fun i => y _ _ rfl rfl rfl) (fun i => y _ _ rfl rfl rfl) (fun i => y _ _ rfl rfl rfl) P
/-- where no place of the rows is written -/
theorem dp_keep0 (T : TH ρ c h) (r0 : ρ x0 = 16) (f : Fr ρ (cat c (SX (fun _ => false) wb wl) h) h o) (D : Dp x0 d b l h) : Dp x0 d b l o := by
  obtain ⟨rb, rl, e1, e2, e3, e4⟩ := D
  obtain ⟨q1, f1, g1⟩ := thR T r0 (i := 33) (k2 := 90) rfl (by decide)
  obtain ⟨q2, f2, g2⟩ := thR T r0 (i := 34) (k2 := 91) rfl (by decide)
  have h1 : ρ rb = 90 := by rw [r_eq f1 e1]; exact g1
  have h2 : ρ rl = 91 := by rw [r_eq f2 e2]; exact g2
  refine ⟨rb, rl, ?_, ?_, ?_, ?_⟩
  · rw [(fr_RI f r0 (by decide) (fun _ => sx_f (Or.inl rfl) rfl (Or.inl rfl) (Or.inl rfl))).2.2]; exact e1
  · rw [(fr_RI f r0 (by decide) (fun _ => sx_f (Or.inl rfl) rfl (Or.inl rfl) (Or.inl rfl))).2.2]; exact e2
  · rw [(fr_RI f h1 (by decide) (fun _ => sx_f (Or.inr rfl) rfl (Or.inl rfl) (Or.inl rfl))).2.2]; exact e3
  · rw [(fr_RI f h2 (by decide) (fun _ => sx_f (Or.inr rfl) rfl (Or.inl rfl) (Or.inl rfl))).2.2]; exact e4
def DW (x0 : Nat) (h : Hp) : Prop := SqOk x0 h ∧ DpP x0 h
theorem dw_keep0 (T : TH ρ c h) (r0 : ρ x0 = 16) (f : Fr ρ (cat c (SX (fun _ => false) wb wl) h) h o) (W : DW x0 h) : DW x0 o := by
  refine ⟨sq_fr T r0 f (fun _ => sx_f (Or.inl rfl) rfl (Or.inl rfl) (Or.inl rfl)) (fun _ => sx_f (Or.inl rfl) rfl (Or.inl rfl) (Or.inl rfl)) (fun _ => sx_f (Or.inl rfl) rfl (Or.inl rfl) (Or.inl rfl)) W.1, fun rb rl e1 e2 d b e3 => ?_⟩
  rw [(fr_RI f r0 (by decide) (fun _ => sx_f (Or.inl rfl) rfl (Or.inl rfl) (Or.inl rfl))).2.2] at e1 e2
  obtain ⟨q1, f1, g1⟩ := thR T r0 (i := 33) (k2 := 90) rfl (by decide)
  obtain ⟨q2, f2, g2⟩ := thR T r0 (i := 34) (k2 := 91) rfl (by decide)
  have h1 : ρ rb = 90 := by rw [r_eq f1 e1]; exact g1
  have h2 : ρ rl = 91 := by rw [r_eq f2 e2]; exact g2
  rw [(fr_RI f h1 (by decide) (fun _ => sx_f (Or.inr rfl) rfl (Or.inl rfl) (Or.inl rfl))).2.2] at e3
  obtain ⟨l, e4⟩ := W.2 rb rl e1 e2 d b e3
  exact ⟨l, by rw [(fr_RI f h2 (by decide) (fun _ => sx_f (Or.inr rfl) rfl (Or.inl rfl) (Or.inl rfl))).2.2]; exact e4⟩
end
/-! calls that make things -/
abbrev MkI (ρ : Nat → Nat) (c : Cm) (lo hi : Int) (P : Hp → Prop) : Int32 × Hp → Prop := fun o => ∃ ρ' c', Ext ρ c ρ' c' ∧ TH ρ' c' o.2 ∧ Rg lo hi o.1 ∧ P o.2
abbrev MkV (ρ : Nat → Nat) (c : Cm) (P : Hp → Prop) : Hp → Prop := fun o => ∃ ρ' c', Ext ρ c ρ' c' ∧ TH ρ' c' o ∧ P o
section
variable {ρ ρ1 : Nat → Nat} {c c1 : Cm} {β : Type} {Q : β → Prop} {h : Hp} {S : Nat → Nat → Nat → Bool} {lo hi : Int} {P : Hp → Prop}
theorem s_mI {m : Option (Int32 × Hp)} {k : Int32 × Hp → Option β} (T : TH ρ c h) (hs : ∀ k w i, S k w i = true → cPm c k w i = true) (Z : Sat m (MkI ρ (cat c S h) lo hi P)) (H : ∀ o ρ1 c1, Ext ρ c ρ1 c1 → TH ρ1 c1 o.2 → Fr ρ (cat c S h) h o.2 → Rg lo hi o.1 → P o.2 → Sat (k o) Q) : Sat (cl m k) Q :=
  s_mk (g := fun (o : Int32 × Hp) => o.2) (P := fun (o : Int32 × Hp) (_ : Nat → Nat) (_ : Cm) => Rg lo hi o.1 ∧ P o.2) T hs Z (fun _ _ _ _ _ p => p) (fun o ρ1 c1 X T1 f p => H o ρ1 c1 X T1 f p.1 p.2)
theorem s_mV {m : Option Hp} {k : Hp → Option β} (T : TH ρ c h) (hs : ∀ k w i, S k w i = true → cPm c k w i = true) (Z : Sat m (MkV ρ (cat c S h) P)) (H : ∀ o ρ1 c1, Ext ρ c ρ1 c1 → TH ρ1 c1 o → Fr ρ (cat c S h) h o → P o → Sat (k o) Q) : Sat (cl m k) Q :=
  s_mk (g := fun (o : Hp) => o) (P := fun (o : Hp) (_ : Nat → Nat) (_ : Cm) => P o) T hs Z (fun _ _ _ _ _ p => p) (fun o ρ1 c1 X T1 f p => H o ρ1 c1 X T1 f p)
theorem mI_ext {m : Option (Int32 × Hp)} (X : Ext ρ c ρ1 c1) (Z : Sat m (MkI ρ1 c1 lo hi P)) : Sat m (MkI ρ c lo hi P) := s_imp Z (fun o ⟨ρ2, c2, Y, z⟩ => ⟨ρ2, c2, ex_t X Y, z⟩)
theorem mV_ext {m : Option Hp} (X : Ext ρ c ρ1 c1) (Z : Sat m (MkV ρ1 c1 P)) : Sat m (MkV ρ c P) := s_imp Z (fun o ⟨ρ2, c2, Y, z⟩ => ⟨ρ2, c2, ex_t X Y, z⟩)
theorem ex_hp (X : Ext ρ c ρ1 c1) (hp : ∀ k w i, S k w i = true → cPm c k w i = true) : ∀ k w i, S k w i = true → cPm c1 k w i = true := fun k w i m => ex_p X (hp k w i m)
end
/-- a board that stands is read -/
theorem deep_read {ρ : Nat → Nat} {c : Cm} {h : Hp} {x0 b l : Nat} {x1 : Int32} (T : TH ρ c h) (r0 : ρ x0 = 16) (i1 : Rg 0 9 x1) (D : Dp x0 x1.toNatClampNeg b l h) : sX15_deepBoard h x0 x1 = some (b, h) := by
  obtain ⟨rb, rl, e1, e2, e3, e4⟩ := D
  obtain ⟨q1, f1, g1⟩ := thR T r0 (i := 33) (k2 := 90) rfl (by decide)
  have h1 : ρ rb = 90 := by rw [r_eq f1 e1]; exact g1
  have g : inB x1 (hN h rb) := by rw [thN T h1 (k := 90) (n := 10) rfl (by decide)]; exact rg_inB i1 (by decide)
  unfold sX15_deepBoard sX15_deepBoard_35
  rw [e1]
  show (gd (inB x1 (hN h rb)) <| onr (hR h rb x1.toNatClampNeg) _ _) = _
  rw [e3]
  unfold gd
  rw [if_pos g]
  show (if inB x1 (hN h rb) then (cl (hR h rb x1.toNatClampNeg) fun r_3 => some (r_3, h)) else none) = _
  rw [if_pos g, e3]
  rfl
/-- the board at a depth, made where it is wanting -/
theorem deepB {ρ : Nat → Nat} {c : Cm} {h : Hp} {x0 : Nat} {x1 : Int32} (h9 : (∀ w, cPm c 90 w x1.toNatClampNeg = true) ∧ ∀ w, cPm c 91 w x1.toNatClampNeg = true) (T : TH ρ c h) (r0 : ρ x0 = 16) (i1 : Rg 0 9 x1) (W : DW x0 h) : Sat (sX15_deepBoard h x0 x1) (fun o => ∃ ρ' c', Ext ρ c ρ' c' ∧ TH ρ' c' o.2 ∧ DW x0 o.2 ∧ ∃ l, Dp x0 x1.toNatClampNeg o.1 l o.2) := by
  obtain ⟨r, er, qr⟩ := thR T r0 (i := 33) (k2 := 90) rfl (by decide)
  obtain ⟨m, em, qm⟩ := thR T r0 (i := 34) (k2 := 91) rfl (by decide)
  have t1 : h.1 = c.1 := T.1.1
  cases q : hR h r x1.toNatClampNeg with
  | none =>
    unfold sX15_deepBoard
    refine s_ref er ?_
    refine s_gd (by rw [thN T qr (k := 90) (n := 10) rfl (by decide)]; exact rg_inB i1 (by decide)) ?_
    rw [q]
    show Sat (cl (hR h x0 33) _) _
    refine s_ref er ?_
    refine s_q (fun a ea => ?_)
    refine s_q (fun h8 e8 => ?_)
    subst ea
    subst e8
    unfold sX15_deepBoard_17 sX15_deepBoard_21 sX15_deepBoard_30 sX15_deepBoard_34 sX15_deepBoard_35
    refine s_cl (s_imp (newBoard T (3500 + x1.toNatClampNeg)) (fun o1 ho => ?_))
    obtain ⟨ρ1, c1, X1, T1, a1, w1, O1⟩ := ho
    have r01 := ex_r X1 r0 (by decide)
    have qr1 := ex_r X1 qr (by decide)
    have qm1 := ex_r X1 qm (by decide)
    have lt1 : ∀ x k, ρ x = k → k ≠ 0 → x < h.1.1 := fun x k hx hk => by rw [t1]; exact T.2.1.2.2.1 x (by rw [hx]; exact hk)
    have lt0 := lt1 x0 _ r0 (by decide)
    have er1 : hR o1 x0 33 = some r := by rw [(O1 x0 lt0).2.2.1]; exact er
    have em1 : hR o1 x0 34 = some m := by rw [(O1 x0 lt0).2.2.1]; exact em
    refine s_gd (by rw [thN T1 qr1 (k := 90) (n := 10) rfl (by decide)]; exact rg_inB i1 (by decide)) ?_
    refine s_q (fun h2 e2 => ?_)
    have T2 : TH ρ1 c1 h2 := by
      rw [e2]
      exact th_wRe T1 qr1 (k2 := 13) rfl (by decide) a1 (by decide) (by decide) rfl rfl rfl w1 (ex_p X1 (h9.1 _))
    have er2 : hR h2 x0 33 = some r := by rw [e2, r_R, if_neg (ne_r r01 qr1 (by decide))]; exact er1
    have em2 : hR h2 x0 34 = some m := by rw [e2, r_R, if_neg (ne_r r01 qr1 (by decide))]; exact em1
    have rr2 : ∀ j, hR h2 r j = if j = x1.toNatClampNeg then some (hS h) else hR h r j := fun j => by
      rw [e2, r_R]
      by_cases z : j = x1.toNatClampNeg
      · rw [if_pos ⟨rfl, z⟩, if_pos z]
      · rw [if_neg (fun y => z y.2), if_neg z, (O1 r (lt1 r _ qr (by decide))).2.2.1]
    have mm2 : ∀ j, hR h2 m j = hR h m j := fun j => by
      rw [e2, r_R, if_neg (ne_r qm1 qr1 (by decide)), (O1 m (lt1 m _ qm (by decide))).2.2.1]
    have ii2 : ∀ j, hI h2 x0 j = hI h x0 j := fun j => by rw [e2]; exact (O1 x0 lt0).1 j
    refine s_ref em2 ?_
    refine s_q (fun b eb => ?_)
    refine s_q (fun h5 e5 => ?_)
    subst eb
    subst e5
    refine s_cl (s_imp (newMoves T2 (3600 + x1.toNatClampNeg)) (fun o3 ho3 => ?_))
    obtain ⟨ρ3, c3, X3, T3, a3, w3, O3⟩ := ho3
    have r03 := ex_r X3 r01 (by decide)
    have qr3 := ex_r X3 qr1 (by decide)
    have qm3 := ex_r X3 qm1 (by decide)
    have t2 : h2.1 = c1.1 := T2.1.1
    have lt2 : ∀ x k, ρ1 x = k → k ≠ 0 → x < h2.1.1 := fun x k hx hk => by rw [t2]; exact T2.2.1.2.2.1 x (by rw [hx]; exact hk)
    have er3 : hR o3 x0 33 = some r := by rw [(O3 x0 (lt2 x0 _ r01 (by decide))).2.2.1]; exact er2
    have em3 : hR o3 x0 34 = some m := by rw [(O3 x0 (lt2 x0 _ r01 (by decide))).2.2.1]; exact em2
    refine s_gd (by rw [thN T3 qm3 (k := 91) (n := 10) rfl (by decide)]; exact rg_inB i1 (by decide)) ?_
    refine s_q (fun h6 e6 => ?_)
    have T6 : TH ρ3 c3 h6 := by
      rw [e6]
      exact th_wRe T3 qm3 (k2 := 14) rfl (by decide) a3 (by decide) (by decide) rfl rfl rfl w3 (ex_p (ex_t X1 X3) (h9.2 _))
    have er6 : hR h6 x0 33 = some r := by rw [e6, r_R, if_neg (ne_r r03 qm3 (by decide))]; exact er3
    have em6 : hR h6 x0 34 = some m := by rw [e6, r_R, if_neg (ne_r r03 qm3 (by decide))]; exact em3
    have rr6 : ∀ j, hR h6 r j = if j = x1.toNatClampNeg then some (hS h) else hR h r j := fun j => by
      rw [e6, r_R, if_neg (ne_r qr3 qm3 (by decide)), (O3 r (lt2 r _ qr1 (by decide))).2.2.1]; exact rr2 j
    have mm6 : ∀ j, hR h6 m j = if j = x1.toNatClampNeg then some (hS h2) else hR h m j := fun j => by
      rw [e6, r_R]
      by_cases z : j = x1.toNatClampNeg
      · rw [if_pos ⟨rfl, z⟩, if_pos z]
      · rw [if_neg (fun y => z y.2), if_neg z, (O3 m (lt2 m _ qm1 (by decide))).2.2.1]; exact mm2 j
    have ii6 : ∀ j, hI h6 x0 j = hI h x0 j := fun j => by rw [e6]; exact ((O3 x0 (lt2 x0 _ r01 (by decide))).1 j).trans (ii2 j)
    have ee6 : hR h6 r x1.toNatClampNeg = some (hS h) := by rw [rr6, if_pos rfl]
    refine s_ref er6 ?_
    refine s_gd (by rw [thN T6 qr3 (k := 90) (n := 10) rfl (by decide)]; exact rg_inB i1 (by decide)) ?_
    refine s_ref ee6 (s_some ⟨ρ3, c3, ex_t X1 X3, T6, ⟨?_, ?_⟩, hS h2, r, m, er6, em6, ee6, by rw [mm6, if_pos rfl]⟩)
    · show (hI h6 x0 13).toInt = (hI h6 x0 11).toInt * (hI h6 x0 12).toInt
      rw [ii6, ii6, ii6]; exact W.1
    · intro rb rl g1 g2 d b g3
      have y1 : rb = r := r_eq er6 g1
      have y2 : rl = m := r_eq em6 g2
      rw [y1, rr6] at g3
      rw [y2, mm6]
      by_cases z : d = x1.toNatClampNeg
      · rw [if_pos z]; exact ⟨_, rfl⟩
      · rw [if_neg z] at g3 ⊢
        exact W.2 r m er em d b g3
  | some b =>
    obtain ⟨l, el⟩ := W.2 r m er em _ b q
    have D : Dp x0 x1.toNatClampNeg b l h := ⟨r, m, er, em, q, el⟩
    exact ⟨(b, h), deep_read T r0 i1 D, ρ, c, ex_0, T, W, l, D⟩
section
variable {ρ : Nat → Nat} {c : Cm} {β : Type} {Q : β → Prop} {h : Hp} {x0 : Nat} {x1 : Int32} {p wb wl : Nat → Bool}
/-- the same, in a walk -/
theorem s_deep {k : Nat × Hp → Option β} (hp : ∀ k w i, SX p wb wl k w i = true → cPm c k w i = true) (hi : p x1.toNatClampNeg = true) (T : TH ρ c h) (r0 : ρ x0 = 16) (i1 : Rg 0 9 x1) (W : DW x0 h) (H : ∀ o ρ1 c1 l, Ext ρ c ρ1 c1 → TH ρ1 c1 o.2 → Fr ρ (cat c (SX (is x1.toNatClampNeg) no no) h) h o.2 → DW x0 o.2 → Dp x0 x1.toNatClampNeg o.1 l o.2 → Sat (k o) Q) : Sat (cl (sX15_deepBoard h x0 x1) k) Q :=
  s_mk (g := fun (o : Nat × Hp) => o.2) (P := fun (o : Nat × Hp) (_ : Nat → Nat) (_ : Cm) => DW x0 o.2 ∧ ∃ l, Dp x0 x1.toNatClampNeg o.1 l o.2) T (fun k w i m => hp k w i (sx_sub (fun i hi' => by rw [is_e hi']; exact hi) (fun _ z => no_f z) (fun _ z => no_f z) m))
    (deepB (sx9 (sx_c (SX (is x1.toNatClampNeg) no no)) is_s) (th_in _ T) r0 i1 W) (fun _ _ _ _ _ p => p) (fun o ρ1 c1 X T1 f ⟨p1, l, p2⟩ => H o ρ1 c1 l X T1 f p1 p2)
theorem s_deep0 {k : Nat × Hp → Option β} {b l : Nat} (T : TH ρ c h) (r0 : ρ x0 = 16) (i1 : Rg 0 9 x1) (D : Dp x0 x1.toNatClampNeg b l h) (H : Sat (k (b, h)) Q) : Sat (cl (sX15_deepBoard h x0 x1) k) Q := s_val (deep_read T r0 i1 D) H
/-- the list at a depth is read -/
theorem s_list {k : Nat → Option β} {b l : Nat} (T : TH ρ c h) (r0 : ρ x0 = 16) (i1 : Rg 0 9 x1) (D : Dp x0 x1.toNatClampNeg b l h) (H : Sat (k l) Q) : Sat (cl (hR h x0 34) fun r_1 => gd (inB x1 (hN h r_1)) <| cl (hR h r_1 x1.toNatClampNeg) k) Q := by
  obtain ⟨rb, rl, e1, e2, e3, e4⟩ := D
  obtain ⟨q2, f2, g2⟩ := thR T r0 (i := 34) (k2 := 91) rfl (by decide)
  have h2 : ρ rl = 91 := by rw [r_eq f2 e2]; exact g2
  refine s_ref e2 ?_
  refine s_gd (by rw [thN T h2 (k := 91) (n := 10) rfl (by decide)]; exact rg_inB i1 (by decide)) ?_
  exact s_ref e4 H
end
end
section
/-! one step at a depth (reference) -/
theorem nc_s {x : Int32} {b : Int} (i : Rg 0 b x) (hb : b ≤ 2147483646) : (x + (1 : Int32)).toNatClampNeg = x.toNatClampNeg + 1 ∧ (x + (1 : Int32)).toInt = x.toInt + 1 := by
  have e := ti_add i (rg_b rfl : Rg 1 1 (1 : Int32)) ⟨by omega, by omega⟩
  have one : (1 : Int32).toInt = 1 := rfl
  have a := i.1
  have p := nc_i a
  have q := nc_i (x := x + (1 : Int32)) (by omega)
  exact ⟨by omega, by omega⟩
theorem bq_ne {a b : Nat} (h : a ≠ b) : (a == b) = false := beq_eq_false_iff_ne.mpr h
section
variable {ρ : Nat → Nat} {c : Cm} {h : Hp} {F x0 b l d : Nat} {x1 x2 : Int32} {p wb wl : Nat → Bool}
theorem dw_wI {i : Nat} {v : Int32} (r0 : ρ x0 = 16) (rb : ρ b = 13) (W : DW x0 h) : DW x0 (wI h b i v) := by
  refine ⟨?_, W.2⟩
  have n : ∀ j, hI (wI h b i v) x0 j = hI h x0 j := fun j => by rw [r_I, if_neg (ne_r r0 rb (by decide))]
  show (hI (wI h b i v) x0 13).toInt = (hI (wI h b i v) x0 11).toInt * (hI (wI h b i v) x0 12).toInt
  rw [n, n, n]; exact W.1
theorem zX15_hasEnded (hF : 700000 ≤ F) (hA : pmA c saL) (T : TH ρ c h) (r0 : ρ x0 = 16) (i1 : Rg 0 9 x1) (D : Dp x0 x1.toNatClampNeg b l h) : Sat (sX15_hasEnded F h x0 x1) (ZI ρ c 0 1) := by
  unfold sX15_hasEnded
  refine s_deep0 T r0 i1 D ?_
  unfold sX15_hasEnded_6
  refine s_list T r0 i1 D ?_
  obtain ⟨k1, k2, k3, k4⟩ := dp_r T r0 D
  refine s_cI (zX15_endedBy hF (pmA_s hA rfl) rfl T r0 k1 (thI T k2 (k := 14) (i := 0) (lo := 0) (hi := 3000) rfl)) (fun o T1 i2 => ?_)
  unfold sX15_hasEnded_18 sX15_hasEnded_26
  exact s_br (fun _ => s_gd (by decide) (s_some ⟨T1, rg_b rfl⟩)) (fun _ => s_gd (by decide) (s_some ⟨T1, rg_b rfl⟩))
theorem zX15_isGoal (hF : 700000 ≤ F) (hA : pmA c saL) (T : TH ρ c h) (r0 : ρ x0 = 16) (i1 : Rg 0 9 x1) (D : Dp x0 x1.toNatClampNeg b l h) : Sat (sX15_isGoal F h x0 x1 x2) (ZI ρ c 0 1) := by
  unfold sX15_isGoal
  refine s_deep0 T r0 i1 D ?_
  unfold sX15_isGoal_5
  refine s_list T r0 i1 D ?_
  obtain ⟨k1, k2, k3, k4⟩ := dp_r T r0 D
  refine s_cI (zX15_endedBy hF (pmA_s hA rfl) rfl T r0 k1 (thI T k2 (k := 14) (i := 0) (lo := 0) (hi := 3000) rfl)) (fun o T1 i2 => ?_)
  unfold sX15_isGoal_20 sX15_isGoal_82 sX15_isGoal_83
  have y : Sat (gd ((0 : Int32) &&& 1 = 0) (some ((0 : Int32), o.2))) (ZI ρ c 0 1) := s_gd (by decide) (s_some ⟨T1, rg_b rfl⟩)
  have z : Sat (gd ((1 : Int32) &&& 1 = 1) (some ((1 : Int32), o.2))) (ZI ρ c 0 1) := s_gd (by decide) (s_some ⟨T1, rg_b rfl⟩)
  exact s_br (fun _ => s_br (fun _ => z) (fun _ => y)) (fun _ => s_br (fun _ => s_br (fun _ => z) (fun _ => y)) (fun _ => s_br (fun _ => y) (fun _ => s_br (fun _ => z) (fun _ => y))))
/-- moves at a depth are listed -/
theorem s_legal {β : Type} {Q : β → Prop} {k : Hp → Option β} (hF : 700000 ≤ F) (hp : ∀ k w i, SX p wb wl k w i = true → cPm c k w i = true) (h1 : wb 2528 = true) (h3 : wl (3600 + d) = true) (T : TH ρ c h) (r0 : ρ x0 = 16) (W : DW x0 h) (D : Dp x0 d b l h) (P : PE b h) (H : ∀ o, TH ρ c o → Fr ρ (cat c (SX no (is 2528) (is (3600 + d))) h) h o → DW x0 o → Dp x0 d b l o → PE b o → MvB x0 b l o → Sat (k o) Q) : Sat (cl (sX15_legal F h x0 b l) k) Q := by
  obtain ⟨k1, k2, k3, k4⟩ := dp_r T r0 D
  have hs : ∀ k w i, SX no (is 2528) (is (3600 + d)) k w i = true → cPm c k w i = true := fun k w i m => hp k w i (sx_sub (fun _ z => no_f z) (fun w z => by rw [is_e z]; exact h1) (fun w z => by rw [is_e z]; exact h3) m)
  refine s_cVfq T hs (zX15_legal hF (pmA_s (sxA (sx_c _)) rfl) (pmO_s (sxB (sx_c _) is_s) rfl) (pmO_s (w := 3600 + d) (sxM (sx_c _) is_s) rfl) k3 k4 (by omega) (th_in _ T) r0 k1 k2 W.1 P) (fun o T1 f mv => ?_)
  have kp := dp_keep0 T r0 f D
  have P1 : PE b o := by
    have z : ∀ k i, mS saL k i = false → mS mpL k i = false → (k == 90 || k == 91) = false → SX no (is 2528) (is (3600 + d)) k (cw c b) i = false := fun k i a1 a2 a3 => sx_f (Or.inl a3) a1 (Or.inr (by rw [k3]; exact is_f (by omega))) (Or.inl a2)
    exact pe_fr T k1 f (z _ _ rfl rfl rfl) (z _ _ rfl rfl rfl) (z _ _ rfl rfl rfl) (fun i => z _ _ rfl rfl rfl) (fun i => z _ _ rfl rfl rfl) P
  exact H o T1 f (dw_keep0 T r0 f W) kp P1 mv
theorem zX15_turnsBack (hF : 700000 ≤ F) (hp : ∀ k w i, SX p wb wl k w i = true → cPm c k w i = true) (h1 : wb 2528 = true) (h2 : wb (3500 + x1.toNatClampNeg) = true) (h3 : wl (3600 + x1.toNatClampNeg) = true) (T : TH ρ c h) (r0 : ρ x0 = 16) (i1 : Rg 0 9 x1) (W : DW x0 h) (D : Dp x0 x1.toNatClampNeg b l h) (P : PE b h) : Sat (sX15_turnsBack F h x0 x1) (fun o => TH ρ c o.2 ∧ Rg 0 1 o.1 ∧ DW x0 o.2 ∧ Dp x0 x1.toNatClampNeg b l o.2 ∧ (¬ o.1 = 0 → PE b o.2)) := by
  unfold sX15_turnsBack
  refine s_deep0 T r0 i1 D ?_
  unfold sX15_turnsBack_5
  refine s_list T r0 i1 D ?_
  refine s_legal hF hp h1 h3 T r0 W D P (fun o T1 _ W1 D1 P1 _ => ?_)
  obtain ⟨k1, k2, k3, k4⟩ := dp_r T1 r0 D1
  unfold sX15_turnsBack_17
  refine s_cI0 (zX15_royalOf hF T1 r0 k1 (thI T1 k1 (k := 13) (i := 1) (lo := 0) (hi := 1) rfl)) (fun o2 e2 i2 => ?_)
  obtain ⟨v2, g2⟩ := o2
  have : g2 = o := e2
  subst this
  unfold sX15_turnsBack_26
  refine s_list T1 r0 i1 D1 ?_
  have hs : ∀ k w i, SX no no no k w i = true → cPm c k w i = true := fun k w i m => hp k w i (sx_sub (fun _ z => no_f z) (fun _ z => no_f z) (fun _ z => no_f z) m)
  refine s_cIf T1 hs (zX15_endedBy hF (pmA_s (sxA (sx_c _)) rfl) rfl (th_in _ T1) r0 k1 (thI T1 k2 (k := 14) (i := 0) (lo := 0) (hi := 3000) rfl)) (fun o3 T3 i3 f3 => ?_)
  have W3 := dw_keep0 T1 r0 f3 W1
  have D3 := dp_keep0 T1 r0 f3 D1
  have e0 : Sat (some ((0 : Int32), o3.2)) (fun o => TH ρ c o.2 ∧ Rg 0 1 o.1 ∧ DW x0 o.2 ∧ Dp x0 x1.toNatClampNeg b l o.2 ∧ (¬ o.1 = 0 → PE b o.2)) := s_some ⟨T3, rg_b rfl, W3, D3, fun z => absurd rfl z⟩
  have e1 : ∀ o3 : Hp, TH ρ c o3 → DW x0 o3 → Dp x0 x1.toNatClampNeg b l o3 → Sat (sX15_turnsBack_66 F o3 b) (fun o => TH ρ c o.2 ∧ Rg 0 1 o.1 ∧ DW x0 o.2 ∧ Dp x0 x1.toNatClampNeg b l o.2 ∧ (¬ o.1 = 0 → PE b o.2)) := fun o3 T3 W3 D3 => by
    unfold sX15_turnsBack_66
    refine s_hq (th_wI T3 k1 (k := 13) (i := 1) (lo := 0) (hi := 1) rfl (rg_sub (rg_b rfl : Rg 1 1 (1 : Int32)) (thI T3 k1 (k := 13) (i := 1) (lo := 0) (hi := 1) rfl) (by decide)) (by decide) (by decide) (by rw [k3]; exact sxB hp h2 13 1 rfl)) (fun g4 T4 e4 => ?_)
    refine s_hq (th_wI T4 k1 (k := 13) (i := 3) (lo := 0) (hi := 64) rfl (rg_b rfl : Rg 0 64 (0 : Int32)) (by decide) (by decide) (by rw [k3]; exact sxB hp h2 13 3 rfl)) (fun g5 T5 e5 => ?_)
    refine s_some ⟨T5, rg_b rfl, ?_, ?_, fun _ => pe_0 (by rw [he_s e5]; rfl)⟩
    · rw [e5, e4]; exact dw_wI r0 k1 (dw_wI r0 k1 W3)
    · rw [e5, e4]; exact D3
  unfold sX15_turnsBack_41 sX15_turnsBack_61 sX15_turnsBack_64
  refine s_br (fun _ => e0) (fun _ => ?_)
  refine s_br (fun _ => e1 _ T3 W3 D3) (fun n => ?_)
  refine s_cIf T3 hs (zX15_isAttacked hF (pmA_s (sxA (sx_c _)) rfl) rfl (th_in _ T3) r0 k1 (rg_nlo n i2 (rg_b rfl : Rg (-1) (-1) (-1 : Int32))) (rg_sub (rg_b rfl : Rg 1 1 (1 : Int32)) (thI T3 k1 (k := 13) (i := 1) (lo := 0) (hi := 1) rfl) (by decide))) (fun o4 T4 i4 f4 => ?_)
  have W4 := dw_keep0 T3 r0 f4 W3
  have D4 := dp_keep0 T3 r0 f4 D3
  exact s_br (fun _ => e1 _ T4 W4 D4) (fun _ => s_some ⟨T4, rg_b rfl, W4, D4, fun z => absurd rfl z⟩)
/-- a move is made at the next depth, and its moves are listed -/
theorem zX15_step (hF : 700000 ≤ F) (hp : ∀ k w i, SX p wb wl k w i = true → cPm c k w i = true) (ed : x1.toNatClampNeg = d) (h0 : p (d + 1) = true) (h1 : wb 2528 = true) (h2 : wb (3500 + (d + 1)) = true) (h3 : wl (3600 + (d + 1)) = true) (T : TH ρ c h) (r0 : ρ x0 = 16) (i1 : Rg 0 8 x1) (W : DW x0 h) (D : Dp x0 d b l h) (P : PE b h) (M : MvB x0 b l h) (i2 : 0 ≤ x2.toInt) (lt : x2.toInt < (hI h l 0).toInt) : Sat (sX15_step F h x0 x1 x2) (MkV ρ c (fun o => DW x0 o ∧ ∃ b' l', Dp x0 (d + 1) b' l' o ∧ PE b' o ∧ MvB x0 b' l' o)) := by
  have i1' : Rg 0 9 x1 := rg_m i1 (by decide)
  have ies : Rg 0 9 (x1 + (1 : Int32)) := rg_add i1 (rg_b rfl : Rg 1 1 (1 : Int32)) (by decide)
  have es : (x1 + (1 : Int32)).toNatClampNeg = d + 1 := by rw [(nc_s i1 (by decide)).1, ed]
  have D' : Dp x0 x1.toNatClampNeg b l h := by rw [ed]; exact D
  unfold sX15_step
  refine s_deep0 T r0 i1' D' ?_
  unfold sX15_step_6
  refine s_list T r0 i1' D' ?_
  refine s_deep hp (by rw [es]; exact h0) T r0 ies W (fun o4 ρ1 c1 l' X1 T1 f1 W1 D1 => ?_)
  rw [es] at f1 D1
  obtain ⟨Db, el, Pb, Mb⟩ := dp_keep T r0 f1 (is_f (by omega)) rfl rfl D
  have P1 := Pb P
  have M1 := Mb M
  have r1 := ex_r X1 r0 (by decide)
  have hp1 := ex_hp X1 hp
  obtain ⟨k1, k2, k3, k4⟩ := dp_r T1 r1 Db
  obtain ⟨j1, j2, j3, j4⟩ := dp_r T1 r1 D1
  have h3000 := thI T1 k2 (k := 14) (i := 0) (lo := 0) (hi := 3000) rfl
  rw [← el] at lt
  have ix : Rg 0 2999 x2 := ⟨i2, by have := h3000.2; omega⟩
  unfold sX15_step_20
  have hs : ∀ k w i, SX no (is (3500 + (d + 1))) no k w i = true → cPm c1 k w i = true := fun k w i m => hp1 k w i (sx_sub (fun _ z => no_f z) (fun w z => by rw [is_e z]; exact h2) (fun _ z => no_f z) m)
  refine s_cVfq T1 hs (zX15_make hF (pmA_s (sxA (sx_c _)) rfl) (pmO_s (w := 3500 + (d + 1)) (sxB (sx_c _) is_s) rfl) k3 k4 j3 (th_in _ T1) r1 k1 k2 ix j1 W1.1 M1 lt) (fun o5 T5 f5 P5 => ?_)
  have W5 := dw_keep0 T1 r1 f5 W1
  have D5 := dp_keep0 T1 r1 f5 D1
  unfold sX15_step_23
  have D5' : Dp x0 (x1 + (1 : Int32)).toNatClampNeg o4.1 l' o5 := by rw [es]; exact D5
  refine s_deep0 T5 r1 ies D5' ?_
  unfold sX15_step_31
  refine s_list T5 r1 ies D5' ?_
  refine s_legal hF hp1 h1 h3 T5 r1 W5 D5 P5 (fun o6 T6 _ W6 D6 P6 M6 => ?_)
  unfold sX15_step_42
  exact s_some ⟨ρ1, c1, X1, T6, W6, _, _, D6, P6, M6⟩
end
end
section
/-! rows and problems at depths (reference) -/
def SDp (d : Nat) : Nat → Bool := fun i => decide (d ≤ i)
def SDb (d : Nat) : Nat → Bool := fun w => w == 2528 || (decide (3500 + d ≤ w) && decide (w ≤ 3509))
def SDl (d : Nat) : Nat → Bool := fun w => decide (3600 + d ≤ w) && decide (w ≤ 3609)
abbrev SD (d : Nat) : Nat → Nat → Nat → Bool := SX (SDp d) (SDb d) (SDl d)
section
variable {d e j : Nat}
theorem sdp_t (h : d ≤ j) : SDp d j = true := decide_eq_true h
theorem sdb_0 : SDb d 2528 = true := rfl
theorem sdb_t (h : d ≤ j) (l : j ≤ 9) : SDb d (3500 + j) = true := by
  unfold SDb
  rw [decide_eq_true (show 3500 + d ≤ 3500 + j by omega), decide_eq_true (show 3500 + j ≤ 3509 by omega)]
  exact Bool.or_true _
theorem sdl_t (h : d ≤ j) (l : j ≤ 9) : SDl d (3600 + j) = true := by
  unfold SDl
  rw [decide_eq_true (show 3600 + d ≤ 3600 + j by omega), decide_eq_true (show 3600 + j ≤ 3609 by omega)]
  rfl
theorem sdp_f (h : j < d) : SDp d j = false := decide_eq_false (by omega)
theorem sdb_f (h : j < d) : SDb d (3500 + j) = false := by
  unfold SDb
  rw [decide_eq_false (show ¬ 3500 + d ≤ 3500 + j by omega), bq_ne (show 3500 + j ≠ 2528 by omega)]
  rfl
theorem sdl_f (h : j < d) : SDl d (3600 + j) = false := by
  unfold SDl
  rw [decide_eq_false (show ¬ 3600 + d ≤ 3600 + j by omega)]
  rfl
theorem sd_sub (h : d ≤ e) {k w i : Nat} (m : SD e k w i = true) : SD d k w i = true := by
  refine sx_sub (fun i z => ?_) (fun w z => ?_) (fun w z => ?_) m
  · unfold SDp at z ⊢; rw [decide_eq_true_eq] at z ⊢; omega
  · unfold SDb at z ⊢
    rw [Bool.or_eq_true, Bool.and_eq_true, decide_eq_true_eq, decide_eq_true_eq] at z ⊢
    exact z.imp id (fun y => ⟨by omega, y.2⟩)
  · unfold SDl at z ⊢
    rw [Bool.and_eq_true, decide_eq_true_eq, decide_eq_true_eq] at z ⊢
    exact ⟨by omega, z.2⟩
end
def DQ (x0 d b l : Nat) (h : Hp) : Prop := Dp x0 d b l h ∧ PE b h ∧ MvB x0 b l h
section
variable {ρ : Nat → Nat} {c : Cm} {h o : Hp} {F x0 b l d e : Nat} {x1 x2 x3 x4 x5 : Int32} {p wb wl : Nat → Bool}
theorem dq_keep (T : TH ρ c h) (r0 : ρ x0 = 16) (f : Fr ρ (cat c (SD e) h) h o) (hd : d < e) (D : DQ x0 d b l h) : DQ x0 d b l o ∧ hI o l 0 = hI h l 0 := by
  obtain ⟨a1, a2, a3, a4⟩ := dp_keep T r0 f (sdp_f hd) (sdb_f hd) (sdl_f hd) D.1
  exact ⟨⟨a1, a3 D.2.1, a4 D.2.2⟩, a2⟩
/-- a step, with what stays -/
theorem s_step {β : Type} {Q : β → Prop} {k : Hp → Option β} (hF : 700000 ≤ F) (hp : ∀ k w i, SD (d + 1) k w i = true → cPm c k w i = true) (ed : x1.toNatClampNeg = d) (hd : d ≤ 8) (T : TH ρ c h) (r0 : ρ x0 = 16) (i1 : 0 ≤ x1.toInt) (W : DW x0 h) (D : DQ x0 d b l h) (i2 : 0 ≤ x2.toInt) (lt : x2.toInt < (hI h l 0).toInt) (H : ∀ o ρ1 c1 b' l', Ext ρ c ρ1 c1 → TH ρ1 c1 o → DW x0 o → DQ x0 d b l o → hI o l 0 = hI h l 0 → DQ x0 (d + 1) b' l' o → Sat (k o) Q) : Sat (cl (sX15_step F h x0 x1 x2) k) Q := by
  have nx := nc_i i1
  refine s_mV (S := SD (d + 1)) T hp (zX15_step hF (sx_c _) ed (sdp_t (Nat.le_refl _)) sdb_0 (sdb_t (Nat.le_refl _) (by omega)) (sdl_t (Nat.le_refl _) (by omega)) (th_in _ T) r0 ⟨i1, by omega⟩ W D.1 D.2.1 D.2.2 i2 lt) (fun o ρ1 c1 X T1 f ⟨W1, b', l', D1⟩ => ?_)
  obtain ⟨D2, e2⟩ := dq_keep T r0 f (Nat.lt_succ_self d) D
  exact H o ρ1 c1 b' l' X T1 W1 D2 e2 D1
def CountOk (F x0 D : Nat) : Prop := ∀ {ρ : Nat → Nat} {c : Cm} {h : Hp} {b l d : Nat} {x1 x2 x3 : Int32}, (∀ k w i, SD d k w i = true → cPm c k w i = true) → TH ρ c h → ρ x0 = 16 → x1.toNatClampNeg = d → 0 ≤ x1.toInt → 0 ≤ x2.toInt → x1.toInt + x2.toInt ≤ 9 → x2.toNatClampNeg < D → DW x0 h → Dp x0 d b l h → PE b h → Sat (qX15_countRows F D h x0 x1 x2 x3) (MkI ρ c 0 (100000 * x2.toInt + 1) (DW x0))
theorem count_loop {D : Nat} (hF : 700000 ≤ F) (R : CountOk F x0 D) : ∀ (f : Nat) {ρ : Nat → Nat} {c : Cm} {h : Hp} {b l d : Nat} {x1 x2 x3 x6 x7 : Int32}, (∀ k w i, SD (d + 1) k w i = true → cPm c k w i = true) → TH ρ c h → ρ x0 = 16 → x1.toNatClampNeg = d → 0 ≤ x1.toInt → 2 ≤ x2.toInt → x1.toInt + x2.toInt ≤ 9 → x2.toNatClampNeg < D + 1 → DW x0 h → DQ x0 d b l h → 0 ≤ x6.toInt → x6.toInt ≤ 100000 * x2.toInt + 1 → 0 ≤ x7.toInt → (3000 - x7.toInt).toNat < f → Sat (sX15_countRows_46 F (qX15_countRows F D) f h x0 x1 x2 x3 b l x6 x7) (MkI ρ c 0 (100000 * x2.toInt + 1) (DW x0)) := by
  intro f
  induction f with
  | zero => intros; omega
  | succ f ih =>
    intro ρ c h b l d x1 x2 x3 x6 x7 hp T r0 ed i1 i2 i12 hD W D6 a6 b6 a7 hf
    rw [sX15_countRows_46]
    unfold sX15_countRows_117 sX15_countRows_78 sX15_countRows_81 sX15_countRows_92 sX15_countRows_95 sX15_countRows_108 sX15_countRows_111
    refine s_br (fun _ => s_some ⟨ρ, c, ex_0, T, ⟨a6, b6⟩, W⟩) (fun n1 => ?_)
    refine s_br (fun _ => s_some ⟨ρ, c, ex_0, T, ⟨a6, b6⟩, W⟩) (fun n2 => ?_)
    have lt7 := nle_i n1
    have le6 : x6.toInt ≤ 100000 := nlt_i n2
    have nx := nc_i i1
    have nx2 := nc_i (x := x2) (by omega)
    have ix1 : Rg 0 7 x1 := ⟨i1, by omega⟩
    obtain ⟨s1, s2⟩ := nc_s ix1 (by decide)
    rw [ed] at s1
    have ies : Rg 0 9 (x1 + (1 : Int32)) := ⟨by omega, by omega⟩
    have one : (1 : Int32).toInt = 1 := rfl
    have e2 : (x2 - (1 : Int32)).toInt = x2.toInt - 1 := by
      rw [ti_sub (a := 0) (b := 9) (c := 1) (d := 1) ⟨by omega, by omega⟩ (rg_b rfl) (by decide)]; rfl
    have n2' := nc_i (x := x2 - (1 : Int32)) (by omega)
    refine s_deep hp (by rw [s1]; exact sdp_t (Nat.le_refl _)) T r0 ies W (fun o4 ρ1 c1 l' X1 T1 f1 W1 D1 => ?_)
    rw [s1] at f1 D1
    obtain ⟨Db, el, Pb, Mb⟩ := dp_keep T r0 f1 (is_f (by omega)) rfl rfl D6.1
    have P1 := Pb D6.2.1
    have M1 := Mb D6.2.2
    have r1 := ex_r X1 r0 (by decide)
    have hp1 := ex_hp X1 hp
    obtain ⟨k1, k2, k3, k4⟩ := dp_r T1 r1 Db
    obtain ⟨j1, j2, j3, j4⟩ := dp_r T1 r1 D1
    have h3000 := thI T1 k2 (k := 14) (i := 0) (lo := 0) (hi := 3000) rfl
    rw [← el] at lt7
    have ix : Rg 0 2999 x7 := ⟨a7, by have := h3000.2; omega⟩
    have hs : ∀ k w i, SX no (is (3500 + (d + 1))) no k w i = true → cPm c1 k w i = true := fun k w i m => hp1 k w i (sx_sub (fun _ z => no_f z) (fun w z => by rw [is_e z]; exact sdb_t (Nat.le_refl _) (by omega)) (fun _ z => no_f z) m)
    refine s_cVfq T1 hs (zX15_make hF (pmA_s (sxA (sx_c _)) rfl) (pmO_s (w := 3500 + (d + 1)) (sxB (sx_c _) is_s) rfl) k3 k4 j3 (th_in _ T1) r1 k1 k2 ix j1 W1.1 M1 lt7) (fun o5 T5 f5 P5 => ?_)
    have W5 := dw_keep0 T1 r1 f5 W1
    have D5 := dp_keep0 T1 r1 f5 D1
    obtain ⟨D55, el5, Pb5, Mb5⟩ := dp_keep T1 r1 f5 rfl (is_f (by omega)) rfl Db
    have Q5 : DQ x0 d b l o5 := ⟨D55, Pb5 P1, Mb5 M1⟩
    have hc5 := ex_hp X1 (S := SD (d + 1)) hp
    -- going on, with the sum that stands, or with the rows of the next depth added
    have goon : ∀ {ρ2 : Nat → Nat} {c2 : Cm} {g : Hp} {y : Int32}, Ext ρ1 c1 ρ2 c2 → TH ρ2 c2 g → DW x0 g → DQ x0 d b l g → 0 ≤ y.toInt → y.toInt ≤ 100000 * x2.toInt + 1 → Sat (nm (x7 + (1 : Int32)) fun v_1 => sX15_countRows_46 F (qX15_countRows F D) f g x0 x1 x2 x3 b l y v_1) (MkI ρ c 0 (100000 * x2.toInt + 1) (DW x0)) := fun {ρ2 c2 g y} Y T2 W2 D2 y0 y1 => by
      refine s_q (fun v ev => ?_)
      have ev2 : v.toInt = x7.toInt + 1 := by rw [ev]; exact (nc_s ix (by decide)).2
      exact mI_ext (ex_t X1 Y) (ih (ex_hp Y hc5) T2 (ex_r Y r1 (by decide)) ed i1 i2 i12 hD W2 D2 y0 y1 (by omega) (by have := ix.2; omega))
    have down : ∀ {g : Hp}, TH ρ1 c1 g → DW x0 g → DQ x0 d b l g → Dp x0 (d + 1) o4.1 l' g → PE o4.1 g → Sat (cl (qX15_countRows F D g x0 (x1 + (1 : Int32)) (x2 - (1 : Int32)) x3) fun o_1 => nm (x6 + o_1.1) fun v_1 => nm (x7 + (1 : Int32)) fun v_2 => sX15_countRows_46 F (qX15_countRows F D) f o_1.2 x0 x1 x2 x3 b l v_1 v_2) (MkI ρ c 0 (100000 * x2.toInt + 1) (DW x0)) := fun {g} T2 W2 D2 D3 P3 => by
      refine s_mI (S := SD (d + 1)) T2 hc5 (R (sx_c _) (th_in _ T2) r1 s1 (by omega) (by omega) (by omega) (by omega) W2 D3 P3) (fun o ρ2 c2 Y T4 f4 i4 W4 => ?_)
      obtain ⟨D4, e4⟩ := dq_keep T2 r1 f4 (Nat.lt_succ_self d) D2
      refine s_q (fun v ev => ?_)
      have l4 : o.1.toInt ≤ 900001 := by have := i4.2; omega
      have ev2 : v.toInt = x6.toInt + o.1.toInt := by rw [ev]; exact ti_add (a := 0) (b := 100000) (c := 0) (d := 900001) ⟨a6, le6⟩ ⟨i4.1, l4⟩ (by decide)
      exact goon Y T4 W4 D4 (by have := i4.1; omega) (by have := i4.2; omega)
    refine s_br (fun _ => down T5 W5 Q5 D5 P5) (fun _ => ?_)
    have D5' : Dp x0 (x1 + (1 : Int32)).toNatClampNeg o4.1 l' o5 := by rw [s1]; exact D5
    have hs6 : ∀ k w i, SD (d + 1) k w i = true → cPm c1 k w i = true := hc5
    obtain ⟨o6, e6, T6, i6, W6, D6', P6⟩ := zX15_turnsBack (c := cat c1 (SD (d + 1)) o5) hF (sx_c _) sdb_0 (by rw [s1]; exact sdb_t (Nat.le_refl _) (by omega)) (by rw [s1]; exact sdl_t (Nat.le_refl _) (by omega)) (th_in _ T5) r1 ies W5 D5' P5
    have T7 := th_out T5 hs6 T6
    have f7 := fr_u T5 T6.2.2
    obtain ⟨D7, e7⟩ := dq_keep T5 r1 f7 (Nat.lt_succ_self d) Q5
    rw [s1] at D6'
    refine s_val e6 ?_
    exact s_br (fun _ => goon ex_0 T7 W6 D7 a6 b6) (fun n => down T7 W6 D7 D6' (P6 n))
theorem count_all (hF : 700000 ≤ F) : ∀ D, CountOk F x0 D := by
  intro D
  induction D with
  | zero => intro ρ c h b l d x1 x2 x3 _ _ _ _ _ _ _ n; omega
  | succ D ih =>
    intro ρ c h b l d x1 x2 x3 hp T r0 ed i1 i2 i12 hD W Dd P
    show Sat (oX15_countRows F (qX15_countRows F D) h x0 x1 x2 x3) _
    unfold oX15_countRows
    refine s_br (fun _ => s_some ⟨ρ, c, ex_0, T, ⟨show (0 : Int) ≤ 1 by decide, show (1 : Int) ≤ _ by omega⟩, W⟩) (fun n0 => ?_)
    have n0' := ne_i n0
    have zz : (0 : Int32).toInt = 0 := rfl
    have nx := nc_i i1
    have ix1 : Rg 0 9 x1 := ⟨i1, by omega⟩
    have Dd' : Dp x0 x1.toNatClampNeg b l h := by rw [ed]; exact Dd
    refine s_deep0 T r0 ix1 Dd' ?_
    unfold sX15_countRows_11
    refine s_list T r0 ix1 Dd' ?_
    refine s_legal hF hp sdb_0 (sdl_t (Nat.le_refl _) (by omega)) T r0 W Dd P (fun o T1 _ W1 D1 P1 M1 => ?_)
    unfold sX15_countRows_29
    obtain ⟨k1, k2, k3, k4⟩ := dp_r T1 r0 D1
    have h3000 := thI T1 k2 (k := 14) (i := 0) (lo := 0) (hi := 3000) rfl
    refine s_br (fun _ => s_some ⟨ρ, c, ex_0, T1, ⟨h3000.1, by have := h3000.2; show (hI o l 0).toInt ≤ _; omega⟩, W1⟩) (fun n1 => ?_)
    have n1' := ne_i n1
    have one : (1 : Int32).toInt = 1 := rfl
    have z0 : ((0 : Int32)).toInt = 0 := rfl
    exact count_loop hF ih F (fun k w i m => hp k w i (sd_sub (Nat.le_succ d) m)) T1 r0 ed i1 (by omega) i12 hD W1 ⟨D1, P1, M1⟩ (by decide) (by rw [z0]; omega) (by decide) (by rw [z0]; omega)
theorem zX15_countRows (hF : 700000 ≤ F) (hp : ∀ k w i, SD d k w i = true → cPm c k w i = true) (T : TH ρ c h) (r0 : ρ x0 = 16) (ed : x1.toNatClampNeg = d) (i1 : 0 ≤ x1.toInt) (i2 : 0 ≤ x2.toInt) (i12 : x1.toInt + x2.toInt ≤ 9) (W : DW x0 h) (D : Dp x0 d b l h) (P : PE b h) : Sat (sX15_countRows F h x0 x1 x2 x3) (MkI ρ c 0 (100000 * x2.toInt + 1) (DW x0)) := count_all hF 40 hp T r0 ed i1 i2 i12 (by have := nc_i i2; omega) W D P
end
end
section
section
variable {ρ : Nat → Nat} {c : Cm} {h o : Hp} {F x0 b l d e : Nat} {x1 x2 x3 x4 x5 : Int32}
/-- moves and answers: what holds of both at a depth of the recursion -/
def PairOk (F x0 : Nat) (A M : Hp → Nat → Int32 → Int32 → Int32 → Int32 → Int32 → Option (Int32 × Hp)) (N : Nat) : Prop :=
  (∀ {ρ : Nat → Nat} {c : Cm} {h : Hp} {b l d : Nat} {x1 x2 x3 x4 x5 : Int32}, (∀ k w i, SD (d + 1) k w i = true → cPm c k w i = true) → TH ρ c h → ρ x0 = 16 → x1.toNatClampNeg = d → 0 ≤ x1.toInt → 1 ≤ x3.toInt → x1.toInt + 2 * x3.toInt ≤ 10 → 2 * x3.toNatClampNeg ≤ N → DW x0 h → DQ x0 d b l h → 0 ≤ x2.toInt → x2.toInt < (hI h l 0).toInt → Sat (A h x0 x1 x2 x3 x4 x5) (MkI ρ c 0 1 (DW x0))) ∧
  (∀ {ρ : Nat → Nat} {c : Cm} {h : Hp} {b l d : Nat} {x1 x2 x3 x4 x5 : Int32}, (∀ k w i, SD (d + 1) k w i = true → cPm c k w i = true) → TH ρ c h → ρ x0 = 16 → x1.toNatClampNeg = d → 0 ≤ x1.toInt → 1 ≤ x3.toInt → x1.toInt + 2 * x3.toInt ≤ 9 → 2 * x3.toNatClampNeg + 1 ≤ N → DW x0 h → DQ x0 d b l h → 0 ≤ x2.toInt → x2.toInt < (hI h l 0).toInt → Sat (M h x0 x1 x2 x3 x4 x5) (MkI ρ c 0 1 (DW x0)))
theorem move_loop {N : Nat} {A M : Hp → Nat → Int32 → Int32 → Int32 → Int32 → Int32 → Option (Int32 × Hp)} (R : PairOk F x0 A M N) : ∀ (f : Nat) {ρ : Nat → Nat} {c : Cm} {h : Hp} {b l d : Nat} {x1 x3 x4 x5 x6 : Int32}, (∀ k w i, SD (d + 2) k w i = true → cPm c k w i = true) → TH ρ c h → ρ x0 = 16 → x1.toNatClampNeg = d → 0 ≤ x1.toInt → 1 ≤ x3.toInt → x1.toInt + 2 * x3.toInt ≤ 9 → 2 * x3.toNatClampNeg ≤ N → DW x0 h → DQ x0 (d + 1) b l h → 0 ≤ x6.toInt → (3000 - x6.toInt).toNat < f → Sat (sX15_isMove_50 F A M f h x0 x1 x3 x4 x5 x6) (MkI ρ c 0 1 (DW x0)) := by
  intro f
  induction f with
  | zero => intros; omega
  | succ f ih =>
    intro ρ c h b l d x1 x3 x4 x5 x6 hp T r0 ed i1 i3 i13 hN W D a6 hf
    rw [sX15_isMove_50]
    unfold sX15_isMove_80
    have nx := nc_i i1
    have ix1 : Rg 0 7 x1 := ⟨i1, by omega⟩
    obtain ⟨s1, s2⟩ := nc_s ix1 (by decide)
    rw [ed] at s1
    have ies : Rg 0 9 (x1 + (1 : Int32)) := ⟨by omega, by omega⟩
    refine s_list T r0 ies (b := b) (l := l) (by rw [s1]; exact D.1) ?_
    refine s_br (fun _ => s_some ⟨ρ, c, ex_0, T, rg_b rfl, W⟩) (fun n1 => ?_)
    have lt6 := nle_i n1
    obtain ⟨k1, k2, k3, k4⟩ := dp_r T r0 D.1
    have h3000 := thI T k2 (k := 14) (i := 0) (lo := 0) (hi := 3000) rfl
    have ix : Rg 0 2999 x6 := ⟨a6, by have := h3000.2; omega⟩
    refine s_mI (S := SD (d + 2)) T hp (R.1 (sx_c _) (th_in _ T) r0 s1 (by omega) i3 (by omega) hN W D a6 lt6) (fun o ρ1 c1 X T1 f1 i1' W1 => ?_)
    obtain ⟨D1, e1⟩ := dq_keep T r0 f1 (Nat.lt_succ_self (d + 1)) D
    refine s_br (fun _ => s_some ⟨ρ1, c1, X, T1, rg_b rfl, W1⟩) (fun _ => ?_)
    refine s_q (fun v ev => ?_)
    have ev2 : v.toInt = x6.toInt + 1 := by rw [ev]; exact (nc_s ix (by decide)).2
    exact mI_ext X (ih (ex_hp X hp) T1 (ex_r X r0 (by decide)) ed i1 i3 i13 hN W1 D1 (by omega) (by have := ix.2; omega))
theorem answer_loop {N : Nat} {A M : Hp → Nat → Int32 → Int32 → Int32 → Int32 → Int32 → Option (Int32 × Hp)} (R : PairOk F x0 A M N) : ∀ (f : Nat) {ρ : Nat → Nat} {c : Cm} {h : Hp} {b l d : Nat} {x1 x3 x4 x5 x6 : Int32}, (∀ k w i, SD (d + 2) k w i = true → cPm c k w i = true) → TH ρ c h → ρ x0 = 16 → x1.toNatClampNeg = d → 0 ≤ x1.toInt → 2 ≤ x3.toInt → x1.toInt + 2 * x3.toInt ≤ 10 → 2 * x3.toNatClampNeg - 1 ≤ N → DW x0 h → DQ x0 (d + 1) b l h → 0 ≤ x6.toInt → (3000 - x6.toInt).toNat < f → Sat (sX15_isAnswered_46 F A M f h x0 x1 x3 x4 x5 x6) (MkI ρ c 0 1 (DW x0)) := by
  intro f
  induction f with
  | zero => intros; omega
  | succ f ih =>
    intro ρ c h b l d x1 x3 x4 x5 x6 hp T r0 ed i1 i3 i13 hN W D a6 hf
    rw [sX15_isAnswered_46]
    unfold sX15_isAnswered_78
    have nx := nc_i i1
    have nx3 := nc_i (x := x3) (by omega)
    have ix1 : Rg 0 7 x1 := ⟨i1, by omega⟩
    obtain ⟨s1, s2⟩ := nc_s ix1 (by decide)
    rw [ed] at s1
    have e3 : (x3 - (1 : Int32)).toInt = x3.toInt - 1 := by
      rw [ti_sub (a := 0) (b := 9) (c := 1) (d := 1) ⟨by omega, by omega⟩ (rg_b rfl) (by decide)]; rfl
    have n3' := nc_i (x := x3 - (1 : Int32)) (by omega)
    have ies : Rg 0 9 (x1 + (1 : Int32)) := ⟨by omega, by omega⟩
    refine s_list T r0 ies (b := b) (l := l) (by rw [s1]; exact D.1) ?_
    refine s_br (fun _ => s_some ⟨ρ, c, ex_0, T, rg_b rfl, W⟩) (fun n1 => ?_)
    have lt6 := nle_i n1
    obtain ⟨k1, k2, k3, k4⟩ := dp_r T r0 D.1
    have h3000 := thI T k2 (k := 14) (i := 0) (lo := 0) (hi := 3000) rfl
    have ix : Rg 0 2999 x6 := ⟨a6, by have := h3000.2; omega⟩
    refine s_mI (S := SD (d + 2)) T hp (R.2 (sx_c _) (th_in _ T) r0 s1 (by omega) (by omega) (by omega) (by omega) W D a6 lt6) (fun o ρ1 c1 X T1 f1 i1' W1 => ?_)
    obtain ⟨D1, e1⟩ := dq_keep T r0 f1 (Nat.lt_succ_self (d + 1)) D
    refine s_br (fun _ => ?_) (fun _ => s_some ⟨ρ1, c1, X, T1, rg_b rfl, W1⟩)
    refine s_q (fun v ev => ?_)
    have ev2 : v.toInt = x6.toInt + 1 := by rw [ev]; exact (nc_s ix (by decide)).2
    exact mI_ext X (ih (ex_hp X hp) T1 (ex_r X r0 (by decide)) ed i1 i3 i13 hN W1 D1 (by omega) (by have := ix.2; omega))
theorem pair_step {N : Nat} {A M : Hp → Nat → Int32 → Int32 → Int32 → Int32 → Int32 → Option (Int32 × Hp)} (hF : 700000 ≤ F) (R : PairOk F x0 A M N) : PairOk F x0 (fun h x0 x1 x2 x3 x4 x5 => oX15_isAnswered F A M h x0 x1 x2 x3 x4 x5) (fun h x0 x1 x2 x3 x4 x5 => oX15_isMove F A M h x0 x1 x2 x3 x4 x5) (N + 1) := by
  refine ⟨fun {ρ c h b l d x1 x2 x3 x4 x5} hp T r0 ed i1 i3 i13 hN W D i2 lt => ?_, fun {ρ c h b l d x1 x2 x3 x4 x5} hp T r0 ed i1 i3 i13 hN W D i2 lt => ?_⟩
  · show Sat (oX15_isAnswered F A M h x0 x1 x2 x3 x4 x5) _
    have nx := nc_i i1
    have ix1 : Rg 0 8 x1 := ⟨i1, by omega⟩
    obtain ⟨s1, s2⟩ := nc_s ix1 (by decide)
    rw [ed] at s1
    have ies : Rg 0 9 (x1 + (1 : Int32)) := ⟨by omega, by omega⟩
    unfold oX15_isAnswered
    refine s_step hF hp ed (by omega) T r0 i1 W D i2 lt (fun o ρ1 c1 b' l' X T1 W1 _ _ D1 => ?_)
    have r1 := ex_r X r0 (by decide)
    have hp1 := ex_hp X hp
    have rest : ∀ {g : Hp}, TH ρ1 c1 g → DW x0 g → DQ x0 (d + 1) b' l' g → Sat (sX15_isAnswered_26 F A M g x0 x1 x3 x4 x5) (MkI ρ c 0 1 (DW x0)) := fun {g} T2 W2 D2 => by
      unfold sX15_isAnswered_26 sX15_isAnswered_38 sX15_isAnswered_41
      refine s_br (fun _ => s_some ⟨ρ1, c1, X, T2, rg_b rfl, W2⟩) (fun n => ?_)
      have n' := ne_i n
      have one : (1 : Int32).toInt = 1 := rfl
      have hs : ∀ k w i, SX no no no k w i = true → cPm c1 k w i = true := fun k w i m => hp1 k w i (sx_sub (fun _ z => no_f z) (fun _ z => no_f z) (fun _ z => no_f z) m)
      refine s_cIf T2 hs (zX15_hasEnded hF (sxA (sx_c _)) (th_in _ T2) r1 ies (b := b') (l := l') (by rw [s1]; exact D2.1)) (fun o3 T3 i3' f3 => ?_)
      have W3 := dw_keep0 T2 r1 f3 W2
      obtain ⟨a1, a2, a3, a4⟩ := dp_keep T2 r1 f3 rfl rfl rfl D2.1
      refine s_br (fun _ => ?_) (fun _ => s_some ⟨ρ1, c1, X, T3, rg_b rfl, W3⟩)
      exact mI_ext X (answer_loop R F (fun k w i m => hp1 k w i (sd_sub (Nat.le_succ _) m)) T3 r1 ed i1 (by omega) i13 (by omega) W3 ⟨a1, a3 D2.2.1, a4 D2.2.2⟩ (by decide) (by show (3000 - (0 : Int)).toNat < F; omega))
    unfold sX15_isAnswered_6 sX15_isAnswered_21
    refine s_br (fun _ => ?_) (fun _ => rest T1 W1 D1)
    have hs : ∀ k w i, SX no no no k w i = true → cPm c1 k w i = true := fun k w i m => hp1 k w i (sx_sub (fun _ z => no_f z) (fun _ z => no_f z) (fun _ z => no_f z) m)
    refine s_cIf T1 hs (zX15_isGoal hF (sxA (sx_c _)) (th_in _ T1) r1 ies (b := b') (l := l') (by rw [s1]; exact D1.1)) (fun o3 T3 i3' f3 => ?_)
    have W3 := dw_keep0 T1 r1 f3 W1
    obtain ⟨a1, a2, a3, a4⟩ := dp_keep T1 r1 f3 rfl rfl rfl D1.1
    exact s_br (fun _ => rest T3 W3 ⟨a1, a3 D1.2.1, a4 D1.2.2⟩) (fun _ => s_some ⟨ρ1, c1, X, T3, rg_b rfl, W3⟩)
  · show Sat (oX15_isMove F A M h x0 x1 x2 x3 x4 x5) _
    have nx := nc_i i1
    have ix1 : Rg 0 8 x1 := ⟨i1, by omega⟩
    obtain ⟨s1, s2⟩ := nc_s ix1 (by decide)
    rw [ed] at s1
    have ies : Rg 0 9 (x1 + (1 : Int32)) := ⟨by omega, by omega⟩
    unfold oX15_isMove
    refine s_step hF hp ed (by omega) T r0 i1 W D i2 lt (fun o ρ1 c1 b' l' X T1 W1 _ _ D1 => ?_)
    have r1 := ex_r X r0 (by decide)
    have hp1 := ex_hp X hp
    have hs : ∀ k w i, SX no no no k w i = true → cPm c1 k w i = true := fun k w i m => hp1 k w i (sx_sub (fun _ z => no_f z) (fun _ z => no_f z) (fun _ z => no_f z) m)
    have rest : ∀ {g : Hp}, TH ρ1 c1 g → DW x0 g → DQ x0 (d + 1) b' l' g → Sat (sX15_isMove_25 F A M g x0 x1 x3 x4 x5) (MkI ρ c 0 1 (DW x0)) := fun {g} T2 W2 D2 => by
      unfold sX15_isMove_25 sX15_isMove_32 sX15_isMove_45 sX15_isMove_47
      refine s_cIf T2 hs (zX15_hasEnded hF (sxA (sx_c _)) (th_in _ T2) r1 ies (b := b') (l := l') (by rw [s1]; exact D2.1)) (fun o3 T3 i3' f3 => ?_)
      have W3 := dw_keep0 T2 r1 f3 W2
      obtain ⟨a1, a2, a3, a4⟩ := dp_keep T2 r1 f3 rfl rfl rfl D2.1
      have lp : Sat (sX15_isMove_50 F A M F o3.2 x0 x1 x3 x4 x5 0) (MkI ρ c 0 1 (DW x0)) := mI_ext X (move_loop R F (fun k w i m => hp1 k w i (sd_sub (Nat.le_succ _) m)) T3 r1 ed i1 i3 i13 (by omega) W3 ⟨a1, a3 D2.2.1, a4 D2.2.2⟩ (by decide) (by show (3000 - (0 : Int)).toNat < F; omega))
      have st : Sat (some ((0 : Int32), o3.2)) (MkI ρ c 0 1 (DW x0)) := s_some ⟨ρ1, c1, X, T3, rg_b rfl, W3⟩
      exact s_br (fun _ => s_br (fun _ => s_br (fun _ => st) (fun _ => lp)) (fun _ => lp)) (fun _ => st)
    unfold sX15_isMove_6 sX15_isMove_20
    refine s_br (fun _ => ?_) (fun _ => rest T1 W1 D1)
    refine s_cIf T1 hs (zX15_isGoal hF (sxA (sx_c _)) (th_in _ T1) r1 ies (b := b') (l := l') (by rw [s1]; exact D1.1)) (fun o3 T3 i3' f3 => ?_)
    have W3 := dw_keep0 T1 r1 f3 W1
    obtain ⟨a1, a2, a3, a4⟩ := dp_keep T1 r1 f3 rfl rfl rfl D1.1
    exact s_br (fun _ => rest T3 W3 ⟨a1, a3 D1.2.1, a4 D1.2.2⟩) (fun _ => s_some ⟨ρ1, c1, X, T3, rg_b rfl, W3⟩)
theorem pair_all (hF : 700000 ≤ F) : ∀ N, PairOk F x0 (qX15_isAnswered F N).1 (qX15_isAnswered F N).2 N := by
  intro N
  induction N with
  | zero => exact ⟨fun {ρ c h b l d x1 x2 x3 x4 x5} _ _ _ _ _ i3 _ n => by have := nc_i (x := x3) (by omega); omega, fun {ρ c h b l d x1 x2 x3 x4 x5} _ _ _ _ _ _ _ n => by omega⟩
  | succ N ih => exact pair_step hF ih
theorem zX15_isMove (hF : 700000 ≤ F) (hp : ∀ k w i, SD (d + 1) k w i = true → cPm c k w i = true) (T : TH ρ c h) (r0 : ρ x0 = 16) (ed : x1.toNatClampNeg = d) (i1 : 0 ≤ x1.toInt) (i3 : 1 ≤ x3.toInt) (i13 : x1.toInt + 2 * x3.toInt ≤ 9) (W : DW x0 h) (D : DQ x0 d b l h) (i2 : 0 ≤ x2.toInt) (lt : x2.toInt < (hI h l 0).toInt) : Sat (sX15_isMove F h x0 x1 x2 x3 x4 x5) (MkI ρ c 0 1 (DW x0)) := (pair_all hF 40).2 hp T r0 ed i1 i3 i13 (by have := nc_i (x := x3) (by omega); omega) W D i2 lt
theorem zX15_isAnswered (hF : 700000 ≤ F) (hp : ∀ k w i, SD (d + 1) k w i = true → cPm c k w i = true) (T : TH ρ c h) (r0 : ρ x0 = 16) (ed : x1.toNatClampNeg = d) (i1 : 0 ≤ x1.toInt) (i3 : 1 ≤ x3.toInt) (i13 : x1.toInt + 2 * x3.toInt ≤ 10) (W : DW x0 h) (D : DQ x0 d b l h) (i2 : 0 ≤ x2.toInt) (lt : x2.toInt < (hI h l 0).toInt) : Sat (sX15_isAnswered F h x0 x1 x2 x3 x4 x5) (MkI ρ c 0 1 (DW x0)) := (pair_all hF 40).1 hp T r0 ed i1 i3 i13 (by have := nc_i (x := x3) (by omega); omega) W D i2 lt
/-- rows that come to a goal -/
def GoalOk (F x0 : Nat) (G : Hp → Nat → Int32 → Int32 → Int32 → Int32 → Option (Int32 × Hp)) (B : Hp → Nat → Int32 → Int32 → Int32 → Int32 → Int32 → Option (Int32 × Hp)) (N : Nat) : Prop :=
  (∀ {ρ : Nat → Nat} {c : Cm} {h : Hp} {b l d : Nat} {x1 x2 x3 x4 : Int32}, (∀ k w i, SD (d + 1) k w i = true → cPm c k w i = true) → TH ρ c h → ρ x0 = 16 → x1.toNatClampNeg = d → 0 ≤ x1.toInt → 1 ≤ x2.toInt → x1.toInt + x2.toInt ≤ 9 → 2 * x2.toNatClampNeg + 1 ≤ N → DW x0 h → DQ x0 d b l h → Sat (G h x0 x1 x2 x3 x4) (MkI ρ c (-2147483648) 2147483647 (DW x0))) ∧
  (∀ {ρ : Nat → Nat} {c : Cm} {h : Hp} {b l d : Nat} {x1 x2 x3 x4 x5 : Int32}, (∀ k w i, SD (d + 1) k w i = true → cPm c k w i = true) → TH ρ c h → ρ x0 = 16 → x1.toNatClampNeg = d → 0 ≤ x1.toInt → 1 ≤ x3.toInt → x1.toInt + x3.toInt ≤ 9 → 2 * x3.toNatClampNeg ≤ N → DW x0 h → DQ x0 d b l h → 0 ≤ x2.toInt → x2.toInt < (hI h l 0).toInt → Sat (B h x0 x1 x2 x3 x4 x5) (MkI ρ c (-2147483648) 2147483647 (DW x0)))
theorem goal_loop {N : Nat} {G : Hp → Nat → Int32 → Int32 → Int32 → Int32 → Option (Int32 × Hp)} {B : Hp → Nat → Int32 → Int32 → Int32 → Int32 → Int32 → Option (Int32 × Hp)} (R : GoalOk F x0 G B N) : ∀ (f : Nat) {ρ : Nat → Nat} {c : Cm} {h : Hp} {b l d : Nat} {x1 x2 x3 x4 x5 x6 : Int32}, (∀ k w i, SD (d + 1) k w i = true → cPm c k w i = true) → TH ρ c h → ρ x0 = 16 → x1.toNatClampNeg = d → 0 ≤ x1.toInt → 1 ≤ x2.toInt → x1.toInt + x2.toInt ≤ 9 → 2 * x2.toNatClampNeg ≤ N → DW x0 h → DQ x0 d b l h → 0 ≤ x6.toInt → (3000 - x6.toInt).toNat < f → Sat (sX15_goalRows_6 F G B f h x0 x1 x2 x3 x4 x5 x6) (MkI ρ c (-2147483648) 2147483647 (DW x0)) := by
  intro f
  induction f with
  | zero => intros; omega
  | succ f ih =>
    intro ρ c h b l d x1 x2 x3 x4 x5 x6 hp T r0 ed i1 i2 i12 hN W D a6 hf
    rw [sX15_goalRows_6]
    unfold sX15_goalRows_33
    have nx := nc_i i1
    have ix1 : Rg 0 9 x1 := ⟨i1, by omega⟩
    refine s_list T r0 ix1 (b := b) (l := l) (by rw [ed]; exact D.1) ?_
    refine s_br (fun _ => s_some ⟨ρ, c, ex_0, T, rg_top _, W⟩) (fun n1 => ?_)
    have lt6 := nle_i n1
    obtain ⟨k1, k2, k3, k4⟩ := dp_r T r0 D.1
    have h3000 := thI T k2 (k := 14) (i := 0) (lo := 0) (hi := 3000) rfl
    have ix : Rg 0 2999 x6 := ⟨a6, by have := h3000.2; omega⟩
    refine s_mI (S := SD (d + 1)) T hp (R.2 (sx_c _) (th_in _ T) r0 ed i1 i2 i12 hN W D a6 lt6) (fun o ρ1 c1 X T1 f1 i1' W1 => ?_)
    obtain ⟨D1, e1⟩ := dq_keep T r0 f1 (Nat.lt_succ_self d) D
    refine s_q (fun u eu => ?_)
    refine s_q (fun v ev => ?_)
    have ev2 : v.toInt = x6.toInt + 1 := by rw [ev]; exact (nc_s ix (by decide)).2
    exact mI_ext X (ih (ex_hp X hp) T1 (ex_r X r0 (by decide)) ed i1 i2 i12 hN W1 D1 (by omega) (by have := ix.2; omega))
theorem goal_step {N : Nat} {G : Hp → Nat → Int32 → Int32 → Int32 → Int32 → Option (Int32 × Hp)} {B : Hp → Nat → Int32 → Int32 → Int32 → Int32 → Int32 → Option (Int32 × Hp)} (hF : 700000 ≤ F) (R : GoalOk F x0 G B N) : GoalOk F x0 (fun h x0 x1 x2 x3 x4 => oX15_goalRows F G B h x0 x1 x2 x3 x4) (fun h x0 x1 x2 x3 x4 x5 => oX15_goalRowsBy F G B h x0 x1 x2 x3 x4 x5) (N + 1) := by
  refine ⟨fun {ρ c h b l d x1 x2 x3 x4} hp T r0 ed i1 i2 i12 hN W D => ?_, fun {ρ c h b l d x1 x2 x3 x4 x5} hp T r0 ed i1 i3 i13 hN W D i2 lt => ?_⟩
  · show Sat (oX15_goalRows F G B h x0 x1 x2 x3 x4) _
    unfold oX15_goalRows
    exact goal_loop R F hp T r0 ed i1 i2 i12 (by omega) W D (by decide) (by show (3000 - (0 : Int)).toNat < F; omega)
  · show Sat (oX15_goalRowsBy F G B h x0 x1 x2 x3 x4 x5) _
    have nx := nc_i i1
    have nx3 := nc_i (x := x3) (by omega)
    have ix1 : Rg 0 8 x1 := ⟨i1, by omega⟩
    obtain ⟨s1, s2⟩ := nc_s ix1 (by decide)
    rw [ed] at s1
    have e3 : (x3 - (1 : Int32)).toInt = x3.toInt - 1 := by
      rw [ti_sub (a := 0) (b := 9) (c := 1) (d := 1) ⟨by omega, by omega⟩ (rg_b rfl) (by decide)]; rfl
    have n3' := nc_i (x := x3 - (1 : Int32)) (by omega)
    have ies : Rg 0 9 (x1 + (1 : Int32)) := ⟨by omega, by omega⟩
    unfold oX15_goalRowsBy
    refine s_step hF hp ed (by omega) T r0 i1 W D i2 lt (fun o ρ1 c1 b' l' X T1 W1 _ _ D1 => ?_)
    have r1 := ex_r X r0 (by decide)
    have hp1 := ex_hp X hp
    unfold sX15_goalRowsBy_6 sX15_goalRowsBy_20 sX15_goalRowsBy_28 sX15_goalRowsBy_41 sX15_goalRowsBy_54 sX15_goalRowsBy_65 sX15_goalRowsBy_79
    refine s_br (fun _ => ?_) (fun n => ?_)
    · have hs : ∀ k w i, SX no no no k w i = true → cPm c1 k w i = true := fun k w i m => hp1 k w i (sx_sub (fun _ z => no_f z) (fun _ z => no_f z) (fun _ z => no_f z) m)
      refine s_cIf T1 hs (zX15_isGoal hF (sxA (sx_c _)) (th_in _ T1) r1 ies (b := b') (l := l') (by rw [s1]; exact D1.1)) (fun o3 T3 i3' f3 => ?_)
      have W3 := dw_keep0 T1 r1 f3 W1
      exact s_br (fun _ => s_some ⟨ρ1, c1, X, T3, rg_top _, W3⟩) (fun _ => s_some ⟨ρ1, c1, X, T3, rg_top _, W3⟩)
    · have n' := ne_i n
      have one : (1 : Int32).toInt = 1 := rfl
      have down : ∀ {g : Hp}, TH ρ1 c1 g → DW x0 g → DQ x0 (d + 1) b' l' g → Sat (cl (G g x0 (x1 + (1 : Int32)) (x3 - (1 : Int32)) x4 x5) fun o_1 => some (o_1.1, o_1.2)) (MkI ρ c (-2147483648) 2147483647 (DW x0)) := fun {g} T2 W2 D2 => by
        refine s_cl (s_imp (R.1 (fun k w i m => hp1 k w i (sd_sub (Nat.le_succ _) m)) T2 r1 s1 (by omega) (by omega) (by omega) (by omega) W2 D2) (fun o4 ⟨ρ2, c2, Y, z⟩ => s_some ⟨ρ2, c2, ex_t X Y, z⟩))
      refine s_br (fun _ => down T1 W1 D1) (fun _ => ?_)
      obtain ⟨o6, e6, T6, i6, W6, D6', P6⟩ := zX15_turnsBack (c := c1) (b := b') (l := l') hF hp1 sdb_0 (by rw [s1]; exact sdb_t (Nat.le_refl _) (by omega)) (by rw [s1]; exact sdl_t (Nat.le_refl _) (by omega)) T1 r1 ies W1 (by rw [s1]; exact D1.1) D1.2.1
      refine s_val e6 ?_
      refine s_br (fun _ => s_some ⟨ρ1, c1, X, T6, rg_top _, W6⟩) (fun nz => ?_)
      refine s_deep0 T6 r1 ies D6' ?_
      refine s_list T6 r1 ies D6' ?_
      rw [s1] at D6'
      exact s_legal hF hp1 sdb_0 (sdl_t (Nat.le_refl _) (by omega)) T6 r1 W6 D6' (P6 nz) (fun o8 T8 _ W8 D8 P8 M8 => down T8 W8 ⟨D8, P8, M8⟩)
theorem goal_all (hF : 700000 ≤ F) : ∀ N, GoalOk F x0 (qX15_goalRows F N).1 (qX15_goalRows F N).2 N := by
  intro N
  induction N with
  | zero => exact ⟨fun {ρ c h b l d x1 x2 x3 x4} _ _ _ _ _ _ _ n => by omega, fun {ρ c h b l d x1 x2 x3 x4 x5} _ _ _ _ _ i3 _ n => by have := nc_i (x := x3) (by omega); omega⟩
  | succ N ih => exact goal_step hF ih
theorem zX15_goalRowsBy (hF : 700000 ≤ F) (hp : ∀ k w i, SD (d + 1) k w i = true → cPm c k w i = true) (T : TH ρ c h) (r0 : ρ x0 = 16) (ed : x1.toNatClampNeg = d) (i1 : 0 ≤ x1.toInt) (i3 : 1 ≤ x3.toInt) (i13 : x1.toInt + x3.toInt ≤ 9) (W : DW x0 h) (D : DQ x0 d b l h) (i2 : 0 ≤ x2.toInt) (lt : x2.toInt < (hI h l 0).toInt) : Sat (sX15_goalRowsBy F h x0 x1 x2 x3 x4 x5) (MkI ρ c (-2147483648) 2147483647 (DW x0)) := (goal_all hF 40).2 hp T r0 ed i1 i3 i13 (by have := nc_i (x := x3) (by omega); omega) W D i2 lt
/-- rows of all lengths are few enough -/
theorem room_loop (hF : 700000 ≤ F) : ∀ (f : Nat) {ρ : Nat → Nat} {c : Cm} {h : Hp} {b : Nat} {x2 x3 x4 : Int32}, (∀ k w i, SD 0 k w i = true → cPm c k w i = true) → TH ρ c h → ρ x0 = 16 → ρ b = 13 → cw c b = 3400 → x2.toInt ≤ 9 → DW x0 h → PE b h → 1 ≤ x4.toInt → (10 - x4.toInt).toNat < f → Sat (sX15_isRoom_3 F f h x0 b x2 x3 x4) (MkI ρ c 0 1 (DW x0)) := by
  intro f
  induction f with
  | zero => intros; omega
  | succ f ih =>
    intro ρ c h b x2 x3 x4 hp T r0 rb wb i2 W P a4 hf
    rw [sX15_isRoom_3]
    unfold sX15_isRoom_14 sX15_isRoom_18 sX15_isRoom_26
    refine s_br (fun _ => s_some ⟨ρ, c, ex_0, T, rg_b rfl, W⟩) (fun n => ?_)
    have le4 := nlt_i n
    have i0 : Rg 0 9 (0 : Int32) := rg_b rfl
    have z0 : (0 : Int32).toNatClampNeg = 0 := rfl
    have zz : (0 : Int32).toInt = 0 := rfl
    refine s_deep hp (sdp_t (Nat.zero_le _)) T r0 i0 W (fun o4 ρ1 c1 l' X1 T1 f1 W1 D1 => ?_)
    rw [z0] at D1
    have r1 := ex_r X1 r0 (by decide)
    have hp1 := ex_hp X1 hp
    have rb1 := ex_r X1 rb (by decide)
    have wb1 := ex_w X1 rb (by decide) wb
    have P1 : PE b o4.2 := pe_fr T rb f1 (sx_f (Or.inl rfl) rfl (Or.inr rfl) (Or.inl rfl)) (sx_f (Or.inl rfl) rfl (Or.inr rfl) (Or.inl rfl)) (sx_f (Or.inl rfl) rfl (Or.inr rfl) (Or.inl rfl)) (fun i => sx_f (Or.inl rfl) rfl (Or.inr rfl) (Or.inl rfl)) (fun i => sx_f (Or.inl rfl) rfl (Or.inr rfl) (Or.inl rfl)) P
    obtain ⟨j1, j2, j3, j4⟩ := dp_r T1 r1 D1
    have hs : ∀ k w i, SX no (is 3500) no k w i = true → cPm c1 k w i = true := fun k w i m => hp1 k w i (sx_sub (fun _ z => no_f z) (fun w z => by rw [is_e z]; rfl) (fun _ z => no_f z) m)
    refine s_cVfq T1 hs (s_weq (zX12_copy hF (pmO_s (w := 3500) (sxB (sx_c _) rfl) rfl) j3 wb1 (th_in _ T1) j1 rb1)) (fun o5 T5 f5 e5 => ?_)
    have P5 := pe_copy T1 j1 rb1 P1 e5
    have W5 := dw_keep0 T1 r1 f5 W1
    have D5 := dp_keep0 T1 r1 f5 D1
    have Pb5 : PE b o5 := pe_fr T1 rb1 f5 (sx_f (Or.inl rfl) rfl (Or.inr (by rw [wb1]; rfl)) (Or.inl rfl)) (sx_f (Or.inl rfl) rfl (Or.inr (by rw [wb1]; rfl)) (Or.inl rfl)) (sx_f (Or.inl rfl) rfl (Or.inr (by rw [wb1]; rfl)) (Or.inl rfl)) (fun i => sx_f (Or.inl rfl) rfl (Or.inr (by rw [wb1]; rfl)) (Or.inl rfl)) (fun i => sx_f (Or.inl rfl) rfl (Or.inr (by rw [wb1]; rfl)) (Or.inl rfl)) P1
    refine s_mI (S := SD 0) T5 hp1 (zX15_countRows (d := 0) hF (sx_c _) (th_in _ T5) r1 rfl (by decide) (by omega) (by rw [zz]; omega) W5 D5 P5) (fun o ρ2 c2 Y T6 f6 i6 W6 => ?_)
    have Pb6 : PE b o.2 := pe_fr T5 rb1 f6 (sx_f (Or.inl rfl) rfl (Or.inr (by rw [wb1]; rfl)) (Or.inl rfl)) (sx_f (Or.inl rfl) rfl (Or.inr (by rw [wb1]; rfl)) (Or.inl rfl)) (sx_f (Or.inl rfl) rfl (Or.inr (by rw [wb1]; rfl)) (Or.inl rfl)) (fun i => sx_f (Or.inl rfl) rfl (Or.inr (by rw [wb1]; rfl)) (Or.inl rfl)) (fun i => sx_f (Or.inl rfl) rfl (Or.inr (by rw [wb1]; rfl)) (Or.inl rfl)) Pb5
    refine s_br (fun _ => ?_) (fun _ => s_some ⟨ρ2, c2, ex_t X1 Y, T6, rg_b rfl, W6⟩)
    refine s_q (fun v ev => ?_)
    have ix : Rg 0 9 x4 := ⟨by omega, by omega⟩
    have ev2 : v.toInt = x4.toInt + 1 := by rw [ev]; exact (nc_s ix (by decide)).2
    exact mI_ext (ex_t X1 Y) (ih (ex_hp Y hp1) T6 (ex_r Y r1 (by decide)) (ex_r Y rb1 (by decide)) (ex_w Y rb1 (by decide) wb1) i2 W6 Pb6 (by omega) (by omega))
theorem zX15_isRoom (hF : 700000 ≤ F) (hp : ∀ k w i, SD 0 k w i = true → cPm c k w i = true) (T : TH ρ c h) (r0 : ρ x0 = 16) (rb : ρ b = 13) (wb : cw c b = 3400) (i2 : x2.toInt ≤ 9) (W : DW x0 h) (P : PE b h) : Sat (sX15_isRoom F h x0 b x2 x3) (MkI ρ c 0 1 (DW x0)) := by
  unfold sX15_isRoom
  exact room_loop hF F hp T r0 rb wb i2 W P (by decide) (by show (10 - (1 : Int)).toNat < F; omega)
end
end
