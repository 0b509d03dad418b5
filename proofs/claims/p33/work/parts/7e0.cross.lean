/-! what the one side leaves of the other -/
section
variable {ρ ρ1 : Nat → Nat} {c c1 : Cm} {h o : Hp} {S : Nat → Nat → Nat → Bool} {m : Nat}
theorem exm_f (T : TH ρ c h) (X : ExM ρ (cat c S h) ρ1 c1) (T1 : TH ρ1 c1 o) : Fr ρ (cat c S h) h o := by
  have lt : ∀ a, ρ a ≠ 0 → a < h.1.1 := fun a ha => by rw [T.1.1]; exact T.2.1.2.2.1 a ha
  have g : FrG ρ1 c1 (c0 c1) o := T1.2.2
  have e0 : c0 c1 = h := by show c1.2.2.2.2 = h; rw [X.2.1]; rfl
  rw [e0] at g
  refine ⟨fun a i h0 hs => g.2.1 a i (lt a h0) (by rw [(X.1 a h0).1]; exact h0) ?_, fun a h0 => g.2.2 a (lt a h0) (by rw [(X.1 a h0).1]; exact h0)⟩
  show c1.2.2.2.1 (ρ1 a) (cw c1 a) i = false
  rw [X.2.1, (X.1 a h0).1, (X.1 a h0).2]
  exact hs
/-- what a call of the class may write -/
def clSf (b l : Bool) : Nat → Nat → Nat → Bool := fun k w i => clR k || ((k == 10 && i == 1) || ((k == 49 && (b || !(w == 2100))) || (lwK k && l)))
/-- what a call of the reference may write -/
def rfSf (b l : Bool) : Nat → Nat → Nat → Bool := fun k _ i => (rfR k && !(k == 16 && (i == 0 || (i == 4 || (i == 5 || (i == 11 || (i == 12 || i == 13))))))) || ((k == 82 && b) || ((rwK k || (k == 16 && (i == 4 || (i == 5 || (i == 11 || (i == 12 || i == 13)))))) && l))
theorem cl_bad {b l : Bool} : ∀ k w i, badR k w i = true → clSf b l k w i = false := fun k w i bb => by
  unfold badR at bb
  simp at bb
  have : k = 16 ∨ k = 84 ∨ k = 85 ∨ k = 90 ∨ k = 91 ∨ k = 92 ∨ k = 95 ∨ k = 96 ∨ k = 97 ∨ k = 99 ∨ k = 100 ∨ k = 101 ∨ k = 106 ∨ k = 107 ∨ k = 13 ∨ k = 62 ∨ k = 63 ∨ k = 64 := by omega
  rcases this with z | z | z | z | z | z | z | z | z | z | z | z | z | z | z | z | z | z <;> subst z <;> rfl
/-- a call of the class leaves the reference -/
theorem x_ref {b l : Bool} {na nd ng nf : Nat} (T : TH ρ c h) (X : ExM ρ (cat c (clSf b l) h) ρ1 c1) (T1 : TH ρ1 c1 o) (r0 : ρ m = 16) (P : RfI m h) (ha : dA m h na) (hd : dD m h nd) (hg : dG m h ng) (hf : dF m h nf) : RfI m o ∧ dA m o na ∧ dD m o nd ∧ dG m o ng ∧ dF m o nf ∧ d52 m o = d52 m h ∧ TpR m h o ∧ ρ1 m = 16 := by
  have f := exm_f T X T1
  exact ⟨rfi_f T r0 f cl_bad P, da_f T r0 f (fun _ => rfl) (fun _ _ => rfl) ha, dd_f T r0 f (fun _ => rfl) (fun _ _ => rfl) hd, dg_f T r0 f (fun _ => rfl) (fun _ _ => rfl) hg, df_f T r0 f (fun _ => rfl) (fun _ _ => rfl) hf, d52_f r0 f (fun _ => rfl), (fr_RI f r0 (by decide) (fun _ => rfl)).1, by rw [(X.1 m (by rw [r0]; decide)).1]; exact r0⟩
/-- a call of the reference leaves the class -/
theorem x_cls {b l : Bool} {n : Nat} (T : TH ρ c h) (X : Ext ρ (cat c (rfSf b l) h) ρ1 c1) (T1 : TH ρ1 c1 o) (r0 : ρ n = 12) (I : ClI ρ c n h) : ClI ρ1 c1 n o ∧ Tp n h o ∧ ρ1 n = 12 := by
  have f := ex_f T X T1
  have cr : ∀ k w i, clS k = true → rfSf b l k w i = false := fun k w i z => by
    have := clS_c z
    rcases this with z | z | z | z | z | z | z | z | z | z | z | z | z | z | z | z | z | z | z | z | z | z <;> subst z <;> rfl
  have I2 : ClI ρ c n o := ci_f T r0 f (fun k w i z _ _ _ => cr k w i z) (fun k w i z _ => cr k w i z) I
  have r1 : ρ1 n = 12 := by rw [(X.1 n (by rw [r0]; decide)).1]; exact r0
  refine ⟨ci_x (c := cat c (rfSf b l) h) (th_in _ T) r0 X T1 I2, fun t et => ?_, r1⟩
  have qt := rr T (thR T r0 (i := 0) (k2 := 10) rfl (by decide)) et
  exact ⟨by rw [(fr_RI f r0 (by decide) (fun _ => rfl)).2.2]; exact et, (fr_RI f qt (by decide) (fun _ => rfl)).1⟩
end

/-- the tapes agree -/
def TB (n m : Nat) (h : Hp) : Prop := ∀ t bt x1, hR h n 0 = some t → hR h t 0 = some bt → hR h m 0 = some x1 → ∀ i : Nat, (i : Int) < (hI h m 1).toInt → (hI h x1 i).toInt = sg (hI h bt i).toInt
section
variable {ρ ρ1 : Nat → Nat} {c c1 : Cm} {h o v : Hp} {n m : Nat}
/-- neither side writes its tape: the tapes agree, as far as they did -/
theorem tb_k {b1 b2 l1 l2 : Bool} (hb1 : b1 = false) (hb2 : b2 = false) (T : TH ρ c h) (r0 : ρ n = 12) (rm : ρ m = 16) (X : ExM ρ (cat c (clSf b1 l1) h) ρ1 c1) (T1 : TH ρ1 c1 o) (f2 : Fr ρ1 (cat c1 (rfSf b2 l2) o) o v) (e1 : ∀ t, hR h n 0 = some t → hR v n 0 = some t) (le : (hI v m 1).toInt ≤ (hI h m 1).toInt) (I : TB n m h) : TB n m v := by
  subst hb1
  subst hb2
  have f1 := exm_f T X T1
  have up : ∀ {a k : Nat}, ρ a = k → ¬ k = 0 → ρ1 a = k := fun {a k} q z => by rw [(X.1 a (by rw [q]; exact z)).1]; exact q
  obtain ⟨t, et, qt⟩ := thR T r0 (i := 0) (k2 := 10) rfl (by decide)
  obtain ⟨bt, ebt, qbt⟩ := thR T qt (i := 0) (k2 := 49) rfl (by decide)
  obtain ⟨x1, ex1, qx1⟩ := thR T rm (i := 0) (k2 := 82) rfl (by decide)
  have wt : cw c t = 2100 := kid_w T r0 (i := 0) rfl (by decide) et
  have wb : cw c bt = 2100 := th_ih T qt rfl ebt wt
  intro t' bt' x1' a1 a2 a3 i hi
  have y1 : t' = t := r_eq (e1 t et) a1
  subst y1
  have y2 : bt' = bt := r_eq (by rw [(fr_RI f2 (up qt (by decide)) (by decide) (fun _ => rfl)).2.2, (fr_RI f1 qt (by decide) (fun _ => rfl)).2.2]; exact ebt) a2
  subst y2
  have y3 : x1' = x1 := r_eq (by rw [(fr_RI f2 (up rm (by decide)) (by decide) (fun _ => rfl)).2.2, (fr_RI f1 rm (by decide) (fun _ => rfl)).2.2]; exact ex1) a3
  subst y3
  rw [(fr_RI f2 (up qx1 (by decide)) (by decide) (fun _ => rfl)).1, (fr_RI f1 qx1 (by decide) (fun _ => rfl)).1, (fr_RI f2 (up qbt (by decide)) (by decide) (fun _ => rfl)).1, (frx f1 qbt (by decide) wb rfl).1]
  exact I t' bt' x1' et ebt ex1 i (by omega)
end

theorem cl_lw {b : Bool} {k w i : Nat} (z : lwK k = true) : clSf b false k w i = false := by
  rcases lw_c z with z | z | z | z | z | z | z | z <;> (rw [z]; rfl)
theorem cl_rw {b l : Bool} {k w i : Nat} (z : rwK k = true) : clSf b l k w i = false := by
  rcases rw_c z with z | z | z | z | z | z | z | z | z | z <;> (rw [z]; rfl)
theorem rf_lw {b l : Bool} {k w i : Nat} (z : lwK k = true) : rfSf b l k w i = false := by
  rcases lw_c z with z | z | z | z | z | z | z | z <;> (rw [z]; rfl)
theorem rf_rw {b : Bool} {k w i : Nat} (z : rwK k = true) : rfSf b false k w i = false := by
  rcases rw_c z with z | z | z | z | z | z | z | z | z | z <;> (rw [z]; rfl)
/-- laws agree, and the reference's two are apart -/
def MFq (m : Nat) (h : Hp) : Prop := ∀ lw, hR h m 4 = some lw → hI h m 11 = hI h lw 0 ∧ hI h m 12 = hI h lw 1
def XB (n m : Nat) (h : Hp) : Prop := LwA n m h ∧ DL m h ∧ MFq m h
section
variable {ρ ρ1 : Nat → Nat} {c c1 : Cm} {h o v : Hp} {n m : Nat}
theorem lr_pair {b1 b2 : Bool} (T : TH ρ c h) (r0 : ρ n = 12) (rm : ρ m = 16) (X : ExM ρ (cat c (clSf b1 false) h) ρ1 c1) (T1 : TH ρ1 c1 o) (f2 : Fr ρ1 (cat c1 (rfSf b2 false) o) o v) (I : XB n m h) : XB n m v := by
  have f1 := exm_f T X T1
  have up : ∀ {a k : Nat}, ρ a = k → ¬ k = 0 → ρ1 a = k := fun {a k} q z => by rw [(X.1 a (by rw [q]; exact z)).1]; exact q
  obtain ⟨L, eL, qL⟩ := thR T r0 (i := 2) (k2 := 2) rfl (by decide)
  obtain ⟨l4, e4, q4⟩ := thR T rm (i := 4) (k2 := 15) rfl (by decide)
  obtain ⟨l5, e5, q5⟩ := thR T rm (i := 5) (k2 := 15) rfl (by decide)
  have n2 : hR v n 2 = some L := by rw [(fr_RI f2 (up r0 (by decide)) (by decide) (fun _ => rfl)).2.2, (fr_RI f1 r0 (by decide) (fun _ => rfl)).2.2]; exact eL
  have m4 : hR v m 4 = some l4 := by rw [(fr_RI f2 (up rm (by decide)) (by decide) (fun _ => rfl)).2.2, (fr_RI f1 rm (by decide) (fun _ => rfl)).2.2]; exact e4
  have m5 : hR v m 5 = some l5 := by rw [(fr_RI f2 (up rm (by decide)) (by decide) (fun _ => rfl)).2.2, (fr_RI f1 rm (by decide) (fun _ => rfl)).2.2]; exact e5
  have A1 := lc_f T qL f1 (fun k w i z => cl_lw z)
  have A2 := lc_f T1 (up qL (by decide)) f2 (fun k w i z => rf_lw z)
  have B1 := lr_f T q4 f1 (fun k w i z => cl_rw z)
  have B2 := lr_f T1 (up q4 (by decide)) f2 (fun k w i z => rf_rw z)
  have D1 := lr_f T q5 f1 (fun k w i z => cl_rw z)
  have D2 := lr_f T1 (up q5 (by decide)) f2 (fun k w i z => rf_rw z)
  have MM : ∀ i, (i = 11 ∨ i = 12) → hI v m i = hI h m i := fun i hi => by
    rcases hi with rfl | rfl <;> rw [(fr_RI f2 (up rm (by decide)) (by decide) (fun _ => rfl)).1, (fr_RI f1 rm (by decide) (fun _ => rfl)).1]
  refine ⟨fun L' lw' a1 a2 => ?_, fun x y a1 a2 => ?_, fun x a1 => by
    rw [r_eq m4 a1, MM 11 (Or.inl rfl), MM 12 (Or.inr rfl), B2.1, B1.1, B2.1, B1.1]
    exact I.2.2 l4 e4⟩
  · rw [r_eq n2 a1, r_eq m4 a2]
    refine lawr_k (I.1 L l4 eL e4) (fun i => (A2.1 i).trans (A1.1 i)) (A2.2.1.trans A1.2.1) (fun i => (A2.2.2.1 i).trans (A1.2.2.1 i)) (fun j r h1 h2 er i => ?_) (fun i => (B2.1 i).trans (B1.1 i)) (B2.2.1.trans B1.2.1) (fun i => (B2.2.2.1 i).trans (B1.2.2.1 i)) (fun j r hj er i => ?_)
    · exact (A2.2.2.2 j r h1 h2 (by rw [A1.2.2.1]; exact er) i).trans (A1.2.2.2 j r h1 h2 er i)
    · exact (B2.2.2.2 j r hj (by rw [B1.2.2.1]; exact er) i).trans (B1.2.2.2 j r hj er i)
  · rw [r_eq m4 a1, r_eq m5 a2]
    obtain ⟨d1, d2⟩ := I.2.1 l4 l5 e4 e5
    refine ⟨d1, fun i r er => ?_⟩
    rw [B2.2.2.1, B1.2.2.1] at er
    rw [D2.2.2.1, D1.2.2.1]
    exact d2 i r er
end
