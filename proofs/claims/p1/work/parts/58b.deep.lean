section
variable {v : Hp} {x m F : Nat} {q r : Qs}
theorem w_fillI {A : Nat → Prop} {a n : Nat} {k : Int32} (ha : A a) (hn : n ≤ 100000) : ∀ (f : Nat) (h : Hp) (i : Nat), n - i < f → i ≤ n → hN h a = n → Sat (sJ7_fill_53178_5 F f h a k (nI i) (nI n)) fun o => Fx A h o := by
  intro f
  induction f with
  | zero => intro h i hi; omega
  | succ f ih =>
    intro h i hi i2 e
    rw [sJ7_fill_53178_5]
    apply s_br
    · intro _; exact s_some (Fx.rf h)
    · intro c1
      rw [z_le (by omega) (by omega)] at c1
      apply s_gd
      · rw [z_inB (by omega), e]; omega
      · rw [nm_eq, nm_eq, show (1 : Int32) = nI 1 from rfl, z_add]
        have F1 : Fx A h (wI h a (nI i).toNatClampNeg k) := (Fx.rf h).wI ha _ _
        exact s_imp (ih _ (i + 1) (by omega) (by omega) e) (fun o ho => F1.tr ho)
theorem fillI {A : Nat → Prop} {h : Hp} {a n : Nat} (k : Int32) (ha : A a) (e : hN h a = n) (hn : n < F) (hn2 : n ≤ 100000) : Sat (sJ7_fill_53178 F h a k) fun o => Fx A h o := by
  unfold sJ7_fill_53178
  rw [nm_eq, e]
  exact w_fillI ha hn2 F h 0 (by omega) (by omega) e
theorem fillJ {A : Nat → Prop} {h : Hp} {a n : Nat} (k : Int64) (ha : A a) (e : hN h a = n) (hn : n < F) (hn2 : n ≤ 100000) : Sat (sJ7_fill_d0a16 F h a k) fun o => Fx A h o := by
  unfold sJ7_fill_d0a16
  rw [nm_eq, e]
  exact s_imp (w_fillJ ha hn2 F h 0 (by omega) (by omega) e) (fun o ho => ho.1)
theorem w_fillB {A : Nat → Prop} {a n : Nat} {k : Int32} (ha : A a) (hn : n ≤ 100000) : ∀ (f : Nat) (h : Hp) (i : Nat), n - i < f → i ≤ n → hN h a = n → Sat (sJ7_fill_031fb_5 F f h a k (nI i) (nI n)) fun o => Fx A h o := by
  intro f
  induction f with
  | zero => intro h i hi; omega
  | succ f ih =>
    intro h i hi i2 e
    rw [sJ7_fill_031fb_5]
    apply s_br
    · intro _; exact s_some (Fx.rf h)
    · intro c1
      rw [z_le (by omega) (by omega)] at c1
      apply s_gd
      · rw [z_inB (by omega), e]; omega
      · rw [nm_eq, nm_eq, show (1 : Int32) = nI 1 from rfl, z_add]
        have F1 : Fx A h (wI h a (nI i).toNatClampNeg (vp_nar .byte k)) := (Fx.rf h).wI ha _ _
        exact s_imp (ih _ (i + 1) (by omega) (by omega) e) (fun o ho => F1.tr ho)
theorem fillB {A : Nat → Prop} {h : Hp} {a n : Nat} (k : Int32) (ha : A a) (e : hN h a = n) (hn : n < F) (hn2 : n ≤ 100000) : Sat (sJ7_fill_031fb F h a k) fun o => Fx A h o := by
  unfold sJ7_fill_031fb
  rw [nm_eq, e]
  exact w_fillB ha hn2 F h 0 (by omega) (by omega) e
abbrev Zn (a k : Nat) : Nat → Prop := fun b => a ≤ b ∧ b ≤ a + k
theorem c_lclear {h : Hp} {l : Nat} (hF : 2000 ≤ F) (e1 : hR h l 16 = some (l + 3)) (e2 : hR h l 18 = some (l + 5)) (n1 : hN h (l + 3) = 12) (n2 : hN h (l + 5) = 12) : Sat (sX1_clear F h l) fun o => Fx (Zn l 7) h o := by
  unfold sX1_clear
  simp only [nm_eq]
  generalize hu : wJ _ l 13 0 = u
  have F1 : Fx (Zn l 7) h u := by
    rw [← hu]
    have zl : Zn l 7 l := ⟨Nat.le_refl _, Nat.le_add_right _ _⟩
    exact (((((((((((((((Fx.rf h).wI zl _ _).wI zl _ _).wI zl _ _).wI zl _ _).wI zl _ _).wI zl _ _).wI zl _ _).wI zl _ _).wI zl _ _).wI zl _ _).wI zl _ _).wI zl _ _).wI zl _ _).wJ zl _ _)
  rw [F1.R, e1, cl_some]
  apply s_cl
  refine s_imp (fillI (A := Zn l 7) 0 ⟨by omega, by omega⟩ ((F1.N _).trans n1) (by omega) (by omega)) (fun o1 f1 => ?_)
  have F2 := F1.tr f1
  rw [F2.R, e2, cl_some]
  apply s_cl
  refine s_imp (fillI (A := Zn l 7) 0 ⟨by omega, by omega⟩ ((F2.N _).trans n2) (by omega) (by omega)) (fun o2 f2 => ?_)
  exact s_some (F2.tr f2)
theorem byte0 {h : Hp} {t : Nat} (e : hI h t 1 = 0) : sX9_byteAt h t 0 = some (-1, h) := by
  unfold sX9_byteAt sX9_byteAt_21 sX9_byteAt_22
  rw [br_neg (by decide), e, br_pos (by decide)]
abbrev On (X : Nat) : Nat → Prop := fun a => a = X
theorem on_X {X : Nat} : On X X := rfl
theorem c_adv0 {h : Hp} {X T : Nat} (hF : 2000 ≤ F) (e0 : hR h X 0 = some T) (eT : hI h T 1 = 0) (e3 : hI h X 3 = 0) (hT : T ≠ X) : Sat (sX2_advance F h X) fun o => Fx (On X) h o ∧ hI o X 2 = 0 ∧ hI o X 4 = 0 := by
  unfold sX2_advance
  rw [nm_eq, e3]
  obtain ⟨f, rfl⟩ : ∃ f, F = f + 1 := ⟨F - 1, by omega⟩
  rw [sX2_advance_8]
  generalize hu : wI h X 2 0 = u
  have F1 : Fx (On X) h u := by rw [← hu]; exact (Fx.rf h).wI on_X _ _
  have u2 : hI u X 2 = 0 := by rw [← hu, r_I, if_pos ⟨rfl, rfl⟩]
  have uT : hI u T 1 = 0 := by rw [F1.I hT]; exact eT
  rw [F1.R, e0, cl_some, uT, u2, br_pos (by decide)]
  unfold sX2_advance_67
  rw [F1.R, e0, cl_some, u2, byte0 uT, cl_some, nm_eq]
  show Sat (br ((-1 : Int32) = -1) _ _) _
  rw [bpp, nm_eq, nm_eq]
  unfold sX2_advance_230
  refine s_some ⟨((F1.wI on_X _ _).wI on_X _ _).wI on_X _ _, ?_, ?_⟩
  · simp only [r_I]; simp [u2]
  · simp only [r_I]; simp
theorem c_read0 {h : Hp} {X T l : Nat} (hF : 2000 ≤ F) (eT : hI h T 1 = 0) (hT : T ≠ X) (hTl : ¬ Zn l 7 T) (hXl : ¬ Zn l 7 X) (e1 : hR h l 16 = some (l + 3)) (e2 : hR h l 18 = some (l + 5)) (n1 : hN h (l + 3) = 12) (n2 : hN h (l + 5) = 12) (hlX : l ≠ X) : Sat (sX2_read F h X T l) fun o => o.1 = 0 ∧ hI o.2 X 2 = 0 ∧ o.2.1 = h.1 ∧ (∀ a, a ≠ X → hR o.2 a = hR h a) ∧ (∀ a, a ≠ X → ¬ Zn l 7 a → hI o.2 a = hI h a) ∧ ∀ b, (X < b ∧ l + 7 < b) → hK o.2 b = hK h b ∧ hN o.2 b = hN h b ∧ hI o.2 b = hI h b ∧ hJ o.2 b = hJ h b ∧ hR o.2 b = hR h b := by
  unfold sX2_read
  rw [nm_eq, nm_eq]
  generalize hu : wR (wR h X 0 (some T)) X 1 (some l) = u
  have uR0 : hR u X 0 = some T := by rw [← hu, r_R, if_neg (by omega), r_R, if_pos ⟨rfl, rfl⟩]
  have uR1 : hR u X 1 = some l := by rw [← hu, r_R, if_pos ⟨rfl, rfl⟩]
  have uRo : ∀ a, a ≠ X → hR u a = hR h a := fun a ha => by
    rw [← hu, wR_R, if_neg ha, wR_R, if_neg ha]
  have uI : hI u = hI h := by rw [← hu]; rfl
  have uN : hN u = hN h := by rw [← hu]; rfl
  have uK : hK u = hK h := by rw [← hu]; rfl
  have uJ : hJ u = hJ h := by rw [← hu]; rfl
  have u1 : u.1 = h.1 := by rw [← hu]; rfl
  rw [uR1, cl_some]
  apply s_cl
  refine s_imp (c_lclear hF (by rw [uRo l hlX]; exact e1) (by rw [uRo l hlX]; exact e2) (by rw [uN]; exact n1) (by rw [uN]; exact n2)) (fun o f1 => ?_)
  rw [nm_eq, nm_eq]
  generalize hw : wI (wI o X 3 0) X 6 0 = w
  have F2 : Fx (On X) o w := by rw [← hw]; exact ((Fx.rf o).wI on_X _ _).wI on_X _ _
  have w3 : hI w X 3 = 0 := by rw [← hw, r_I, if_neg (by omega), r_I, if_pos ⟨rfl, rfl⟩]
  apply s_cl
  refine s_imp (c_adv0 hF (by rw [F2.R, f1.R]; exact uR0) (by rw [F2.I hT, f1.I hTl, uI]; exact eT) w3 hT) (fun o3 h3 => ?_)
  unfold sX2_takeBoard sX2_isWord sX2_isWord_24
  rw [h3.2.2, br_neg (by decide), cl_some]
  show Sat (cl (br ((0 : Int32) = 0) _ _) _) _
  rw [b00, cl_some]
  obtain ⟨f, rfl⟩ : ∃ f, F = f + 1 := ⟨F - 1, by omega⟩
  rw [sX2_read_39, br_neg (by decide), b00]
  unfold sX2_read_118 sX2_read_133 sX2_read_134
  rw [b00, g00]
  have F3 := F2.tr h3.1
  refine s_some ⟨rfl, h3.2.1, ?_, ?_, ?_, ?_⟩
  · exact F3.1.trans (f1.1.trans u1)
  · intro a ha
    show hR o3 a = _
    rw [F3.2.2.2.1, f1.2.2.2.1]; exact uRo a ha
  · intro a ha hl
    show hI o3 a = _
    rw [F3.I ha, f1.I hl, uI]
  · intro b hb
    have hbX : b ≠ X := by omega
    have hbl : ¬ Zn l 7 b := fun z => by have := z.2; omega
    refine ⟨?_, ?_, ?_, ?_, ?_⟩
    · show hK o3 b = _
      rw [F3.2.1, f1.2.1, uK]
    · show hN o3 b = _
      rw [F3.2.2.1, f1.2.2.1, uN]
    · show hI o3 b = _
      rw [F3.I hbX, f1.I hbl, uI]
    · show hJ o3 b = _
      rw [F3.2.2.2.2.2 b hbX, f1.2.2.2.2.2 b hbl, uJ]
    · show hR o3 b = _
      rw [F3.2.2.2.1, f1.2.2.2.1]; exact uRo b hbX
theorem k_rules (C : CF v x q) (hm : x + 513 ≤ m) (hF : 2000 ≤ F) : Sat (sX11_rules F v x) fun o => o.1 = -1 ∧ Fl m v o.2 := by
  unfold sX11_rules
  rw [xR0 C (i := 4) (b := 21) (by decide), cl_some, xR0 C (i := 0) (b := 1) (by decide), cl_some, xR0 C (i := 3) (b := 13) (by decide), cl_some]
  apply s_cl
  refine s_imp (c_read0 (X := x + 21) (T := x + 1) (l := x + 13) hF (xT C) (by omega) (fun z => by have := z.1; omega) (fun z => by have := z.2; omega) (xR C (a := 13) (i := 16) (b := 16) (by decide)) (xR C (a := 13) (i := 18) (b := 18) (by decide)) (xN C (a := 16) (n := 12) (by decide)) (xN C (a := 18) (n := 12) (by decide)) (by omega)) (fun o h => ?_)
  obtain ⟨h1, h2, h3, h4, h5, h6⟩ := h
  rw [h4 x (by omega), xR0 C (i := 4) (b := 21) (by decide), cl_some]
  unfold sX2_faultPlace
  rw [cl_some, nm_eq, h1, b00]
  unfold sX11_rules_69 sX9_clear
  show Sat (cl (hR o.2 x 0) _) _
  rw [h4 x (by omega), xR0 C (i := 0) (b := 1) (by decide), cl_some, nm_eq, cl_some]
  refine s_some ⟨?_, ?_⟩
  · show (-1 : Int32) - hI o.2 (x + 21) 2 = -1
    rw [h2]; rfl
  · have F1 : Fl m v o.2 := ⟨h3, fun a ha => h6 a ⟨by omega, by omega⟩⟩
    exact F1.tr (Fl.wI (by omega) _ _ _)
theorem k_free (C : CF v x q) (hF : 2000 ≤ F) : sX11_freePlace F v x = some (0, v) := by
  unfold sX11_freePlace
  obtain ⟨f, rfl⟩ : ∃ f, F = f + 1 := ⟨F - 1, by omega⟩
  rw [sX11_freePlace_2, br_neg (by decide), xR0 C (i := 14) (b := 149) (by decide), cl_some, xN C (a := 149) (n := 60) (by decide), gd_pos (by decide), show (0 : Int32).toNatClampNeg = 0 from rfl, xZ C (by decide), b00]
theorem k_pclear {h : Hp} {p : Nat} (hF : 2000 ≤ F) (e0 : hR h p 0 = some (p + 1)) (e1 : hR h p 1 = some (p + 2)) (e2 : hR h p 2 = some (p + 3)) (e3 : hR h p 3 = some (p + 4)) (e4 : hR h p 4 = some (p + 5)) (n0 : hN h (p + 1) = 64) (n1 : hN h (p + 2) = 2) (n2 : hN h (p + 3) = 2) (n3 : hN h (p + 4) = 2) (n4 : hN h (p + 5) = 2) : Sat (sX3_clear F h p) fun o => Fx (Zn p 5) h o := by
  unfold sX3_clear sX3_strip
  have zp : Zn p 5 p := ⟨Nat.le_refl _, Nat.le_add_right _ _⟩
  rw [e0, cl_some]
  apply s_cl
  refine s_imp (fillB (A := Zn p 5) _ ⟨by omega, by omega⟩ n0 (by omega) (by omega)) (fun o1 f1 => ?_)
  rw [f1.R, e1, cl_some]
  apply s_cl
  refine s_imp (fillJ (A := Zn p 5) _ ⟨by omega, by omega⟩ ((f1.N _).trans n1) (by omega) (by omega)) (fun o2 f2 => ?_)
  have F2 := f1.tr f2
  rw [F2.R, e2, cl_some]
  apply s_cl
  refine s_imp (fillI (A := Zn p 5) _ ⟨by omega, by omega⟩ ((F2.N _).trans n2) (by omega) (by omega)) (fun o3 f3 => ?_)
  have F3 := ((((F2.tr f3).wI zp 5 0).wJ zp 10 0).wJ zp 9 0).wJ zp 8 0
  rw [nm_eq, nm_eq, nm_eq, nm_eq, F3.R, e3, cl_some]
  apply s_cl
  apply s_cl
  refine s_imp (fillJ (A := Zn p 5) _ ⟨by omega, by omega⟩ ((F3.N _).trans n3) (by omega) (by omega)) (fun o4 f4 => ?_)
  have F4 := F3.tr f4
  rw [F4.R, e4, cl_some]
  apply s_cl
  refine s_imp (fillI (A := Zn p 5) _ ⟨by omega, by omega⟩ ((F4.N _).trans n4) (by omega) (by omega)) (fun o5 f5 => ?_)
  rw [nm_eq]
  exact s_some (s_some ((F4.tr f5).wI zp 6 0))
theorem k_manOf {h : Hp} {l : Nat} (hF : 2000 ≤ F) (e3 : hI h l 3 = 6) (e14 : hR h l 14 = some (l + 1)) (n1 : hN h (l + 1) = 12) (hl : ∀ k, k < 6 → ¬ hI h (l + 1) k = -1) : sX1_manOf F h l (-1) = some (-1, h) := by
  have go : ∀ (f k : Nat), 6 - k < f → k ≤ 6 → sX1_manOf_2 F f h l (-1) (nI k) = some (-1, h) := by
    intro f
    induction f with
    | zero => intro k hk; omega
    | succ f ih =>
      intro k hk k6
      rw [sX1_manOf_2, e3]
      by_cases c : k = 6
      · subst c; rw [br_pos (by decide)]
      · have hk2 : k < 6 := by omega
        rw [br_neg (show ¬ (6 : Int32) ≤ nI k from ngt hk2 (by decide)), e14, cl_some, n1, gd_pos (inBn (show k < 12 by omega) (by decide)), clk (by omega), br_neg (hl k hk2), nm_eq, show (1 : Int32) = nI 1 from rfl, z_add]
        exact ih (k + 1) (by omega) (by omega)
  exact go F 0 (by omega) (by omega)
theorem k_ranks {h : Hp} {s l t p : Nat} (hF : 2000 ≤ F) (s0 : hR h s 0 = some l) (s1 : hR h s 1 = some t) (s2 : hI h s 2 = 0) (et : hI h t 1 = 0) (l0 : hI h l 0 = 8) (l1 : hI h l 1 = 8) (e3 : hI h l 3 = 6) (e14 : hR h l 14 = some (l + 1)) (n1 : hN h (l + 1) = 12) (hl : ∀ k, k < 6 → ¬ hI h (l + 1) k = -1) : sX7_readRanks F h s p = some (0, h) := by
  unfold sX7_readRanks
  obtain ⟨f, hf⟩ : ∃ f, F = f + 1 := ⟨F - 1, by omega⟩
  rw [s0, cl_some, nm_eq, l1]
  have e10 : sX7_readRanks_10 F F h s p ((8 : Int32) - 1) = sX7_readRanks_10 F (f + 1) h s p 7 := by rw [← hf]; rfl
  rw [e10, sX7_readRanks_10, br_neg (by decide), s0, cl_some, l1, br_pos (by decide)]
  unfold sX7_readRanks_38
  have e40 : ∀ K, sX7_readRanks_40 F K F h s p 7 0 = sX7_readRanks_40 F K (f + 1) h s p 7 0 := fun K => by rw [← hf]
  rw [e40, sX7_readRanks_40, s0, cl_some, l0, br_neg (by decide), s1, cl_some, s2, byte0 et, cl_some]
  show cl (hR h s 0) _ = _
  rw [s0, cl_some]
  have ec : sX1_codeOf F h l (-1) = some (-1, h) := by
    unfold sX1_codeOf sX1_codeOf_16 sX1_codeOf_17 sX1_codeOf_31 sX1_codeOf_57
    rw [br_pos (by decide), b00, k_manOf hF e3 e14 n1 hl, cl_some]
    exact bpp _ _
  show cl (sX1_codeOf F h l (-1)) _ = _
  rw [ec, cl_some]
  show br ((-1 : Int32) < 49) _ _ = _
  rw [br_pos (by decide)]
  unfold sX7_readRanks_97 sX7_readRanks_98 sX7_readRanks_125
  show br ((-1 : Int32) = -1) _ _ = _
  rw [bpp, b00]
theorem k_position (C : CF v x q) (hm : x + 513 ≤ m) (hF : 2000 ≤ F) : Sat (sX11_position F v x) fun o => o.1 = -200 ∧ Fl m v o.2 := by
  unfold sX11_position
  rw [k_free C hF, cl_some]
  show Sat (br ((0 : Int32) = -1) _ _) _
  rw [br_neg (by decide)]
  show Sat (cl (hR v x 13) _) _
  rw [xR0 C (i := 13) (b := 148) (by decide), cl_some, xN C (a := 148) (n := 60) (by decide), gd_pos (show inB (0 : Int32) 60 by decide)]
  show Sat (cl (hR v (x + 148) 0) _) _
  rw [xR C (a := 148) (i := 0) (b := 153) (by decide), cl_some, xR0 C (i := 7) (b := 38) (by decide), cl_some, xR0 C (i := 0) (b := 1) (by decide), cl_some]
  apply s_cl
  unfold sX7_read
  rw [nm_eq, nm_eq]
  generalize hu : wI (wR v (x + 38) 1 (some (x + 1))) (x + 38) 2 0 = u
  have uR : ∀ a, a ≠ x + 38 → hR u a = hR v a := fun a ha => by rw [← hu, wI_R, wR_R, if_neg ha]
  have uR0 : hR u (x + 38) 0 = some (x + 5) := by
    rw [← hu, wI_R, r_R, if_neg (by omega)]; exact xR C (a := 38) (i := 0) (b := 5) (by decide)
  have uR1 : hR u (x + 38) 1 = some (x + 1) := by
    rw [← hu, wI_R, r_R, if_pos ⟨rfl, rfl⟩]
  have uN : hN u = hN v := by rw [← hu]; rfl
  have u2 : hI u (x + 38) 2 = 0 := by rw [← hu, r_I, if_pos ⟨rfl, rfl⟩]
  have uI : ∀ a, a ≠ x + 38 → hI u a = hI v a := fun a ha => by rw [← hu, wI_I, if_neg ha]; rfl
  have F0 : Fl m v u := by rw [← hu]; exact (Fl.wR (by omega) _ _ _).tr (Fl.wI (by omega) _ _ _)
  apply s_cl
  have r153 := uR (x + 153) (by omega)
  refine s_imp (k_pclear (h := u) (p := x + 153) hF (by rw [r153]; exact xR C (a := 153) (i := 0) (b := 154) (by decide)) (by rw [r153]; exact xR C (a := 153) (i := 1) (b := 155) (by decide)) (by rw [r153]; exact xR C (a := 153) (i := 2) (b := 156) (by decide)) (by rw [r153]; exact xR C (a := 153) (i := 3) (b := 157) (by decide)) (by rw [r153]; exact xR C (a := 153) (i := 4) (b := 158) (by decide)) (by rw [uN]; exact xN C (a := 154) (n := 64) (by decide)) (by rw [uN]; exact xN C (a := 155) (n := 2) (by decide)) (by rw [uN]; exact xN C (a := 156) (n := 2) (by decide)) (by rw [uN]; exact xN C (a := 157) (n := 2) (by decide)) (by rw [uN]; exact xN C (a := 158) (n := 2) (by decide))) (fun o f => ?_)
  have nz : ∀ a, a < 153 → ¬ Zn (x + 153) 5 (x + a) := fun a ha z => by have := z.1; omega
  have oI : ∀ a, a < 153 → a ≠ 38 → hI o (x + a) = hI v (x + a) := fun a h1 h2 => by rw [f.I (nz a h1), uI _ (by omega)]
  have hk := k_ranks (h := o) (s := x + 38) (l := x + 5) (t := x + 1) (p := x + 153) hF (by rw [f.R]; exact uR0) (by rw [f.R]; exact uR1) (by rw [f.I (nz 38 (by omega))]; exact u2) (by rw [oI 1 (by omega) (by omega)]; exact xT C) (by rw [oI 5 (by omega) (by omega)]; exact xI C (a := 5) (i := 0) (k := 8) (by decide)) (by rw [oI 5 (by omega) (by omega)]; exact xI C (a := 5) (i := 1) (k := 8) (by decide)) (by rw [oI 5 (by omega) (by omega)]; exact xI C (a := 5) (i := 3) (k := 6) (by decide)) (by rw [f.R, uR _ (by omega)]; exact xR C (a := 5) (i := 14) (b := 6) (by decide)) (by rw [f.N, uN]; exact xN C (a := 6) (n := 12) (by decide)) (by
    intro k hk
    have e6 : hI o (x + 5 + 1) = hI v (x + 6) := oI 6 (by omega) (by omega)
    rw [e6]
    have : k = 0 ∨ k = 1 ∨ k = 2 ∨ k = 3 ∨ k = 4 ∨ k = 5 := by omega
    rcases this with rfl | rfl | rfl | rfl | rfl | rfl
    · rw [xI C (a := 6) (i := 0) (k := 107) (by decide)]; decide
    · rw [xI C (a := 6) (i := 1) (k := 113) (by decide)]; decide
    · rw [xI C (a := 6) (i := 2) (k := 114) (by decide)]; decide
    · rw [xI C (a := 6) (i := 3) (k := 98) (by decide)]; decide
    · rw [xI C (a := 6) (i := 4) (k := 110) (by decide)]; decide
    · rw [xI C (a := 6) (i := 5) (k := 112) (by decide)]; decide)
  rw [hk, cl_some]
  show Sat (br ((0 : Int32) = 0) _ _) _
  rw [b00]
  unfold sX7_read_143 sX7_read_144 sX7_read_157
  show Sat (br ((0 : Int32) = 0) _ _) _
  rw [b00]
  have o2 : hI o (x + 38) 2 = 0 := by rw [f.I (nz 38 (by omega))]; exact u2
  show Sat (some (hI o (x + 38) 2, o)) _
  rw [o2]
  refine s_some ?_
  show Sat (br ((0 : Int32) = -1) _ _) _
  rw [br_neg (by decide)]
  unfold sX11_position_52 sX11_position_74 sX11_position_75 sX11_position_103 sX11_position_104 sX9_clear
  show Sat (cl (hR o x 14) _) _
  rw [f.R, uR x (by omega), xR0 C (i := 14) (b := 149) (by decide), cl_some]
  show Sat (br ((0 : Int32) = -1) _ _) _
  rw [br_neg (by decide), f.N, uN, xN C (a := 149) (n := 60) (by decide), gd_pos (show inB (0 : Int32) 60 by decide), nm_eq]
  show Sat (br ((0 : Int32) = -1) _ _) _
  rw [br_neg (by decide)]
  show Sat (cl (hR o x 0) _) _
  rw [f.R, uR x (by omega), xR0 C (i := 0) (b := 1) (by decide), cl_some, nm_eq, cl_some]
  refine s_some ⟨?_, ?_⟩
  · show (-200 : Int32) - 0 = -200
    decide
  have F1 : Fl m u o := Fl.fx f (fun a z => by have := z.2; omega)
  exact (F0.tr F1).tr ((Fl.wI (by omega) _ _ _).tr (Fl.wI (by omega) _ _ _))
theorem k_catch (C : CF v x q) (hF : 2000 ≤ F) : sX1_hasCatch F v (x + 5) = some (1, v) := by
  have n8 : hN v (x + 8) = 12 := xN C (by decide)
  have n7 : hN v (x + 7) = 96 := xN C (by decide)
  have r16 : hR v (x + 5) 16 = some (x + 8) := xR C (by decide)
  have r15 : hR v (x + 5) 15 = some (x + 7) := xR C (by decide)
  have sc : ∀ k, k < 6 → ∃ c, hI v (x + 8) k = nI c ∧ c ≤ 8 := by
    intro k hk
    have : k = 0 ∨ k = 1 ∨ k = 2 ∨ k = 3 ∨ k = 4 ∨ k = 5 := by omega
    rcases this with rfl | rfl | rfl | rfl | rfl | rfl
    · exact ⟨2, xI C (a := 8) (i := 0) (k := 2) (by decide), by omega⟩
    · exact ⟨2, xI C (a := 8) (i := 1) (k := 2) (by decide), by omega⟩
    · exact ⟨1, xI C (a := 8) (i := 2) (k := 1) (by decide), by omega⟩
    · exact ⟨1, xI C (a := 8) (i := 3) (k := 1) (by decide), by omega⟩
    · exact ⟨1, xI C (a := 8) (i := 4) (k := 1) (by decide), by omega⟩
    · exact ⟨4, xI C (a := 8) (i := 5) (k := 4) (by decide), by omega⟩
  have inner : ∀ (K : Hp → Nat → Int32 → Option (Int32 × Hp)) (k : Nat), k < 6 → (k < 5 → K v (x + 5) (nI (k + 1)) = some (1, v)) → ∀ (f i : Nat), 8 - i < f → i ≤ 8 → (k = 5 → i ≤ 2) → sX1_hasCatch_12 F K f v (x + 5) (nI k) (nI i) = some (1, v) := by
    intro K k hk hK f
    induction f with
    | zero => intro i hi; omega
    | succ f ih =>
      intro i hi i8 h5
      rw [sX1_hasCatch_12, r16, cl_some, n8, gd_pos (inBn (show k < 12 by omega) (by decide)), clk (by omega)]
      obtain ⟨c, ec, c8⟩ := sc k hk
      rw [ec]
      by_cases d : nI c ≤ nI i
      · rw [br_pos d, nm_eq, show (1 : Int32) = nI 1 from rfl, z_add]
        apply hK
        rw [z_le (by omega) (by omega)] at d
        by_cases e5 : k = 5
        · exfalso
          subst e5
          have := xI C (a := 8) (i := 5) (k := 4) (by decide)
          rw [ec, show (4 : Int32) = nI 4 from rfl, z_eq (by omega) (by omega)] at this
          have := h5 rfl
          omega
        · omega
      · rw [br_neg d, r15, cl_some]
        rw [z_le (by omega) (by omega)] at d
        rw [show (8 : Int32) = nI 8 from rfl, z_mul, z_add, n7, gd_pos (inBn (show k * 8 + i < 96 by omega) (by decide)), clk (by omega)]
        by_cases e : hI v (x + 7) (k * 8 + i) &&& 32 = 0
        · rw [br_pos e, nm_eq, show (1 : Int32) = nI 1 from rfl, z_add]
          refine ih (i + 1) (by omega) (by omega) (fun k5 => ?_)
          have i2 := h5 k5
          by_cases e2 : i = 2
          · exfalso
            subst e2 k5
            exact xC C e
          · omega
        · rw [br_neg e]
  have outer : ∀ (f k : Nat), 6 - k < f → k ≤ 5 → sX1_hasCatch_2 F f v (x + 5) (nI k) = some (1, v) := by
    intro f
    induction f with
    | zero => intro k hk; omega
    | succ f ih =>
      intro k hk k5
      rw [sX1_hasCatch_2, xI C (a := 5) (i := 3) (k := 6) (by decide), br_neg (show ¬ (6 : Int32) ≤ nI k from ngt (show k < 6 by omega) (by decide))]
      exact inner (sX1_hasCatch_2 F f) k (by omega) (fun h => ih (k + 1) (by omega) (by omega)) F 0 (by omega) (by omega) (by omega)
  exact outer F 0 (by omega) (by omega)
theorem k_plain (C : CF v x q) : sX1_isPlain v (x + 5) = some (1, v) := by
  unfold sX1_isPlain sX1_isPlain_20 sX1_isPlain_21 sX1_has sX1_has_14
  rw [xI C (a := 5) (i := 10) (k := 0) (by decide), br_pos (by decide), g00, cl_some]
  show br ((0 : Int32) = 0) (br (hI v (x + 5) 7 = 0) _ _) _ = _
  rw [b00, xI C (a := 5) (i := 7) (k := 0) (by decide), b00, g11]
theorem k_solve (C : CF v x q) (hm : x + 513 ≤ m) (hF : 2000 ≤ F) : Sat (sX11_solve F v x) fun o => o.1 = -103 ∧ Fl m v o.2 := by
  unfold sX11_solve sX11_solve_10 sX11_solve_20 sX11_solve_71 sX11_solve_78 sX9_clear
  rw [xR0 C (i := 2) (b := 5) (by decide), cl_some, k_plain C, cl_some]
  show Sat (br ((1 : Int32) = 0) _ _) _
  rw [b10]
  show Sat (cl (hR v x 2) _) _
  rw [xR0 C (i := 2) (b := 5) (by decide), cl_some]
  show Sat (cl (sX1_hasCatch F v (x + 5)) _) _
  rw [k_catch C hF, cl_some]
  show Sat (br ((1 : Int32) = 0) _ _) _
  rw [b10]
  show Sat (cl (hR v x 0) _) _
  rw [xR0 C (i := 0) (b := 1) (by decide), cl_some, nm_eq, cl_some]
  exact s_some ⟨rfl, Fl.wI (by omega) _ _ _⟩
theorem r_ev {a b : Option (Int32 × Hp)} {u : Hp} {c : Option (Int32 × Qs)} {k : Int32} (hu : hS u = m) (M : v = rel u r) (h : ckB r = true) (e : a = c.map (rm2 u)) (he : okV c k (97, 1023333) = true) : Sat a fun o => o.1 = k ∧ o.2.1 = v.1 := by
  obtain ⟨q', h1, h2⟩ := okV_e he
  refine ⟨(k, rel u q'), by rw [e, h1]; rfl, rfl, ?_⟩
  rw [M]
  show (hS u + q'.1.1, hL u + q'.1.2) = (hS u + r.1.1, hL u + r.1.2)
  rw [h2, ckB_1 h]
theorem r_rules (M : MF v m r) : Sat (sX15_rules 3000 v m) fun o => o.1 = -1 ∧ o.2.1 = v.1 := by
  obtain ⟨h0, u, hu, e⟩ := M
  have := e_X15_rules (u := u) (F := 3000) (h := r) (x0 := 0)
  subst hu
  rw [← e] at this
  exact r_ev (b := none) rfl e h0 this (ckB_all h0).2.2.2.2.2.2.1
theorem r_position (M : MF v m r) : Sat (sX15_position 3000 v m) fun o => o.1 = -200 ∧ o.2.1 = v.1 := by
  obtain ⟨h0, u, hu, e⟩ := M
  have := e_X15_position (u := u) (F := 3000) (h := r) (x0 := 0)
  subst hu
  rw [← e] at this
  exact r_ev (b := none) rfl e h0 this (ckB_all h0).2.2.2.2.2.2.2.1
theorem r_solve (M : MF v m r) : Sat (sX15_solve 3000 v m) fun o => o.1 = -103 ∧ o.2.1 = v.1 := by
  obtain ⟨h0, u, hu, e⟩ := M
  have := e_X15_solve (u := u) (F := 3000) (h := r) (x0 := 0)
  subst hu
  rw [← e] at this
  exact r_ev (b := none) rfl e h0 this (ckB_all h0).2.2.2.2.2.2.2.2
end
