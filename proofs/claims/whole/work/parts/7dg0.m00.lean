section
/-! tokens of a text: what a reader of rules sees -/
theorem i1n0 : ¬ (1 : Int32) = 0 := by decide
abbrev Bl (v : Int) : Prop := v = 32 ∨ v = 10
abbrev Lw (v : Int) : Prop := 97 ≤ v ∧ v ≤ 122
abbrev Dg (v : Int) : Prop := 48 ≤ v ∧ v ≤ 57
/-- a run from d to e -/
def Run (P : Int → Prop) (T : Nat → Int) (N d e : Int) : Prop := 0 ≤ d ∧ d ≤ e ∧ e ≤ N ∧ (∀ j : Nat, d ≤ (j : Int) → (j : Int) < e → P (T j)) ∧ (e < N → ¬ P (T e.toNat))
theorem run_u {P : Int → Prop} {T : Nat → Int} {N d e e' : Int} (A : Run P T N d e) (B : Run P T N d e') : e = e' := by
  obtain ⟨a0, a1, a2, a3, a4⟩ := A
  obtain ⟨b0, b1, b2, b3, b4⟩ := B
  rcases Int.lt_trichotomy e e' with l | l | l
  · exact absurd (b3 e.toNat (by omega) (by omega)) (a4 (by omega))
  · exact l
  · exact absurd (a3 e'.toNat (by omega) (by omega)) (b4 (by omega))
theorem run_0 {P : Int → Prop} {T : Nat → Int} {N d : Int} (h0 : 0 ≤ d) (h1 : d ≤ N) (h2 : d < N → ¬ P (T d.toNat)) : Run P T N d d := ⟨h0, Int.le_refl _, h1, fun j a b => by omega, h2⟩
theorem run_s {P : Int → Prop} {T : Nat → Int} {N d e : Int} (h0 : 0 ≤ d) (p : P (T d.toNat)) (R : Run P T N (d + 1) e) : Run P T N d e := by
  obtain ⟨a0, a1, a2, a3, a4⟩ := R
  refine ⟨h0, by omega, a2, fun j j1 j2 => ?_, a4⟩
  by_cases z : (j : Int) = d
  · have y : j = d.toNat := by omega
    rw [y]; exact p
  · exact a3 j (by omega) j2
/-- the value of one digit or two -/
def vl (T : Nat → Int) (d e : Int) : Int := if e - d = 1 then T d.toNat - 48 else 10 * (T d.toNat - 48) + T (d + 1).toNat - 48
/-- the token that is read from p on: it stands from s to e -/
def Tk (T : Nat → Int) (N p s e k v : Int) : Prop := Run Bl T N p s ∧ ((s = N ∧ k = 0 ∧ e = N) ∨ (s < N ∧ (
   (Lw (T s.toNat) ∧ k = 1 ∧ Run Lw T N s e) ∨
   (Dg (T s.toNat) ∧ Run Dg T N s e ∧ ((e - s ≤ 2 ∧ k = 2 ∧ v = vl T s e) ∨ (2 < e - s ∧ k = 5))) ∨
   (T s.toNat = 45 ∧ Run Dg T N (s + 1) e ∧ ((s + 1 < e ∧ e - (s + 1) ≤ 2 ∧ k = 2 ∧ v = - vl T (s + 1) e) ∨ ((e = s + 1 ∨ 2 < e - (s + 1)) ∧ k = 5))) ∨
   (T s.toNat = 59 ∧ k = 3 ∧ e = s + 1) ∨ (T s.toNat = 44 ∧ k = 4 ∧ e = s + 1) ∨
   (¬ Lw (T s.toNat) ∧ ¬ Dg (T s.toNat) ∧ ¬ T s.toNat = 45 ∧ ¬ T s.toNat = 59 ∧ ¬ T s.toNat = 44 ∧ k = 5 ∧ e = s + 1))))
theorem tk_u {T : Nat → Int} {N p s e k v s' e' k' v' : Int} (A : Tk T N p s e k v) (B : Tk T N p s' e' k' v') : s = s' ∧ e = e' ∧ k = k' ∧ (k = 2 → v = v') := by
  obtain ⟨r1, c1⟩ := A
  obtain ⟨r2, c2⟩ := B
  have y := run_u r1 r2
  subst y
  refine ⟨rfl, ?_⟩
  rcases c1 with ⟨x1, x2, x3⟩ | ⟨x1, c1⟩
  · rcases c2 with ⟨y1, y2, y3⟩ | ⟨y1, c2⟩
    · exact ⟨by omega, by omega, fun z => by omega⟩
    · omega
  · rcases c2 with ⟨y1, y2, y3⟩ | ⟨y1, c2⟩
    · omega
    · rcases c1 with ⟨x2, x3, x4⟩ | ⟨x2, x3, x4⟩ | ⟨x2, x3, x4⟩ | ⟨x2, x3, x4⟩ | ⟨x2, x3, x4⟩ | ⟨x2, x3, x4, x5, x6, x7, x8⟩ <;> rcases c2 with ⟨y2, y3, y4⟩ | ⟨y2, y3, y4⟩ | ⟨y2, y3, y4⟩ | ⟨y2, y3, y4⟩ | ⟨y2, y3, y4⟩ | ⟨y2, y3, y4, y5, y6, y7, y8⟩
      all_goals first
        | (exfalso; omega)
        | exact ⟨by omega, by omega, fun z => by omega⟩
        | (have z := run_u x4 y4; subst z; exact ⟨rfl, by omega, fun z => by omega⟩)
        | (have z := run_u x3 y3; subst z; exact ⟨rfl, by omega, fun z => by omega⟩)
/-- a text of the class, as the reader x0 has it -/
def CT (T : Nat → Int) (N : Int) (t x0 : Nat) (h : Hp) : Prop := hR h x0 0 = some t ∧ ¬ t = x0 ∧ (hI h t 1).toInt = N ∧ ∃ b, hR h t 0 = some b ∧ ¬ b = x0 ∧ ∀ i : Nat, (i : Int) < N → (hI h b i).toInt = T i
/-- the places of the reader's token alone change -/
def Kx (x0 : Nat) (h o : Hp) : Prop := ((∀ a i, hR o a i = hR h a i) ∧ ∀ a i, hJ o a i = hJ h a i) ∧ ∀ a i, ¬ (a = x0 ∧ 2 ≤ i ∧ i ≤ 5) → hI o a i = hI h a i
section
variable {T : Nat → Int} {N : Int} {t x0 F : Nat} {h o g : Hp} {x : Int32}
theorem kx_0 : Kx x0 h h := ⟨⟨fun _ _ => rfl, fun _ _ => rfl⟩, fun _ _ _ => rfl⟩
theorem kx_t (A : Kx x0 h g) (B : Kx x0 g o) : Kx x0 h o := ⟨⟨fun a i => (B.1.1 a i).trans (A.1.1 a i), fun a i => (B.1.2 a i).trans (A.1.2 a i)⟩, fun a i n => (B.2 a i n).trans (A.2 a i n)⟩
theorem kx_w {i : Nat} {v : Int32} (l : 2 ≤ i ∧ i ≤ 5) : Kx x0 h (wI h x0 i v) := ⟨⟨fun _ _ => rfl, fun _ _ => rfl⟩, fun a j n => by rw [r_I, if_neg (fun z => n ⟨z.1, by rw [z.2]; exact l⟩)]⟩
theorem ct_k (C : CT T N t x0 h) (K : Kx x0 h o) : CT T N t x0 o := by
  obtain ⟨a, b, c, bb, d, e, f⟩ := C
  exact ⟨by rw [K.1.1]; exact a, b, by rw [K.2 t 1 (fun z => b z.1)]; exact c, bb, by rw [K.1.1]; exact d, e, fun i hi => by rw [K.2 bb i (fun z => e z.1)]; exact f i hi⟩
theorem byte_c {o : Int32 × Hp} (C : CT T N t x0 h) (e : sX9_byteAt h t x = some o) : o.2 = h ∧ ((0 ≤ x.toInt ∧ x.toInt < N ∧ o.1.toInt = T x.toInt.toNat) ∨ (¬ (0 ≤ x.toInt ∧ x.toInt < N) ∧ o.1 = -1)) := by
  have z0 : (0 : Int32).toInt = 0 := rfl
  unfold sX9_byteAt sX9_byteAt_21 sX9_byteAt_22 at e
  replace e := br_s e
  rcases e with ⟨l, e⟩ | ⟨l, e⟩
  · have l := lt_i l
    rw [← Option.some.inj e]; exact ⟨rfl, Or.inr ⟨fun z => by omega, rfl⟩⟩
  have l := nlt_i l
  replace e := br_s e
  rcases e with ⟨l2, e⟩ | ⟨l2, e⟩
  · have l2 := le_i l2
    rw [C.2.2.1] at l2
    rw [← Option.some.inj e]; exact ⟨rfl, Or.inr ⟨fun z => by omega, rfl⟩⟩
  have l2 := nle_i l2
  rw [C.2.2.1] at l2
  replace e := cl_s e
  obtain ⟨b, eb, e⟩ := e
  replace e := (gd_s e).2
  obtain ⟨_, _, _, bb, d, _, f⟩ := C
  have y : b = bb := r_eq d eb
  have nx := nc_i (x := x) (by omega)
  rw [← Option.some.inj e]
  refine ⟨rfl, Or.inl ⟨by omega, l2, ?_⟩⟩
  show (hI h b x.toNatClampNeg).toInt = _
  rw [y, f _ (by omega)]
  have w : x.toNatClampNeg = x.toInt.toNat := by omega
  rw [w]
theorem let_c {o : Int32 × Hp} (e : sX2_isLetter h x = some o) : o.2 = h ∧ ((o.1 = 0 ∧ ¬ Lw x.toInt) ∨ (¬ o.1 = 0 ∧ Lw x.toInt)) := by
  have z1 : (97 : Int32).toInt = 97 := rfl
  have z2 : (122 : Int32).toInt = 122 := rfl
  unfold sX2_isLetter sX2_isLetter_16 sX2_isLetter_17 at e
  replace e := br_s e
  rcases e with ⟨l, e⟩ | ⟨l, e⟩
  · have l := lt_i l
    rw [← Option.some.inj (gd_s e).2]; exact ⟨rfl, Or.inl ⟨rfl, by omega⟩⟩
  have l := nlt_i l
  replace e := br_s e
  rcases e with ⟨l2, e⟩ | ⟨l2, e⟩
  · have l2 := lt_i l2
    rw [← Option.some.inj (gd_s e).2]; exact ⟨rfl, Or.inl ⟨rfl, by omega⟩⟩
  have l2 := nlt_i l2
  rw [← Option.some.inj (gd_s e).2]; exact ⟨rfl, Or.inr ⟨i1n0, by omega⟩⟩
theorem dig_c {o : Int32 × Hp} (e : sX2_isDigit h x = some o) : o.2 = h ∧ ((o.1 = 0 ∧ ¬ Dg x.toInt) ∨ (¬ o.1 = 0 ∧ Dg x.toInt)) := by
  have z1 : (48 : Int32).toInt = 48 := rfl
  have z2 : (57 : Int32).toInt = 57 := rfl
  unfold sX2_isDigit sX2_isDigit_16 sX2_isDigit_17 at e
  replace e := br_s e
  rcases e with ⟨l, e⟩ | ⟨l, e⟩
  · have l := lt_i l
    rw [← Option.some.inj (gd_s e).2]; exact ⟨rfl, Or.inl ⟨rfl, by omega⟩⟩
  have l := nlt_i l
  replace e := br_s e
  rcases e with ⟨l2, e⟩ | ⟨l2, e⟩
  · have l2 := lt_i l2
    rw [← Option.some.inj (gd_s e).2]; exact ⟨rfl, Or.inl ⟨rfl, by omega⟩⟩
  have l2 := nlt_i l2
  rw [← Option.some.inj (gd_s e).2]; exact ⟨rfl, Or.inr ⟨i1n0, by omega⟩⟩
theorem small_r {o : Int32 × Hp} (e : sX15_isSmall h x = some o) : o.2 = h ∧ ((o.1 = 0 ∧ ¬ Lw x.toInt) ∨ (¬ o.1 = 0 ∧ Lw x.toInt)) := let_c e
theorem dig_r {o : Int32 × Hp} (e : sX15_isDigit h x = some o) : o.2 = h ∧ ((o.1 = 0 ∧ ¬ Dg x.toInt) ∨ (¬ o.1 = 0 ∧ Dg x.toInt)) := dig_c e
/-- blanks of the class -/
theorem ad_8 (n12 : N ≤ 1200) : ∀ (f : Nat) {h o : Hp}, CT T N t x0 h → 0 ≤ (hI h x0 2).toInt → (hI h x0 2).toInt ≤ N → sX2_advance_8 F f h x0 = some o → ∃ g, Kx x0 h g ∧ Run Bl T N (hI h x0 2).toInt (hI g x0 2).toInt ∧ sX2_advance_67 F g x0 = some o := by
  have z1 : (1 : Int32).toInt = 1 := rfl
  have z32 : (32 : Int32).toInt = 32 := rfl
  have z10 : (10 : Int32).toInt = 10 := rfl
  intro f
  induction f with
  | zero => intro h o _ _ _ e; exact absurd e (by rw [sX2_advance_8]; exact fun z => nomatch z)
  | succ f ih =>
    intro h o C s0 sN e
    rw [sX2_advance_8] at e
    replace e := cl_s e
    obtain ⟨r1, e1, e⟩ := e
    have y1 : r1 = t := r_eq C.1 e1
    rw [y1] at e
    replace e := br_s e
    rcases e with ⟨l, e⟩ | ⟨l, e⟩
    · have l := le_i l
      rw [C.2.2.1] at l
      exact ⟨h, kx_0, run_0 s0 sN (fun z => by omega), e⟩
    have l := nle_i l
    rw [C.2.2.1] at l
    replace e := cl_s e
    obtain ⟨r3, e3, e⟩ := e
    have y3 : r3 = t := r_eq C.1 e3
    rw [y3] at e
    replace e := cl_s e
    obtain ⟨o4, e4, e⟩ := e
    obtain ⟨q4, v4⟩ := byte_c C e4
    rw [q4] at e
    have v4 : o4.1.toInt = T (hI h x0 2).toInt.toNat := v4.elim (fun z => z.2.2) (fun z => absurd ⟨s0, l⟩ z.1)
    have step : Bl (T (hI h x0 2).toInt.toNat) → sX2_advance_54 F (sX2_advance_8 F f) h x0 = some o → ∃ g, Kx x0 h g ∧ Run Bl T N (hI h x0 2).toInt (hI g x0 2).toInt ∧ sX2_advance_67 F g x0 = some o := fun hb e => by
      unfold sX2_advance_54 at e
      replace e := nm_s e
      obtain ⟨h5, w5, e⟩ := e
      have t5 : (hI h5 x0 2).toInt = (hI h x0 2).toInt + 1 := by rw [w5, rI_s, ta (by rw [z1]; omega), z1]
      have K5 : Kx x0 h h5 := by rw [w5]; exact kx_w (by omega)
      obtain ⟨g, Kg, R, eg⟩ := ih (ct_k C K5) (by omega) (by omega) e
      rw [t5] at R
      exact ⟨g, kx_t K5 Kg, run_s s0 hb R, eg⟩
    replace e := br_s e
    rcases e with ⟨b1, e⟩ | ⟨b1, e⟩
    · exact step (Or.inl (by rw [← v4, b1]; rfl)) e
    replace e := cl_s e
    obtain ⟨r6, e6, e⟩ := e
    have y6 : r6 = t := r_eq C.1 e6
    rw [y6] at e
    replace e := cl_s e
    obtain ⟨o7, e7, e⟩ := e
    obtain ⟨q7, v7⟩ := byte_c C e7
    rw [q7] at e
    have v7 : o7.1.toInt = T (hI h x0 2).toInt.toNat := v7.elim (fun z => z.2.2) (fun z => absurd ⟨s0, l⟩ z.1)
    replace e := br_s e
    rcases e with ⟨b2, e⟩ | ⟨b2, e⟩
    · exact step (Or.inr (by rw [← v7, b2]; rfl)) e
    have b1 := ne_i b1
    have b2 := ne_i b2
    exact ⟨h, kx_0, run_0 s0 sN (fun _ z => by omega), e⟩
/-- letters of the class -/
theorem ad_122 (n12 : N ≤ 1200) : ∀ (f : Nat) {h o : Hp}, CT T N t x0 h → 0 ≤ (hI h x0 3).toInt → (hI h x0 3).toInt ≤ N → sX2_advance_122 F f h x0 = some o → Kx x0 h o ∧ Run Lw T N (hI h x0 3).toInt (hI o x0 3).toInt ∧ hI o x0 2 = hI h x0 2 ∧ hI o x0 4 = hI h x0 4 := by
  have z1 : (1 : Int32).toInt = 1 := rfl
  intro f
  induction f with
  | zero => intro h o _ _ _ e; exact absurd e (by rw [sX2_advance_122]; exact fun z => nomatch z)
  | succ f ih =>
    intro h o C s0 sN e
    rw [sX2_advance_122] at e
    replace e := cl_s e
    obtain ⟨r1, e1, e⟩ := e
    have y1 : r1 = t := r_eq C.1 e1
    rw [y1] at e
    replace e := br_s e
    rcases e with ⟨l, e⟩ | ⟨l, e⟩
    · have l := le_i l
      rw [C.2.2.1] at l
      unfold sX2_advance_230 at e
      rw [← Option.some.inj e]
      exact ⟨kx_0, run_0 s0 sN (fun z => by omega), rfl, rfl⟩
    have l := nle_i l
    rw [C.2.2.1] at l
    replace e := cl_s e
    obtain ⟨r3, e3, e⟩ := e
    have y3 : r3 = t := r_eq C.1 e3
    rw [y3] at e
    replace e := cl_s e
    obtain ⟨o4, e4, e⟩ := e
    obtain ⟨q4, v4⟩ := byte_c C e4
    rw [q4] at e
    have v4 : o4.1.toInt = T (hI h x0 3).toInt.toNat := v4.elim (fun z => z.2.2) (fun z => absurd ⟨s0, l⟩ z.1)
    replace e := cl_s e
    obtain ⟨o5, e5, e⟩ := e
    obtain ⟨q5, v5⟩ := let_c e5
    rw [q5] at e
    rw [v4] at v5
    replace e := br_s e
    rcases e with ⟨b1, e⟩ | ⟨b1, e⟩
    · unfold sX2_advance_230 at e
      rw [← Option.some.inj e]
      exact ⟨kx_0, run_0 s0 sN (fun _ => v5.elim (fun z => z.2) (fun z => absurd b1 z.1)), rfl, rfl⟩
    replace e := nm_s e
    obtain ⟨h7, w7, e⟩ := e
    have t7 : (hI h7 x0 3).toInt = (hI h x0 3).toInt + 1 := by rw [w7, rI_s, ta (by rw [z1]; omega), z1]
    have K7 : Kx x0 h h7 := by rw [w7]; exact kx_w (by omega)
    obtain ⟨Kg, R, f2, f4⟩ := ih (ct_k C K7) (by omega) (by omega) e
    rw [t7] at R
    refine ⟨kx_t K7 Kg, run_s s0 (v5.elim (fun z => absurd z.1 b1) (fun z => z.2)) R, ?_, ?_⟩
    · rw [f2, w7]; exact rI_o (by decide)
    · rw [f4, w7]; exact rI_o (by decide)
/-- digits of the class: value is that of the first two at most -/
def Vz (T : Nat → Int) (d e v : Int) : Prop := (e = d → v = 0) ∧ (e = d + 1 → v = T d.toNat - 48) ∧ (d + 2 ≤ e → v = 10 * (T d.toNat - 48) + T (d + 1).toNat - 48)
theorem sc_10 (n12 : N ≤ 1200) {x1 : Int32} (x10 : 0 ≤ x1.toInt) (dg : ∀ j : Nat, (j : Int) < N → 0 ≤ T j ∧ T j ≤ 255) : ∀ (f : Nat) {h o : Hp}, CT T N t x0 h → x1.toInt ≤ (hI h x0 3).toInt → (hI h x0 3).toInt ≤ N → (∀ j : Nat, x1.toInt ≤ (j : Int) → (j : Int) < (hI h x0 3).toInt → Dg (T j)) → Vz T x1.toInt (hI h x0 3).toInt (hI h x0 5).toInt → sX2_scanNumber_10 F f h x0 x1 = some o → ∃ g, Kx x0 h g ∧ hI g x0 2 = hI h x0 2 ∧ Run Dg T N x1.toInt (hI g x0 3).toInt ∧ Vz T x1.toInt (hI g x0 3).toInt (hI g x0 5).toInt ∧ sX2_scanNumber_97 F g x0 x1 = some o := by
  have z1 : (1 : Int32).toInt = 1 := rfl
  have z2 : (2 : Int32).toInt = 2 := rfl
  have z10 : (10 : Int32).toInt = 10 := rfl
  have z48 : (48 : Int32).toInt = 48 := rfl
  intro f
  induction f with
  | zero => intro h o _ _ _ _ _ e; exact absurd e (by rw [sX2_scanNumber_10]; exact fun z => nomatch z)
  | succ f ih =>
    intro h o C s0 sN D V e
    rw [sX2_scanNumber_10] at e
    replace e := cl_s e
    obtain ⟨r1, e1, e⟩ := e
    have y1 : r1 = t := r_eq C.1 e1
    rw [y1] at e
    replace e := br_s e
    rcases e with ⟨l, e⟩ | ⟨l, e⟩
    · have l := le_i l
      rw [C.2.2.1] at l
      exact ⟨h, kx_0, rfl, ⟨x10, s0, sN, D, fun z => by omega⟩, V, e⟩
    have l := nle_i l
    rw [C.2.2.1] at l
    replace e := cl_s e
    obtain ⟨r3, e3, e⟩ := e
    have y3 : r3 = t := r_eq C.1 e3
    rw [y3] at e
    replace e := cl_s e
    obtain ⟨o4, e4, e⟩ := e
    obtain ⟨q4, v4⟩ := byte_c C e4
    rw [q4] at e
    have v4 : o4.1.toInt = T (hI h x0 3).toInt.toNat := v4.elim (fun z => z.2.2) (fun z => absurd ⟨by omega, l⟩ z.1)
    replace e := cl_s e
    obtain ⟨o5, e5, e⟩ := e
    obtain ⟨q5, v5⟩ := dig_c e5
    rw [q5] at e
    rw [v4] at v5
    replace e := br_s e
    rcases e with ⟨b1, e⟩ | ⟨b1, e⟩
    · exact ⟨h, kx_0, rfl, ⟨x10, s0, sN, D, fun _ => v5.elim (fun z => z.2) (fun z => absurd b1 z.1)⟩, V, e⟩
    have d5 : Dg (T (hI h x0 3).toInt.toNat) := v5.elim (fun z => absurd z.1 b1) (fun z => z.2)
    have ds : ((hI h x0 3) - x1).toInt = (hI h x0 3).toInt - x1.toInt := ts (by omega)
    -- one digit on
    have step : ∀ {t0 : Int32}, Vz T x1.toInt ((hI h x0 3).toInt + 1) t0.toInt → sX2_scanNumber_81 F (sX2_scanNumber_10 F f) h x0 x1 t0 x0 = some o → ∃ g, Kx x0 h g ∧ hI g x0 2 = hI h x0 2 ∧ Run Dg T N x1.toInt (hI g x0 3).toInt ∧ Vz T x1.toInt (hI g x0 3).toInt (hI g x0 5).toInt ∧ sX2_scanNumber_97 F g x0 x1 = some o := fun {t0} hv e => by
      unfold sX2_scanNumber_81 at e
      replace e := nm_s e
      obtain ⟨h6, w6, e⟩ := e
      replace e := nm_s e
      obtain ⟨h7, w7, e⟩ := e
      have a3 : hI h6 x0 3 = hI h x0 3 := by rw [w6]; exact rI_o (by decide)
      have t7 : (hI h7 x0 3).toInt = (hI h x0 3).toInt + 1 := by rw [w7, rI_s, a3, ta (by rw [z1]; omega), z1]
      have a5 : hI h7 x0 5 = t0 := by rw [w7, rI_o (by decide), w6, rI_s]
      have K7 : Kx x0 h h7 := by rw [w7]; refine kx_t ?_ (kx_w (by omega)); rw [w6]; exact kx_w (by omega)
      obtain ⟨g, Kg, f2, R, Vg, eg⟩ := ih (ct_k C K7) (by omega) (by omega) (fun j j1 j2 => by
        by_cases z : (j : Int) = (hI h x0 3).toInt
        · have y : j = (hI h x0 3).toInt.toNat := by omega
          rw [y]; exact d5
        · exact D j j1 (by omega)) (by rw [t7, a5]; exact hv) e
      refine ⟨g, kx_t K7 Kg, ?_, R, Vg, eg⟩
      rw [f2, w7, rI_o (by decide), w6]; exact rI_o (by decide)
    replace e := br_s e
    rcases e with ⟨b2, e⟩ | ⟨b2, e⟩
    · have b2 := le_i b2
      rw [ds, z2] at b2
      refine step ⟨fun z => by omega, fun z => by omega, fun _ => ?_⟩ e
      exact V.2.2 (by omega)
    have b2 := nle_i b2
    rw [ds, z2] at b2
    replace e := cl_s e
    obtain ⟨r8, e8, e⟩ := e
    have y8 : r8 = t := r_eq C.1 e8
    rw [y8] at e
    replace e := cl_s e
    obtain ⟨o9, e9, e⟩ := e
    obtain ⟨q9, v9⟩ := byte_c C e9
    rw [q9] at e
    have v9 : o9.1.toInt = T (hI h x0 3).toInt.toNat := v9.elim (fun z => z.2.2) (fun z => absurd ⟨by omega, l⟩ z.1)
    refine step ?_ e
    have cs : (hI h x0 3).toInt = x1.toInt ∨ (hI h x0 3).toInt = x1.toInt + 1 := by omega
    have vb : 0 ≤ (hI h x0 5).toInt ∧ (hI h x0 5).toInt ≤ 9 := by
      rcases cs with z | z
      · rw [V.1 z]; omega
      · have := D x1.toInt.toNat (by omega) (by omega)
        rw [V.2.1 z]; omega
    have m10 : ((10 : Int32) * (hI h x0 5)).toInt = 10 * (hI h x0 5).toInt := by rw [tm (by rw [z10]; omega), z10]
    have ad : (((10 : Int32) * (hI h x0 5)) + o9.1).toInt = 10 * (hI h x0 5).toInt + T (hI h x0 3).toInt.toNat := by rw [ta (by rw [m10, v9]; omega), m10, v9]
    have sb : ((((10 : Int32) * (hI h x0 5)) + o9.1) - (48 : Int32)).toInt = 10 * (hI h x0 5).toInt + T (hI h x0 3).toInt.toNat - 48 := by rw [ts (by rw [ad, z48]; omega), ad, z48]
    rw [sb]
    rcases cs with z | z
    · refine ⟨fun y => by omega, fun _ => ?_, fun y => by omega⟩
      rw [V.1 z, z]; omega
    · refine ⟨fun y => by omega, fun y => by omega, fun _ => ?_⟩
      rw [V.2.1 z, z]
end
end
section
/-! the class reads a token -/
section
variable {T : Nat → Int} {N : Int} {t x0 F : Nat} {h o g : Hp} {x : Int32}
theorem neg_t {v : Int32} (l : -2147483648 < v.toInt) : (-v).toInt = - v.toInt := by
  have e : -v = 0 - v := by
    apply Int32.toBitVec_inj.mp
    rw [Int32.toBitVec_neg, Int32.toBitVec_sub]
    exact (BitVec.zero_sub _).symm
  have z0 : (0 : Int32).toInt = 0 := rfl
  have b := Int32.toInt_lt v
  rw [e, ts (by rw [z0]; omega), z0]; omega
/-- what a number's reading leaves -/
theorem sc_k (n12 : N ≤ 1200) (dg : ∀ j : Nat, (j : Int) < N → 0 ≤ T j ∧ T j ≤ 255) {x1 : Int32} (C : CT T N t x0 h) (x10 : 0 ≤ x1.toInt) (x1N : x1.toInt ≤ N) (e : sX2_scanNumber F h x0 x1 = some o) : Kx x0 h o ∧ hI o x0 2 = hI h x0 2 ∧ Run Dg T N x1.toInt (hI o x0 3).toInt ∧ (((x1.toInt < (hI o x0 3).toInt ∧ (hI o x0 3).toInt - x1.toInt ≤ 2) ∧ (hI o x0 4).toInt = 2 ∧ (hI o x0 5).toInt = (if (hI h x0 2).toInt < x1.toInt then - vl T x1.toInt (hI o x0 3).toInt else vl T x1.toInt (hI o x0 3).toInt)) ∨ (((hI o x0 3).toInt = x1.toInt ∨ 2 < (hI o x0 3).toInt - x1.toInt) ∧ (hI o x0 4).toInt = 5)) := by
  have z2 : (2 : Int32).toInt = 2 := rfl
  unfold sX2_scanNumber at e
  replace e := nm_s e
  obtain ⟨h1, w1, e⟩ := e
  replace e := nm_s e
  obtain ⟨h2, w2, e⟩ := e
  have a3 : hI h2 x0 3 = x1 := by rw [w2, rI_s]
  have a5 : hI h2 x0 5 = 0 := by rw [w2, rI_o (by decide), w1, rI_s]
  have a2 : hI h2 x0 2 = hI h x0 2 := by rw [w2, rI_o (by decide), w1, rI_o (by decide)]
  have K2 : Kx x0 h h2 := by rw [w2]; refine kx_t ?_ (kx_w (by omega)); rw [w1]; exact kx_w (by omega)
  obtain ⟨g, Kg, g2, R, V, e⟩ := sc_10 n12 x10 dg F (ct_k C K2) (by rw [a3]; omega) (by rw [a3]; exact x1N) (fun j j1 j2 => by rw [a3] at j2; omega) (by rw [a3, a5]; exact ⟨fun _ => rfl, fun z => by omega, fun z => by omega⟩) e
  have gs : hI g x0 2 = hI h x0 2 := g2.trans a2
  have R' := R
  obtain ⟨_, r1, r2, r3, _⟩ := R'
  have vv : x1.toInt < (hI g x0 3).toInt → (hI g x0 3).toInt - x1.toInt ≤ 2 → (hI g x0 5).toInt = vl T x1.toInt (hI g x0 3).toInt ∧ 0 ≤ (hI g x0 5).toInt := fun l1 l2 => by
    unfold vl
    have d0 := r3 x1.toInt.toNat (by omega) (by omega)
    by_cases q : (hI g x0 3).toInt - x1.toInt = 1
    · rw [if_pos q, V.2.1 (by omega)]
      exact ⟨rfl, by omega⟩
    · have d1 := r3 (x1.toInt + 1).toNat (by omega) (by omega)
      rw [if_neg q, V.2.2 (by omega)]
      exact ⟨rfl, by omega⟩
  -- kind and sign
  have fin : ∀ {k : Int32}, sX2_scanNumber_121 F g x0 x1 k x0 = some o → Kx x0 g o ∧ hI o x0 2 = hI g x0 2 ∧ hI o x0 3 = hI g x0 3 ∧ hI o x0 4 = k ∧ (¬ x1.toInt ≤ (hI g x0 2).toInt → hI o x0 5 = -(hI g x0 5)) ∧ (x1.toInt ≤ (hI g x0 2).toInt → hI o x0 5 = hI g x0 5) := fun {k} e => by
    unfold sX2_scanNumber_121 sX2_scanNumber_141 at e
    replace e := nm_s e
    obtain ⟨h4, w4, e⟩ := e
    have c2 : hI h4 x0 2 = hI g x0 2 := by rw [w4]; exact rI_o (by decide)
    have c5 : hI h4 x0 5 = hI g x0 5 := by rw [w4]; exact rI_o (by decide)
    have K4 : Kx x0 g h4 := by rw [w4]; exact kx_w (by omega)
    replace e := br_s e
    rcases e with ⟨l, e⟩ | ⟨l, e⟩
    · have l := le_i l
      rw [c2] at l
      rw [← Option.some.inj e]
      exact ⟨K4, c2, by rw [w4]; exact rI_o (by decide), by rw [w4, rI_s], fun z => absurd l z, fun _ => c5⟩
    · have l := nle_i l
      rw [c2] at l
      replace e := nm_s e
      obtain ⟨h6, w6, e⟩ := e
      rw [← Option.some.inj e]
      refine ⟨kx_t K4 (by rw [w6]; exact kx_w (by omega)), ?_, ?_, ?_, fun _ => ?_, fun z => by omega⟩
      · rw [w6, rI_o (by decide)]; exact c2
      · rw [w6, rI_o (by decide), w4]; exact rI_o (by decide)
      · rw [w6, rI_o (by decide), w4, rI_s]
      · rw [w6, rI_s, c5]
  unfold sX2_scanNumber_97 sX2_scanNumber_116 at e
  replace e := br_s e
  rcases e with ⟨q, e⟩ | ⟨q, e⟩
  · obtain ⟨K, b2, b3, b4, _⟩ := fin e
    rw [b3, b4]
    exact ⟨kx_t (kx_t K2 Kg) K, b2.trans gs, R, Or.inr ⟨Or.inl (by rw [q]), rfl⟩⟩
  have q := ne_i q
  have ds : ((hI g x0 3) - x1).toInt = (hI g x0 3).toInt - x1.toInt := ts (by omega)
  replace e := br_s e
  rcases e with ⟨q2, e⟩ | ⟨q2, e⟩
  · have q2 := le_i q2
    rw [ds, z2] at q2
    obtain ⟨K, b2, b3, b4, b5, b6⟩ := fin e
    obtain ⟨v1, v2⟩ := vv (by omega) q2
    rw [b3, b4]
    refine ⟨kx_t (kx_t K2 Kg) K, b2.trans gs, R, Or.inl ⟨⟨by omega, q2⟩, rfl, ?_⟩⟩
    rw [← gs]
    by_cases l : (hI g x0 2).toInt < x1.toInt
    · rw [if_pos l, b5 (by omega), neg_t (by omega), v1]
    · rw [if_neg l, b6 (by omega), v1]
  · have q2 := nle_i q2
    rw [ds, z2] at q2
    obtain ⟨K, b2, b3, b4, _⟩ := fin e
    rw [b3, b4]
    exact ⟨kx_t (kx_t K2 Kg) K, b2.trans gs, R, Or.inr ⟨Or.inr q2, rfl⟩⟩
theorem adv_k (n12 : N ≤ 1200) (dg : ∀ j : Nat, (j : Int) < N → 0 ≤ T j ∧ T j ≤ 255) (C : CT T N t x0 h) (p0 : 0 ≤ (hI h x0 3).toInt) (pN : (hI h x0 3).toInt ≤ N) (e : sX2_advance F h x0 = some o) : Kx x0 h o ∧ Tk T N (hI h x0 3).toInt (hI o x0 2).toInt (hI o x0 3).toInt (hI o x0 4).toInt (hI o x0 5).toInt := by
  have z1 : (1 : Int32).toInt = 1 := rfl
  have z45 : (45 : Int32).toInt = 45 := rfl
  have z59 : (59 : Int32).toInt = 59 := rfl
  have z44 : (44 : Int32).toInt = 44 := rfl
  unfold sX2_advance at e
  replace e := nm_s e
  obtain ⟨h1, w1, e⟩ := e
  have a2 : hI h1 x0 2 = hI h x0 3 := by rw [w1, rI_s]
  have K1 : Kx x0 h h1 := by rw [w1]; exact kx_w (by omega)
  obtain ⟨g, Kg, R, e⟩ := ad_8 n12 F (ct_k C K1) (by rw [a2]; exact p0) (by rw [a2]; exact pN) e
  rw [a2] at R
  have Kg := kx_t K1 Kg
  have Cg := ct_k C Kg
  have s0 : 0 ≤ (hI g x0 2).toInt := by have := R.2.1; omega
  have sN : (hI g x0 2).toInt ≤ N := R.2.2.1
  generalize hs : (hI g x0 2).toInt = s at *
  unfold sX2_advance_67 at e
  replace e := cl_s e
  obtain ⟨r1, e1, e⟩ := e
  have y1 : r1 = t := r_eq Cg.1 e1
  rw [y1] at e
  replace e := cl_s e
  obtain ⟨o2, e2, e⟩ := e
  obtain ⟨q2, v2⟩ := byte_c Cg e2
  rw [q2] at e
  rw [hs] at v2
  replace e := nm_s e
  obtain ⟨h3, w3, e⟩ := e
  have c2 : hI h3 x0 2 = hI g x0 2 := by rw [w3]; exact rI_o (by decide)
  have c3 : (hI h3 x0 3).toInt = s + 1 := by rw [w3, rI_s, ta (by rw [z1]; omega), z1, hs]
  have K3 : Kx x0 g h3 := by rw [w3]; exact kx_w (by omega)
  have C3 := ct_k Cg K3
  replace e := br_s e
  rcases e with ⟨b, e⟩ | ⟨b, e⟩
  · -- the end
    have b' : o2.1.toInt = -1 := by rw [b]; rfl
    have sE : s = N := by
      rcases v2 with z | z
      · have := dg s.toNat (by omega); omega
      · have := z.1; omega
    replace e := nm_s e
    obtain ⟨h4, w4, e⟩ := e
    replace e := nm_s e
    obtain ⟨h5, w5, e⟩ := e
    unfold sX2_advance_230 at e
    rw [← Option.some.inj e]
    have d2 : hI h4 x0 2 = hI g x0 2 := by rw [w4, rI_o (by decide)]; exact c2
    have f2 : hI h5 x0 2 = hI g x0 2 := by rw [w5, rI_o (by decide)]; exact d2
    have f3 : hI h5 x0 3 = hI g x0 2 := by rw [w5, rI_s]; exact d2
    have f4 : hI h5 x0 4 = 0 := by rw [w5, rI_o (by decide), w4, rI_s]
    refine ⟨kx_t Kg (kx_t K3 ?_), ?_⟩
    · rw [w5]; refine kx_t ?_ (kx_w (by omega)); rw [w4]; exact kx_w (by omega)
    · rw [f2, f3, f4, hs]
      exact ⟨R, Or.inl ⟨sE, rfl, sE⟩⟩
  have b := ne_i b
  have bm : (-1 : Int32).toInt = -1 := rfl
  have v2 : s < N ∧ o2.1.toInt = T s.toNat := by
    rcases v2 with z | z
    · exact ⟨z.2.1, z.2.2⟩
    · rw [z.2, bm] at b; exact absurd rfl b
  replace e := cl_s e
  obtain ⟨o5, e5, e⟩ := e
  obtain ⟨q5, v5⟩ := let_c e5
  rw [q5] at e
  rw [v2.2] at v5
  -- signs
  have sgn : ∀ {k : Int32}, sX2_advance_227 F h3 k x0 = some o → Kx x0 h o ∧ (hI o x0 2).toInt = s ∧ (hI o x0 3).toInt = s + 1 ∧ hI o x0 4 = k := fun {k} e => by
    unfold sX2_advance_227 sX2_advance_230 at e
    replace e := nm_s e
    obtain ⟨h6, w6, e⟩ := e
    rw [← Option.some.inj e]
    exact ⟨kx_t Kg (kx_t K3 (by rw [w6]; exact kx_w (by omega))), by rw [w6, rI_o (by decide), c2, hs], by rw [w6, rI_o (by decide), c3], by rw [w6, rI_s]⟩
  -- numbers
  have num : (Dg (T s.toNat) ∨ T s.toNat = 45) → sX2_advance_179 F h3 x0 o2.1 = some o → Kx x0 h o ∧ Tk T N (hI h x0 3).toInt (hI o x0 2).toInt (hI o x0 3).toInt (hI o x0 4).toInt (hI o x0 5).toInt := fun hd e => by
    unfold sX2_advance_179 sX2_advance_199 sX2_advance_230 at e
    replace e := br_s e
    rcases e with ⟨m, e⟩ | ⟨m, e⟩
    · have m' : T s.toNat = 45 := by rw [← v2.2, m]; rfl
      replace e := cl_s e
      obtain ⟨o7, e7, e⟩ := e
      have yo := Option.some.inj e
      rw [yo] at e7
      have d1 : ((hI h3 x0 2) + (1 : Int32)).toInt = s + 1 := by rw [c2, ta (by rw [z1]; omega), z1, hs]
      obtain ⟨K7, g2, R7, k7⟩ := sc_k n12 dg C3 (by rw [d1]; omega) (by rw [d1]; omega) e7
      rw [d1] at R7 k7
      rw [c2] at g2 k7
      refine ⟨kx_t Kg (kx_t K3 K7), ?_⟩
      rw [g2, hs]
      rw [hs] at k7
      refine ⟨R, Or.inr ⟨v2.1, Or.inr (Or.inr (Or.inl ⟨m', R7, ?_⟩))⟩⟩
      rcases k7 with ⟨⟨k1, k2⟩, k3, k4⟩ | ⟨k1, k2⟩
      · rw [if_pos (by omega)] at k4
        exact Or.inl ⟨k1, k2, k3, k4⟩
      · exact Or.inr ⟨k1, k2⟩
    · have m' := ne_i m
      have hd : Dg (T s.toNat) := by rw [v2.2, z45] at m'; exact hd.resolve_right m'
      replace e := cl_s e
      obtain ⟨o7, e7, e⟩ := e
      have yo := Option.some.inj e
      rw [yo] at e7
      rw [c2] at e7
      obtain ⟨K7, g2, R7, k7⟩ := sc_k n12 dg C3 (by rw [hs]; omega) (by rw [hs]; omega) e7
      rw [hs] at R7 k7
      rw [c2] at g2 k7
      refine ⟨kx_t Kg (kx_t K3 K7), ?_⟩
      rw [g2, hs]
      rw [hs] at k7
      refine ⟨R, Or.inr ⟨v2.1, Or.inr (Or.inl ⟨hd, R7, ?_⟩)⟩⟩
      rcases k7 with ⟨⟨k1, k2⟩, k3, k4⟩ | ⟨k1, k2⟩
      · rw [if_neg (by omega)] at k4
        exact Or.inl ⟨k2, k3, k4⟩
      · rcases k1 with k1 | k1
        · have nd := R7.2.2.2.2 (by omega)
          rw [k1] at nd
          exact absurd hd nd
        · exact Or.inr ⟨k1, k2⟩
  replace e := br_s e
  rcases e with ⟨b5, e⟩ | ⟨b5, e⟩
  · have nl : ¬ Lw (T s.toNat) := v5.elim (fun z => z.2) (fun z => absurd b5 z.1)
    replace e := cl_s e
    obtain ⟨o7, e7, e⟩ := e
    obtain ⟨q7, v7⟩ := dig_c e7
    rw [q7] at e
    rw [v2.2] at v7
    replace e := br_s e
    rcases e with ⟨b7, e⟩ | ⟨b7, e⟩
    · have nd : ¬ Dg (T s.toNat) := v7.elim (fun z => z.2) (fun z => absurd b7 z.1)
      replace e := br_s e
      rcases e with ⟨b8, e⟩ | ⟨b8, e⟩
      · exact num (Or.inr (by rw [← v2.2, b8]; rfl)) e
      have b8 := ne_i b8
      rw [v2.2, z45] at b8
      replace e := br_s e
      rcases e with ⟨b9, e⟩ | ⟨b9, e⟩
      · have m9 : T s.toNat = 59 := by rw [← v2.2, b9]; rfl
        obtain ⟨K, f2, f3, f4⟩ := sgn e
        rw [f2, f3, f4]
        exact ⟨K, R, Or.inr ⟨v2.1, Or.inr (Or.inr (Or.inr (Or.inl ⟨m9, rfl, rfl⟩)))⟩⟩
      have b9 := ne_i b9
      rw [v2.2, z59] at b9
      replace e := br_s e
      rcases e with ⟨b10, e⟩ | ⟨b10, e⟩
      · have m9 : T s.toNat = 44 := by rw [← v2.2, b10]; rfl
        obtain ⟨K, f2, f3, f4⟩ := sgn e
        rw [f2, f3, f4]
        exact ⟨K, R, Or.inr ⟨v2.1, Or.inr (Or.inr (Or.inr (Or.inr (Or.inl ⟨m9, rfl, rfl⟩))))⟩⟩
      have b10 := ne_i b10
      rw [v2.2, z44] at b10
      obtain ⟨K, f2, f3, f4⟩ := sgn e
      rw [f2, f3, f4]
      exact ⟨K, R, Or.inr ⟨v2.1, Or.inr (Or.inr (Or.inr (Or.inr (Or.inr ⟨nl, nd, b8, b9, b10, rfl, rfl⟩))))⟩⟩
    · exact num (Or.inl (v7.elim (fun z => absurd z.1 b7) (fun z => z.2))) e
  · have hl : Lw (T s.toNat) := v5.elim (fun z => absurd z.1 b5) (fun z => z.2)
    replace e := nm_s e
    obtain ⟨h12, w12, e⟩ := e
    have K12 : Kx x0 h3 h12 := by rw [w12]; exact kx_w (by omega)
    have c12 : hI h12 x0 3 = hI h3 x0 3 := by rw [w12]; exact rI_o (by decide)
    obtain ⟨K, R12, f2, f4⟩ := ad_122 n12 F (ct_k C3 K12) (by rw [c12, c3]; omega) (by rw [c12, c3]; omega) e
    rw [c12, c3] at R12
    refine ⟨kx_t Kg (kx_t K3 (kx_t K12 K)), ?_⟩
    rw [f2, f4, w12, rI_s, rI_o (by decide), c2, hs]
    exact ⟨R, Or.inr ⟨v2.1, Or.inl ⟨hl, rfl, run_s s0 hl R12⟩⟩⟩
end
end
section
/-! the reference reads a token -/
def sg (v : Int) : Int := if v < 128 then v else v - 256
def km (k : Int) : Int := if k = 0 then 4 else if k = 4 then 3 else k
def RT (T : Nat → Int) (N : Int) (x1 : Nat) (h : Hp) : Prop := ∀ i : Nat, (i : Int) < N → (hI h x1 i).toInt = sg (T i)
def Kr (x0 : Nat) (h o : Hp) : Prop := ((∀ a i, hR o a i = hR h a i) ∧ ∀ a i, hJ o a i = hJ h a i) ∧ ∀ a i, ¬ (a = x0 ∧ 6 ≤ i ∧ i ≤ 9) → hI o a i = hI h a i
section
variable {T : Nat → Int} {N : Int} {x0 x1 F : Nat} {h o g : Hp} {x2 x3 x4 x5 x6 : Int32}
theorem kr_0 : Kr x0 h h := ⟨⟨fun _ _ => rfl, fun _ _ => rfl⟩, fun _ _ _ => rfl⟩
theorem kr_t (A : Kr x0 h g) (B : Kr x0 g o) : Kr x0 h o := ⟨⟨fun a i => (B.1.1 a i).trans (A.1.1 a i), fun a i => (B.1.2 a i).trans (A.1.2 a i)⟩, fun a i n => (B.2 a i n).trans (A.2 a i n)⟩
theorem kr_w {i : Nat} {v : Int32} (l : 6 ≤ i ∧ i ≤ 9) : Kr x0 h (wI h x0 i v) := ⟨⟨fun _ _ => rfl, fun _ _ => rfl⟩, fun a j n => by rw [r_I, if_neg (fun z => n ⟨z.1, by rw [z.2]; exact l⟩)]⟩
theorem rt_k (n : ¬ x1 = x0) (C : RT T N x1 h) (K : Kr x0 h o) : RT T N x1 o := fun i hi => by rw [K.2 x1 i (fun z => n z.1)]; exact C i hi
theorem sg_l {v : Int} (b : 0 ≤ v ∧ v ≤ 255) : Lw (sg v) ↔ Lw v := by unfold sg; split <;> omega
theorem sg_d {v : Int} (b : 0 ≤ v ∧ v ≤ 255) : Dg (sg v) ↔ Dg v := by unfold sg; split <;> omega
theorem sg_e {v k : Int} (b : 0 ≤ v ∧ v ≤ 255) (l : 0 ≤ k ∧ k < 128) : sg v = k ↔ v = k := by unfold sg; split <;> omega
theorem sg_s {v : Int} (d : Dg v) : sg v = v := by unfold sg; rw [if_pos (by omega)]
theorem byte_r {o : Int32 × Hp} (C : RT T N x1 h) (n2 : x2.toInt = N) (x30 : 0 ≤ x3.toInt) (e : sX15_byteAt h x0 x1 x2 x3 = some o) : o.2 = h ∧ ((N ≤ x3.toInt ∧ o.1 = -1) ∨ (x3.toInt < N ∧ o.1.toInt = sg (T x3.toInt.toNat))) := by
  unfold sX15_byteAt sX15_byteAt_12 at e
  replace e := br_s e
  rcases e with ⟨l, e⟩ | ⟨l, e⟩
  · have l := le_i l
    rw [n2] at l
    rw [← Option.some.inj e]; exact ⟨rfl, Or.inl ⟨l, rfl⟩⟩
  have l := nle_i l
  rw [n2] at l
  replace e := (gd_s e).2
  have nx := nc_i x30
  rw [← Option.some.inj e]
  refine ⟨rfl, Or.inr ⟨l, ?_⟩⟩
  show (hI h x1 x3.toNatClampNeg).toInt = _
  rw [C _ (by omega)]
  have w : x3.toNatClampNeg = x3.toInt.toNat := by omega
  rw [w]
theorem nt_5 (n12 : N ≤ 1220) (dg : ∀ j : Nat, (j : Int) < N → 0 ≤ T j ∧ T j ≤ 255) (C : RT T N x1 h) (n2 : x2.toInt = N) : ∀ (f : Nat) {x3 : Int32}, 0 ≤ x3.toInt → x3.toInt ≤ N → sX15_nextToken_5 F f h x0 x1 x2 x3 = some o → ∃ s : Int32, Run Bl T N x3.toInt s.toInt ∧ sX15_nextToken_32 F h x0 x1 x2 s = some o := by
  have z1 : (1 : Int32).toInt = 1 := rfl
  have z32 : (32 : Int32).toInt = 32 := rfl
  have z10 : (10 : Int32).toInt = 10 := rfl
  intro f
  induction f with
  | zero => intro x3 _ _ e; exact absurd e (by rw [sX15_nextToken_5]; exact fun z => nomatch z)
  | succ f ih =>
    intro x3 s0 sN e
    rw [sX15_nextToken_5] at e
    replace e := br_s e
    rcases e with ⟨l, e⟩ | ⟨l, e⟩
    · have l := le_i l
      rw [n2] at l
      exact ⟨x3, run_0 s0 sN (fun z => by omega), e⟩
    have l := nle_i l
    rw [n2] at l
    replace e := (gd_s e).2
    have nx := nc_i s0
    have w : x3.toNatClampNeg = x3.toInt.toNat := by omega
    have v : (hI h x1 x3.toNatClampNeg).toInt = sg (T x3.toInt.toNat) := by rw [C _ (by omega), w]
    have bb := dg x3.toInt.toNat (by omega)
    have step : Bl (T x3.toInt.toNat) → sX15_nextToken_26 F (sX15_nextToken_5 F f) h x0 x1 x2 x3 = some o → ∃ s : Int32, Run Bl T N x3.toInt s.toInt ∧ sX15_nextToken_32 F h x0 x1 x2 s = some o := fun hb e => by
      unfold sX15_nextToken_26 at e
      replace e := nm_s e
      obtain ⟨v1, w1, e⟩ := e
      have t1 : v1.toInt = x3.toInt + 1 := by rw [w1, ta (by rw [z1]; omega), z1]
      obtain ⟨s, R, es⟩ := ih (by omega) (by omega) e
      rw [t1] at R
      exact ⟨s, run_s s0 hb R, es⟩
    replace e := br_s e
    rcases e with ⟨b1, e⟩ | ⟨b1, e⟩
    · exact step (Or.inl ((sg_e bb (by omega)).mp (by rw [← v, b1]; rfl))) e
    replace e := (gd_s e).2
    replace e := br_s e
    rcases e with ⟨b2, e⟩ | ⟨b2, e⟩
    · exact step (Or.inr ((sg_e bb (by omega)).mp (by rw [← v, b2]; rfl))) e
    have b1 := ne_i b1
    have b2 := ne_i b2
    rw [v, z32] at b1
    rw [v, z10] at b2
    exact ⟨x3, run_0 s0 sN (fun _ z => z.elim (fun z => b1 ((sg_e bb (by omega)).mpr z)) (fun z => b2 ((sg_e bb (by omega)).mpr z))), e⟩
theorem nt_77 (n12 : N ≤ 1220) (dg : ∀ j : Nat, (j : Int) < N → 0 ≤ T j ∧ T j ≤ 255) (C : RT T N x1 h) (n2 : x2.toInt = N) : ∀ (f : Nat) {x3 : Int32}, 0 ≤ x3.toInt → x3.toInt ≤ N → sX15_nextToken_77 F f h x0 x1 x2 x3 = some o → ∃ s : Int32, Run Lw T N x3.toInt s.toInt ∧ o = wI (wI h x0 6 (1 : Int32)) x0 8 s := by
  have z1 : (1 : Int32).toInt = 1 := rfl
  have bm : (-1 : Int32).toInt = -1 := rfl
  intro f
  induction f with
  | zero => intro x3 _ _ e; exact absurd e (by rw [sX15_nextToken_77]; exact fun z => nomatch z)
  | succ f ih =>
    intro x3 s0 sN e
    rw [sX15_nextToken_77] at e
    replace e := cl_s e
    obtain ⟨o1, e1, e⟩ := e
    obtain ⟨q1, v1⟩ := byte_r C n2 s0 e1
    rw [q1] at e
    replace e := cl_s e
    obtain ⟨o2, e2, e⟩ := e
    obtain ⟨q2, v2⟩ := small_r e2
    rw [q2] at e
    replace e := br_s e
    rcases e with ⟨b, e⟩ | ⟨b, e⟩
    · replace e := nm_s e
      obtain ⟨h4, w4, e⟩ := e
      replace e := nm_s e
      obtain ⟨h5, w5, e⟩ := e
      unfold sX15_nextToken_308 at e
      refine ⟨x3, run_0 s0 sN (fun l => ?_), by rw [← Option.some.inj e, w5, w4]⟩
      have nl : ¬ Lw o1.1.toInt := v2.elim (fun z => z.2) (fun z => absurd b z.1)
      rcases v1 with z | z
      · omega
      · rw [z.2] at nl
        exact fun y => nl ((sg_l (dg _ (by omega))).mpr y)
    · replace e := nm_s e
      obtain ⟨v6, w6, e⟩ := e
      have hl : Lw o1.1.toInt := v2.elim (fun z => absurd z.1 b) (fun z => z.2)
      have v1 : x3.toInt < N ∧ o1.1.toInt = sg (T x3.toInt.toNat) := v1.elim (fun z => by rw [z.2, bm] at hl; omega) id
      rw [v1.2] at hl
      have t6 : v6.toInt = x3.toInt + 1 := by rw [w6, ta (by rw [z1]; omega), z1]
      obtain ⟨s, R, es⟩ := ih (by omega) (by omega) e
      rw [t6] at R
      exact ⟨s, run_s s0 ((sg_l (dg _ (by omega))).mp hl) R, es⟩
theorem nt_159 (n12 : N ≤ 1220) (dg : ∀ j : Nat, (j : Int) < N → 0 ≤ T j ∧ T j ≤ 255) (C : RT T N x1 h) (n2 : x2.toInt = N) (x50 : 0 ≤ x5.toInt) : ∀ (f : Nat) {x6 : Int32}, x5.toInt ≤ x6.toInt → x6.toInt ≤ N → sX15_nextToken_159 F f h x0 x1 x2 x4 x5 x6 = some o → ∃ s k : Int32, Run Dg T N x6.toInt s.toInt ∧ ((2 < s.toInt - x5.toInt ∧ k = 5) ∨ (s.toInt - x5.toInt ≤ 2 ∧ k = 2)) ∧ sX15_nextToken_194 F h x0 x1 x4 x5 s k x0 = some o := by
  have z1 : (1 : Int32).toInt = 1 := rfl
  have z2 : (2 : Int32).toInt = 2 := rfl
  have bm : (-1 : Int32).toInt = -1 := rfl
  intro f
  induction f with
  | zero => intro x6 _ _ e; exact absurd e (by rw [sX15_nextToken_159]; exact fun z => nomatch z)
  | succ f ih =>
    intro x6 s5 sN e
    have s0 : 0 ≤ x6.toInt := by omega
    rw [sX15_nextToken_159] at e
    replace e := cl_s e
    obtain ⟨o1, e1, e⟩ := e
    obtain ⟨q1, v1⟩ := byte_r C n2 s0 e1
    rw [q1] at e
    replace e := cl_s e
    obtain ⟨o2, e2, e⟩ := e
    obtain ⟨q2, v2⟩ := dig_r e2
    rw [q2] at e
    have ds : (x6 - x5).toInt = x6.toInt - x5.toInt := ts (by omega)
    replace e := br_s e
    rcases e with ⟨b, e⟩ | ⟨b, e⟩
    · have R : Run Dg T N x6.toInt x6.toInt := run_0 s0 sN (fun l => by
        have nl : ¬ Dg o1.1.toInt := v2.elim (fun z => z.2) (fun z => absurd b z.1)
        rcases v1 with z | z
        · omega
        · rw [z.2] at nl
          exact fun y => nl ((sg_d (dg _ (by omega))).mpr y))
      replace e := br_s e
      rcases e with ⟨l, e⟩ | ⟨l, e⟩
      · have l := lt_i l
        rw [ds, z2] at l
        exact ⟨x6, 5, R, Or.inl ⟨l, rfl⟩, e⟩
      · have l := nlt_i l
        rw [ds, z2] at l
        exact ⟨x6, 2, R, Or.inr ⟨l, rfl⟩, e⟩
    · replace e := nm_s e
      obtain ⟨v6, w6, e⟩ := e
      have hl : Dg o1.1.toInt := v2.elim (fun z => absurd z.1 b) (fun z => z.2)
      have v1 : x6.toInt < N ∧ o1.1.toInt = sg (T x6.toInt.toNat) := v1.elim (fun z => by rw [z.2, bm] at hl; omega) id
      rw [v1.2] at hl
      have t6 : v6.toInt = x6.toInt + 1 := by rw [w6, ta (by rw [z1]; omega), z1]
      obtain ⟨s, k, R, ks, es⟩ := ih (by omega) (by omega) e
      rw [t6] at R
      exact ⟨s, k, run_s s0 ((sg_d (dg _ (by omega))).mp hl) R, ks, es⟩
/-- a number is noted -/
theorem nt_194 (n12 : N ≤ 1220) (n1 : ¬ x1 = x0) (C : RT T N x1 h) (x50 : 0 ≤ x5.toInt) (R : Run Dg T N x5.toInt x6.toInt) (l5 : x5.toInt < x6.toInt) {k : Int32} (e : sX15_nextToken_194 F h x0 x1 x4 x5 x6 k x0 = some o) : Kr x0 h o ∧ hI o x0 7 = hI h x0 7 ∧ hI o x0 6 = k ∧ hI o x0 8 = x6 ∧ (x6.toInt - x5.toInt ≤ 2 → (hI o x0 9).toInt = (if x4 = 45 then - vl T x5.toInt x6.toInt else vl T x5.toInt x6.toInt)) := by
  have z0 : (0 : Int32).toInt = 0 := rfl
  have z1 : (1 : Int32).toInt = 1 := rfl
  have z2 : (2 : Int32).toInt = 2 := rfl
  have z10 : (10 : Int32).toInt = 10 := rfl
  have z48 : (48 : Int32).toInt = 48 := rfl
  obtain ⟨_, _, r2, r3, _⟩ := R
  unfold sX15_nextToken_194 at e
  replace e := nm_s e
  obtain ⟨h1, w1, e⟩ := e
  replace e := (gd_s e).2
  replace e := nm_s e
  obtain ⟨h3, w3, e⟩ := e
  have nx := nc_i x50
  have d0 := r3 x5.toInt.toNat (by omega) (by omega)
  have w : x5.toNatClampNeg = x5.toInt.toNat := by omega
  have c1 : (hI h1 x1 x5.toNatClampNeg).toInt = T x5.toInt.toNat := by rw [w1, rI_a n1, C _ (by omega), w, sg_s d0]
  have v3 : (hI h3 x0 9).toInt = T x5.toInt.toNat - 48 := by rw [w3, rI_s, ts (by rw [c1, z48]; omega), c1, z48]
  have K3 : Kr x0 h h3 := by rw [w3]; refine kr_t ?_ (kr_w (by omega)); rw [w1]; exact kr_w (by omega)
  have f6 : hI h3 x0 6 = k := by rw [w3, rI_o (by decide), w1, rI_s]
  have f7 : hI h3 x0 7 = hI h x0 7 := by rw [w3, rI_o (by decide), w1, rI_o (by decide)]
  -- sign
  have fin : ∀ {t0 : Int32}, -100 ≤ t0.toInt ∧ t0.toInt ≤ 100000 → sX15_nextToken_242 F h3 x0 x4 x6 t0 x0 = some o → Kr x0 h o ∧ hI o x0 7 = hI h x0 7 ∧ hI o x0 6 = k ∧ hI o x0 8 = x6 ∧ (hI o x0 9).toInt = (if x4 = 45 then - t0.toInt else t0.toInt) := fun {t0} bt e => by
    unfold sX15_nextToken_242 at e
    replace e := nm_s e
    obtain ⟨h4, w4, e⟩ := e
    have last : ∀ {u : Int32}, sX15_nextToken_266 F h4 x0 x6 u x0 = some o → Kr x0 h o ∧ hI o x0 7 = hI h x0 7 ∧ hI o x0 6 = k ∧ hI o x0 8 = x6 ∧ hI o x0 9 = u := fun {u} e => by
      unfold sX15_nextToken_266 sX15_nextToken_308 at e
      replace e := nm_s e
      obtain ⟨h5, w5, e⟩ := e
      replace e := nm_s e
      obtain ⟨h6, w6, e⟩ := e
      rw [← Option.some.inj e]
      refine ⟨kr_t K3 ?_, ?_, ?_, by rw [w6, rI_s], by rw [w6, rI_o (by decide), w5, rI_s]⟩
      · rw [w6]; refine kr_t ?_ (kr_w (by omega)); rw [w5]; refine kr_t ?_ (kr_w (by omega)); rw [w4]; exact kr_w (by omega)
      · rw [w6, rI_o (by decide), w5, rI_o (by decide), w4, rI_o (by decide)]; exact f7
      · rw [w6, rI_o (by decide), w5, rI_o (by decide), w4, rI_o (by decide)]; exact f6
    have v4 : hI h4 x0 9 = t0 := by rw [w4, rI_s]
    replace e := br_s e
    rcases e with ⟨b, e⟩ | ⟨b, e⟩
    · obtain ⟨a1, a2, a3, a4, a5⟩ := last e
      refine ⟨a1, a2, a3, a4, ?_⟩
      rw [a5, v4, if_pos b, ts (by rw [z0]; omega), z0]; omega
    · obtain ⟨a1, a2, a3, a4, a5⟩ := last e
      refine ⟨a1, a2, a3, a4, ?_⟩
      rw [a5, v4, if_neg b]
  have ds : (x6 - x5).toInt = x6.toInt - x5.toInt := ts (by omega)
  replace e := br_s e
  rcases e with ⟨b, e⟩ | ⟨b, e⟩
  · have b' : x6.toInt - x5.toInt = 2 := by rw [← ds, b]; rfl
    replace e := (gd_s e).2
    have d1 := r3 (x5.toInt + 1).toNat (by omega) (by omega)
    have t1 : (x5 + (1 : Int32)).toInt = x5.toInt + 1 := by rw [ta (by rw [z1]; omega), z1]
    have nx1 := nc_i (x := x5 + (1 : Int32)) (by omega)
    have w' : (x5 + (1 : Int32)).toNatClampNeg = (x5.toInt + 1).toNat := by omega
    have c3 : (hI h3 x1 (x5 + (1 : Int32)).toNatClampNeg).toInt = T (x5.toInt + 1).toNat := by rw [w3, rI_a n1, w1, rI_a n1, C _ (by omega), w', sg_s d1]
    have m10 : ((10 : Int32) * (hI h3 x0 9)).toInt = 10 * (T x5.toInt.toNat - 48) := by rw [tm (by rw [z10, v3]; omega), z10, v3]
    have ad : (((10 : Int32) * (hI h3 x0 9)) + (hI h3 x1 (x5 + (1 : Int32)).toNatClampNeg)).toInt = 10 * (T x5.toInt.toNat - 48) + T (x5.toInt + 1).toNat := by rw [ta (by rw [m10, c3]; omega), m10, c3]
    have sb : ((((10 : Int32) * (hI h3 x0 9)) + (hI h3 x1 (x5 + (1 : Int32)).toNatClampNeg)) - (48 : Int32)).toInt = 10 * (T x5.toInt.toNat - 48) + T (x5.toInt + 1).toNat - 48 := by rw [ts (by rw [ad, z48]; omega), ad, z48]
    obtain ⟨a1, a2, a3, a4, a5⟩ := fin (by rw [sb]; omega) e
    refine ⟨a1, a2, a3, a4, fun _ => ?_⟩
    rw [a5, sb]
    unfold vl
    have q : ¬ x6.toInt - x5.toInt = 1 := by omega
    rw [if_neg q]
  · have b := ne_i b
    rw [ds, z2] at b
    obtain ⟨a1, a2, a3, a4, a5⟩ := fin (by rw [v3]; omega) e
    refine ⟨a1, a2, a3, a4, fun l => ?_⟩
    rw [a5, v3]
    unfold vl
    have q : x6.toInt - x5.toInt = 1 := by omega
    rw [if_pos q]
theorem nt_k (n12 : N ≤ 1220) (dg : ∀ j : Nat, (j : Int) < N → 0 ≤ T j ∧ T j ≤ 255) (n1 : ¬ x1 = x0) (C : RT T N x1 h) (n2 : x2.toInt = N) (p0 : 0 ≤ (hI h x0 8).toInt) (pN : (hI h x0 8).toInt ≤ N) (e : sX15_nextToken F h x0 x1 x2 = some o) : Kr x0 h o ∧ ∃ k, Tk T N (hI h x0 8).toInt (hI o x0 7).toInt (hI o x0 8).toInt k (hI o x0 9).toInt ∧ (hI o x0 6).toInt = km k := by
  have z1 : (1 : Int32).toInt = 1 := rfl
  have z45 : (45 : Int32).toInt = 45 := rfl
  have z59 : (59 : Int32).toInt = 59 := rfl
  have z44 : (44 : Int32).toInt = 44 := rfl
  have bm : (-1 : Int32).toInt = -1 := rfl
  unfold sX15_nextToken at e
  replace e := nm_s e
  obtain ⟨p1, wp, e⟩ := e
  subst wp
  obtain ⟨s, R, e⟩ := nt_5 n12 dg C n2 F p0 pN e
  have s0 : 0 ≤ s.toInt := by have := R.2.1; omega
  have sN : s.toInt ≤ N := R.2.2.1
  unfold sX15_nextToken_32 at e
  replace e := nm_s e
  obtain ⟨h1, w1, e⟩ := e
  have K1 : Kr x0 h h1 := by rw [w1]; exact kr_w (by omega)
  have C1 := rt_k n1 C K1
  have f7 : hI h1 x0 7 = s := by rw [w1, rI_s]
  replace e := cl_s e
  obtain ⟨o2, e2, e⟩ := e
  obtain ⟨q2, v2⟩ := byte_r C1 n2 s0 e2
  rw [q2] at e
  replace e := br_s e
  rcases e with ⟨l, e⟩ | ⟨l, e⟩
  rotate_left
  · have l := nlt_i l
    rw [n2] at l
    have sE : s.toInt = N := by omega
    replace e := nm_s e
    obtain ⟨h4, w4, e⟩ := e
    replace e := nm_s e
    obtain ⟨h5, w5, e⟩ := e
    replace e := nm_s e
    obtain ⟨h6, w6, e⟩ := e
    unfold sX15_nextToken_308 at e
    rw [← Option.some.inj e]
    have g7 : hI h6 x0 7 = x2 := by rw [w6, rI_o (by decide), w5, rI_o (by decide), w4, rI_s]
    have g8 : hI h6 x0 8 = x2 := by rw [w6, rI_o (by decide), w5, rI_s]
    have g6 : hI h6 x0 6 = 4 := by rw [w6, rI_s]
    refine ⟨kr_t K1 ?_, 0, ?_, by rw [g6]; rfl⟩
    · rw [w6]; refine kr_t ?_ (kr_w (by omega)); rw [w5]; refine kr_t ?_ (kr_w (by omega)); rw [w4]; exact kr_w (by omega)
    · rw [g7, g8, n2]
      rw [sE] at R
      exact ⟨R, Or.inl ⟨rfl, rfl, rfl⟩⟩
  have l := lt_i l
  rw [n2] at l
  have v2 : o2.1.toInt = sg (T s.toInt.toNat) := v2.elim (fun z => by omega) (fun z => z.2)
  have bb := dg s.toInt.toNat (by omega)
  -- signs
  have sgn : ∀ {k : Int32}, sX15_nextToken_298 F h1 x0 s k x0 = some o → Kr x0 h o ∧ hI o x0 7 = s ∧ (hI o x0 8).toInt = s.toInt + 1 ∧ hI o x0 6 = k := fun {k} e => by
    unfold sX15_nextToken_298 sX15_nextToken_308 at e
    replace e := nm_s e
    obtain ⟨h6, w6, e⟩ := e
    replace e := nm_s e
    obtain ⟨h7, w7, e⟩ := e
    rw [← Option.some.inj e]
    refine ⟨kr_t K1 ?_, by rw [w7, rI_o (by decide), w6, rI_o (by decide)]; exact f7, by rw [w7, rI_s, ta (by rw [z1]; omega), z1], by rw [w7, rI_o (by decide), w6, rI_s]⟩
    rw [w7]; refine kr_t ?_ (kr_w (by omega)); rw [w6]; exact kr_w (by omega)
  have oth : ¬ Lw (T s.toInt.toNat) → ¬ Dg (T s.toInt.toNat) → sX15_nextToken_278 F h1 x0 s o2.1 = some o → (T s.toInt.toNat = 45 → ¬ (s.toInt + 1 < N ∧ Dg (T (s.toInt + 1).toNat))) → Kr x0 h o ∧ ∃ k, Tk T N (hI h x0 8).toInt (hI o x0 7).toInt (hI o x0 8).toInt k (hI o x0 9).toInt ∧ (hI o x0 6).toInt = km k := fun nl nd e n45 => by
    unfold sX15_nextToken_278 sX15_nextToken_293 at e
    replace e := br_s e
    rcases e with ⟨b9, e⟩ | ⟨b9, e⟩
    · have m9 : T s.toInt.toNat = 59 := (sg_e bb (by omega)).mp (by rw [← v2, b9]; rfl)
      obtain ⟨K, g7, g8, g6⟩ := sgn e
      rw [g7, g8, g6]
      exact ⟨K, 3, ⟨R, Or.inr ⟨l, Or.inr (Or.inr (Or.inr (Or.inl ⟨m9, rfl, rfl⟩)))⟩⟩, rfl⟩
    have b9 := ne_i b9
    rw [v2, z59] at b9
    replace e := br_s e
    rcases e with ⟨b10, e⟩ | ⟨b10, e⟩
    · have m9 : T s.toInt.toNat = 44 := (sg_e bb (by omega)).mp (by rw [← v2, b10]; rfl)
      obtain ⟨K, g7, g8, g6⟩ := sgn e
      rw [g7, g8, g6]
      exact ⟨K, 4, ⟨R, Or.inr ⟨l, Or.inr (Or.inr (Or.inr (Or.inr (Or.inl ⟨m9, rfl, rfl⟩))))⟩⟩, rfl⟩
    have b10 := ne_i b10
    rw [v2, z44] at b10
    have b9 : ¬ T s.toInt.toNat = 59 := fun z => b9 ((sg_e bb (by omega)).mpr z)
    have b10 : ¬ T s.toInt.toNat = 44 := fun z => b10 ((sg_e bb (by omega)).mpr z)
    obtain ⟨K, g7, g8, g6⟩ := sgn e
    rw [g7, g8, g6]
    refine ⟨K, 5, ⟨R, Or.inr ⟨l, ?_⟩⟩, rfl⟩
    by_cases m : T s.toInt.toNat = 45
    · exact Or.inr (Or.inr (Or.inl ⟨m, run_0 (by omega) (by omega) (fun z y => n45 m ⟨z, y⟩), Or.inr ⟨Or.inl rfl, rfl⟩⟩))
    · exact Or.inr (Or.inr (Or.inr (Or.inr (Or.inr ⟨nl, nd, m, b9, b10, rfl, rfl⟩))))
  -- numbers
  have num : ∀ {d : Int32}, d.toInt < N → 0 ≤ d.toInt → Dg (T d.toInt.toNat) → sX15_nextToken_153 F h1 x0 x1 x2 o2.1 d = some o → ∃ e8 : Int32, Kr x0 h o ∧ hI o x0 7 = s ∧ hI o x0 8 = e8 ∧ Run Dg T N d.toInt e8.toInt ∧ d.toInt < e8.toInt ∧ ((2 < e8.toInt - d.toInt ∧ hI o x0 6 = 5) ∨ (e8.toInt - d.toInt ≤ 2 ∧ hI o x0 6 = 2 ∧ (hI o x0 9).toInt = (if o2.1 = 45 then - vl T d.toInt e8.toInt else vl T d.toInt e8.toInt))) := fun {d} ld d0 hd e => by
    unfold sX15_nextToken_153 at e
    obtain ⟨e8, k, R8, ks, e⟩ := nt_159 n12 dg C1 n2 d0 F (Int.le_refl _) (by omega) e
    have lt : d.toInt < e8.toInt := by
      have := R8.2.1
      rcases Int.lt_or_eq_of_le this with z | z
      · exact z
      · have y := R8.2.2.2.2 (by omega)
        rw [← z] at y
        exact absurd hd y
    obtain ⟨K, g7, g6, g8, gv⟩ := nt_194 n12 n1 C1 d0 R8 lt e
    refine ⟨e8, kr_t K1 K, g7.trans f7, g8, R8, lt, ?_⟩
    rcases ks with ⟨k1, k2⟩ | ⟨k1, k2⟩
    · exact Or.inl ⟨k1, by rw [g6, k2]⟩
    · exact Or.inr ⟨k1, by rw [g6, k2], gv k1⟩
  replace e := cl_s e
  obtain ⟨o4, e4, e⟩ := e
  obtain ⟨q4, v4⟩ := small_r e4
  rw [q4] at e
  rw [v2] at v4
  replace e := br_s e
  rcases e with ⟨b4, e⟩ | ⟨b4, e⟩
  rotate_left
  · have hl : Lw (T s.toInt.toNat) := (sg_l bb).mp (v4.elim (fun z => absurd z.1 b4) (fun z => z.2))
    obtain ⟨e8, R8, es⟩ := nt_77 n12 dg C1 n2 F s0 sN e
    refine ⟨?_, 1, ?_, ?_⟩
    · rw [es]; exact kr_t K1 (kr_t (kr_w (by omega)) (kr_w (by omega)))
    · rw [es, rI_s, rI_o (by decide), rI_o (by decide), f7]
      exact ⟨R, Or.inr ⟨l, Or.inl ⟨hl, rfl, R8⟩⟩⟩
    · rw [es, rI_o (by decide), rI_s]; rfl
  have nl : ¬ Lw (T s.toInt.toNat) := fun z => v4.elim (fun y => y.2 ((sg_l bb).mpr z)) (fun y => y.1 b4)
  replace e := cl_s e
  obtain ⟨o6, e6, e⟩ := e
  obtain ⟨q6, v6⟩ := dig_r e6
  rw [q6] at e
  rw [v2] at v6
  replace e := br_s e
  rcases e with ⟨b6, e⟩ | ⟨b6, e⟩
  · have nd : ¬ Dg (T s.toInt.toNat) := fun z => v6.elim (fun y => y.2 ((sg_d bb).mpr z)) (fun y => y.1 b6)
    replace e := br_s e
    rcases e with ⟨b8, e⟩ | ⟨b8, e⟩
    · have m : T s.toInt.toNat = 45 := (sg_e bb (by omega)).mp (by rw [← v2, b8]; rfl)
      replace e := cl_s e
      obtain ⟨o9, e9, e⟩ := e
      have t1 : (s + (1 : Int32)).toInt = s.toInt + 1 := by rw [ta (by rw [z1]; omega), z1]
      obtain ⟨q9, v9⟩ := byte_r C1 n2 (by rw [t1]; omega) e9
      rw [q9] at e
      rw [t1] at v9
      replace e := cl_s e
      obtain ⟨o10, e10, e⟩ := e
      obtain ⟨q10, v10⟩ := dig_r e10
      rw [q10] at e
      replace e := br_s e
      rcases e with ⟨b10, e⟩ | ⟨b10, e⟩
      · refine oth nl nd e (fun _ z => ?_)
        rcases v9 with y | y
        · omega
        · rw [y.2] at v10
          exact v10.elim (fun w => w.2 ((sg_d (dg _ (by omega))).mpr z.2)) (fun w => w.1 b10)
      · have hd : s.toInt + 1 < N ∧ Dg (T (s.toInt + 1).toNat) := by
          have hd := v10.elim (fun z => absurd z.1 b10) (fun z => z.2)
          rcases v9 with y | y
          · rw [y.2, bm] at hd; omega
          · rw [y.2] at hd
            exact ⟨y.1, (sg_d (dg _ (by omega))).mp hd⟩
        unfold sX15_nextToken_139 at e
        replace e := br_s e
        rcases e with ⟨_, e⟩ | ⟨nb, e⟩
        rotate_left
        · exact absurd b8 nb
        obtain ⟨e8, K, g7, g8, R8, lt, ks⟩ := num (by rw [t1]; exact hd.1) (by rw [t1]; omega) (by rw [t1]; exact hd.2) e
        rw [t1] at R8 lt ks
        rw [g7, g8]
        rcases ks with ⟨k1, k2⟩ | ⟨k1, k2, k3⟩
        · exact ⟨K, 5, ⟨R, Or.inr ⟨l, Or.inr (Or.inr (Or.inl ⟨m, R8, Or.inr ⟨Or.inr k1, rfl⟩⟩))⟩⟩, by rw [k2]; rfl⟩
        · rw [if_pos b8] at k3
          exact ⟨K, 2, ⟨R, Or.inr ⟨l, Or.inr (Or.inr (Or.inl ⟨m, R8, Or.inl ⟨lt, k1, rfl, k3⟩⟩))⟩⟩, by rw [k2]; rfl⟩
    · have b8 := ne_i b8
      rw [v2, z45] at b8
      exact oth nl nd e (fun z => absurd ((sg_e bb (by omega)).mpr z) b8)
  · have hd : Dg (T s.toInt.toNat) := (sg_d bb).mp (v6.elim (fun z => absurd z.1 b6) (fun z => z.2))
    unfold sX15_nextToken_139 at e
    replace e := br_s e
    rcases e with ⟨nb, e⟩ | ⟨nb, e⟩
    · exfalso
      have z : sg (T s.toInt.toNat) = 45 := by rw [← v2, nb]; rfl
      rw [sg_s hd] at z
      omega
    obtain ⟨e8, K, g7, g8, R8, lt, ks⟩ := num l s0 hd e
    rw [g7, g8]
    rcases ks with ⟨k1, k2⟩ | ⟨k1, k2, k3⟩
    · exact ⟨K, 5, ⟨R, Or.inr ⟨l, Or.inr (Or.inl ⟨hd, R8, Or.inr ⟨k1, rfl⟩⟩)⟩⟩, by rw [k2]; rfl⟩
    · rw [if_neg nb] at k3
      exact ⟨K, 2, ⟨R, Or.inr ⟨l, Or.inr (Or.inl ⟨hd, R8, Or.inl ⟨k1, rfl, k3⟩⟩)⟩⟩, by rw [k2]; rfl⟩
end
end
section
/-! both readers at the same token -/
theorem tk_b {T : Nat → Int} {N p s e k v : Int} (A : Tk T N p s e k v) : 0 ≤ s ∧ s ≤ e ∧ e ≤ N ∧ 0 ≤ k ∧ k ≤ 5 := by
  obtain ⟨⟨r0, r1, r2, _, _⟩, c⟩ := A
  rcases c with ⟨x1, x2, x3⟩ | ⟨x1, c⟩
  · omega
  · rcases c with ⟨x2, x3, x4⟩ | ⟨x2, x3, x4⟩ | ⟨x2, x3, x4⟩ | ⟨x2, x3, x4⟩ | ⟨x2, x3, x4⟩ | ⟨x2, x3, x4, x5, x6, x7, x8⟩
    · have := x4.2.1; have := x4.2.2.1; omega
    · have := x3.2.1; have := x3.2.2.1; omega
    · have := x3.2.1; have := x3.2.2.1; omega
    · omega
    · omega
    · omega
/-- what the kinds say -/
theorem tk_w {T : Nat → Int} {N p s e k v : Int} (A : Tk T N p s e k v) (h : k = 1) : s < e ∧ ∀ j : Nat, s ≤ (j : Int) → (j : Int) < e → Lw (T j) := by
  obtain ⟨_, c⟩ := A
  rcases c with ⟨x1, x2, x3⟩ | ⟨x1, c⟩
  · omega
  · rcases c with ⟨x2, x3, x4⟩ | ⟨x2, x3, x4⟩ | ⟨x2, x3, x4⟩ | ⟨x2, x3, x4⟩ | ⟨x2, x3, x4⟩ | ⟨x2, x3, x4, x5, x6, x7, x8⟩
    · refine ⟨?_, x4.2.2.2.1⟩
      have l := x4.2.1
      rcases Int.lt_or_eq_of_le l with z | z
      · exact z
      · have y := x4.2.2.2.2 (by omega)
        rw [← z] at y
        exact absurd x2 y
    · omega
    · omega
    · omega
    · omega
    · omega
/-- a token that is not the end is not empty -/
theorem tk_e {T : Nat → Int} {N p s e k v : Int} (A : Tk T N p s e k v) (h : ¬ k = 0) : s < e := by
  obtain ⟨_, c⟩ := A
  rcases c with ⟨x1, x2, x3⟩ | ⟨x1, c⟩
  · exact absurd x2 h
  · rcases c with ⟨x2, x3, x4⟩ | ⟨x2, x3, x4⟩ | ⟨x2, x3, x4⟩ | ⟨x2, x3, x4⟩ | ⟨x2, x3, x4⟩ | ⟨x2, x3, x4, x5, x6, x7, x8⟩
    · rcases Int.lt_or_eq_of_le x4.2.1 with z | z
      · exact z
      · have y := x4.2.2.2.2 (by omega)
        rw [← z] at y
        exact absurd x2 y
    · rcases Int.lt_or_eq_of_le x3.2.1 with z | z
      · exact z
      · have y := x3.2.2.2.2 (by omega)
        rw [← z] at y
        exact absurd x2 y
    · have := x3.2.1; omega
    · omega
    · omega
    · omega
theorem tk_sg {T : Nat → Int} {N p s e k v : Int} (A : Tk T N p s e k v) (h : k = 3 ∨ k = 4) : s < N ∧ ((k = 3 ∧ T s.toNat = 59) ∨ (k = 4 ∧ T s.toNat = 44)) := by
  obtain ⟨_, c⟩ := A
  rcases c with ⟨x1, x2, x3⟩ | ⟨x1, c⟩
  · omega
  · rcases c with ⟨x2, x3, x4⟩ | ⟨x2, x3, x4⟩ | ⟨x2, x3, x4⟩ | ⟨x2, x3, x4⟩ | ⟨x2, x3, x4⟩ | ⟨x2, x3, x4, x5, x6, x7, x8⟩ <;> omega
def TS (T : Nat → Int) (N : Int) (x0 m : Nat) (hc hr : Hp) : Prop := ∃ p k, Tk T N p (hI hc x0 2).toInt (hI hc x0 3).toInt (hI hc x0 4).toInt (hI hc x0 5).toInt ∧ Tk T N p (hI hr m 7).toInt (hI hr m 8).toInt k (hI hr m 9).toInt ∧ (hI hr m 6).toInt = km k
section
variable {T : Nat → Int} {N : Int} {F x0 t m x1 i i' : Nat} {x2 : Int32} {hc hr oc or : Hp}
theorem ts_f (S : TS T N x0 m hc hr) : hI hc x0 2 = hI hr m 7 ∧ hI hc x0 3 = hI hr m 8 ∧ (hI hr m 6).toInt = km (hI hc x0 4).toInt ∧ ((hI hc x0 4).toInt = 2 → hI hc x0 5 = hI hr m 9) := by
  obtain ⟨p, k, A, B, e⟩ := S
  obtain ⟨q1, q2, q3, q4⟩ := tk_u A B
  exact ⟨Int32.toInt_inj.mp q1, Int32.toInt_inj.mp q2, by rw [q3]; exact e, fun z => Int32.toInt_inj.mp (q4 z)⟩
theorem ts_b (S : TS T N x0 m hc hr) : 0 ≤ (hI hc x0 2).toInt ∧ (hI hc x0 2).toInt ≤ (hI hc x0 3).toInt ∧ (hI hc x0 3).toInt ≤ N ∧ 0 ≤ (hI hc x0 4).toInt ∧ (hI hc x0 4).toInt ≤ 5 := by
  obtain ⟨p, k, A, _, _⟩ := S
  exact tk_b A
/-- both go on by a token -/
theorem ts_a (n12 : N ≤ 1200) (dg : ∀ j : Nat, (j : Int) < N → 0 ≤ T j ∧ T j ≤ 255) (C : CT T N t x0 hc) (R : RT T N x1 hr) (n1 : ¬ x1 = m) (n2 : x2.toInt = N) (S : hI hc x0 3 = hI hr m 8 ∧ 0 ≤ (hI hc x0 3).toInt ∧ (hI hc x0 3).toInt ≤ N) (ec : sX2_advance F hc x0 = some oc) (er : sX15_nextToken F hr m x1 x2 = some or) : TS T N x0 m oc or ∧ Kx x0 hc oc ∧ Kr m hr or := by
  obtain ⟨s1, s2, s3⟩ := S
  obtain ⟨Kc, A⟩ := adv_k n12 dg C s2 s3 ec
  obtain ⟨Kr', k, B, e⟩ := nt_k (by omega) dg n1 R n2 (by rw [← s1]; exact s2) (by rw [← s1]; exact s3) er
  rw [← s1] at B
  exact ⟨⟨_, k, A, B, e⟩, Kc, Kr'⟩
theorem ts_n (S : TS T N x0 m hc hr) : hI hc x0 3 = hI hr m 8 ∧ 0 ≤ (hI hc x0 3).toInt ∧ (hI hc x0 3).toInt ≤ N := by
  have a := ts_f S
  have b := ts_b S
  exact ⟨a.2.1, by omega, by omega⟩
/-- words -/
theorem iw_28 (n12 : N ≤ 1200) (C : CT T N t x0 hc) (R : RT T N x1 hr) (S : TS T N x0 m hc hr) (k1 : (hI hc x0 4).toInt = 1) (hl : lB i = lB i') (ln : (hI hc x0 3).toInt - (hI hc x0 2).toInt = ((lB i).length : Int)) : ∀ (f g : Nat) {j : Int32} {o o' : Int32 × Hp}, 0 ≤ j.toInt → sX2_isWord_28 F f hc x0 i j = some o → sX15_isWord_28 F g hr m x1 i' j = some o' → o.2 = hc ∧ o'.2 = hr ∧ o.1 = o'.1 := by
  have z1 : (1 : Int32).toInt = 1 := rfl
  obtain ⟨p, k, A, B, ek⟩ := id S
  have f0 := ts_f S
  have b0 := ts_b S
  obtain ⟨_, lw⟩ := tk_w A k1
  have hs : schr i = schr i' := by unfold schr; rw [hl]
  have sm : (lB i).length < 2147483648 := by omega
  have tl : (nI (lB i).length).toInt = ((lB i).length : Int) := z_toInt (by omega)
  intro f
  induction f with
  | zero => intro g j o o' _ e; exact absurd e (by rw [sX2_isWord_28]; exact fun z => nomatch z)
  | succ f ih =>
    intro g j o o' j0 e e'
    cases g with
    | zero => exact absurd e' (by rw [sX15_isWord_28]; exact fun z => nomatch z)
    | succ g =>
      rw [sX2_isWord_28] at e
      rw [sX15_isWord_28, ← hl, ← hs] at e'
      replace e := br_s e
      replace e' := br_s e'
      rcases e with ⟨l, e⟩ | ⟨l, e⟩
      · rcases e' with ⟨_, e'⟩ | ⟨l', _⟩
        · rw [← Option.some.inj e, ← Option.some.inj e']; exact ⟨rfl, rfl, rfl⟩
        · exact absurd l l'
      · rcases e' with ⟨l', _⟩ | ⟨_, e'⟩
        · exact absurd l' l
        · have l := nle_i l
          rw [tl] at l
          replace e := cl_s e
          obtain ⟨r2, e2, e⟩ := e
          have y2 : r2 = t := r_eq C.1 e2
          rw [y2] at e
          replace e := cl_s e
          obtain ⟨o3, e3, e⟩ := e
          obtain ⟨q3, v3⟩ := byte_c C e3
          rw [q3] at e
          have ad : ((hI hc x0 2) + j).toInt = (hI hc x0 2).toInt + j.toInt := ta (by omega)
          rw [ad] at v3
          have v3 : o3.1.toInt = T ((hI hc x0 2).toInt + j.toInt).toNat := v3.elim (fun z => z.2.2) (fun z => absurd ⟨by omega, by omega⟩ z.1)
          have lwj := lw ((hI hc x0 2).toInt + j.toInt).toNat (by omega) (by omega)
          replace e := (gd_s e).2
          replace e' := (gd_s e').2
          replace e' := (gd_s e').2
          rw [← f0.1] at e'
          have nx := nc_i (x := (hI hc x0 2) + j) (by omega)
          have w : ((hI hc x0 2) + j).toNatClampNeg = ((hI hc x0 2).toInt + j.toInt).toNat := by omega
          have v4 : hI hr x1 ((hI hc x0 2) + j).toNatClampNeg = o3.1 := Int32.toInt_inj.mp (by
            rw [R _ (by omega), w, v3]
            unfold sg
            rw [if_pos (by omega)])
          rw [v4] at e'
          replace e := br_s e
          replace e' := br_s e'
          rcases e with ⟨b, e⟩ | ⟨b, e⟩
          · rcases e' with ⟨_, e'⟩ | ⟨b', _⟩
            · replace e := nm_s e
              obtain ⟨v6, w6, e⟩ := e
              replace e' := nm_s e'
              obtain ⟨v7, w7, e'⟩ := e'
              rw [w7, ← w6] at e'
              exact ih g (by rw [w6, ta (by rw [z1]; omega), z1]; omega) e e'
            · exact absurd b b'
          · rcases e' with ⟨b', _⟩ | ⟨_, e'⟩
            · exact absurd b' b
            · rw [← Option.some.inj e, ← Option.some.inj e']; exact ⟨rfl, rfl, rfl⟩
theorem iw_r (n12 : N ≤ 1200) (C : CT T N t x0 hc) (R : RT T N x1 hr) (S : TS T N x0 m hc hr) (hl : lB i = lB i') (sm : (lB i).length < 2147483648) {o o' : Int32 × Hp} (e : sX2_isWord F hc x0 i = some o) (e' : sX15_isWord F hr m x1 i' = some o') : o.2 = hc ∧ o'.2 = hr ∧ o.1 = o'.1 := by
  have f0 := ts_f S
  have b0 := ts_b S
  unfold sX2_isWord sX2_isWord_24 at e
  unfold sX15_isWord sX15_isWord_24 at e'
  rw [← hl, ← f0.1, ← f0.2.1] at e'
  have kk : hI hc x0 4 = (1 : Int32) ↔ hI hr m 6 = (1 : Int32) := by
    have z1 : (1 : Int32).toInt = 1 := rfl
    rw [← Int32.toInt_inj, ← Int32.toInt_inj, f0.2.2.1, z1]
    unfold km
    constructor
    · intro z; rw [if_neg (by omega), if_neg (by omega)]; exact z
    · intro z
      by_cases q0 : (hI hc x0 4).toInt = 0
      · rw [if_pos q0] at z; omega
      · rw [if_neg q0] at z
        by_cases q4 : (hI hc x0 4).toInt = 4
        · rw [if_pos q4] at z; omega
        · rw [if_neg q4] at z; exact z
  replace e := br_s e
  replace e' := br_s e'
  rcases e with ⟨k, e⟩ | ⟨k, e⟩
  · rcases e' with ⟨k', e'⟩ | ⟨k', _⟩
    rotate_left
    · exact absurd (kk.mp k) k'
    have k1 : (hI hc x0 4).toInt = 1 := by rw [k]; rfl
    replace e := br_s e
    replace e' := br_s e'
    rcases e with ⟨l, e⟩ | ⟨l, e⟩
    · rcases e' with ⟨_, e'⟩ | ⟨l', _⟩
      rotate_left
      · exact absurd l l'
      have ds : ((hI hc x0 3) - (hI hc x0 2)).toInt = (hI hc x0 3).toInt - (hI hc x0 2).toInt := ts (by omega)
      exact iw_28 n12 C R S k1 hl (by rw [← ds, l]; exact z_toInt sm) F F (j := (0 : Int32)) (by decide) e e'
    · rcases e' with ⟨l', _⟩ | ⟨_, e'⟩
      · exact absurd l' l
      rw [← Option.some.inj e, ← Option.some.inj e']; exact ⟨rfl, rfl, rfl⟩
  · rcases e' with ⟨k', _⟩ | ⟨k', e'⟩
    · exact absurd (kk.mpr k') k
    rw [← Option.some.inj e, ← Option.some.inj e']; exact ⟨rfl, rfl, rfl⟩
/-- numbers -/
theorem in_r (S : TS T N x0 m hc hr) {lo hi : Int32} {o o' : Int32 × Hp} (e : sX2_isNumber hc x0 lo hi = some o) (e' : sX15_isNumber hr m lo hi = some o') : o.2 = hc ∧ o'.2 = hr ∧ o.1 = o'.1 ∧ (¬ o.1 = 0 → hI hc x0 5 = hI hr m 9 ∧ lo.toInt ≤ (hI hc x0 5).toInt ∧ (hI hc x0 5).toInt ≤ hi.toInt) := by
  have f0 := ts_f S
  unfold sX2_isNumber sX2_isNumber_28 sX2_isNumber_29 at e
  unfold sX15_isNumber sX15_isNumber_28 sX15_isNumber_29 at e'
  have kk : hI hc x0 4 = (2 : Int32) ↔ hI hr m 6 = (2 : Int32) := by
    have z1 : (2 : Int32).toInt = 2 := rfl
    rw [← Int32.toInt_inj, ← Int32.toInt_inj, f0.2.2.1, z1]
    unfold km
    constructor
    · intro z; rw [if_neg (by omega), if_neg (by omega)]; exact z
    · intro z
      by_cases q0 : (hI hc x0 4).toInt = 0
      · rw [if_pos q0] at z; omega
      · rw [if_neg q0] at z
        by_cases q4 : (hI hc x0 4).toInt = 4
        · rw [if_pos q4] at z; omega
        · rw [if_neg q4] at z; exact z
  replace e := br_s e
  replace e' := br_s e'
  rcases e with ⟨k, e⟩ | ⟨k, e⟩
  · rcases e' with ⟨k', e'⟩ | ⟨k', _⟩
    rotate_left
    · exact absurd (kk.mp k) k'
    have v := f0.2.2.2 (by rw [k]; rfl)
    rw [← v] at e'
    replace e := br_s e
    replace e' := br_s e'
    rcases e with ⟨l, e⟩ | ⟨l, e⟩
    · rcases e' with ⟨_, e'⟩ | ⟨l', _⟩
      · rw [← Option.some.inj (gd_s e).2, ← Option.some.inj (gd_s e').2]; exact ⟨rfl, rfl, rfl, fun z => absurd rfl z⟩
      · exact absurd l l'
    rcases e' with ⟨l', _⟩ | ⟨_, e'⟩
    · exact absurd l' l
    replace e := br_s e
    replace e' := br_s e'
    rcases e with ⟨l2, e⟩ | ⟨l2, e⟩
    · rcases e' with ⟨_, e'⟩ | ⟨l', _⟩
      · rw [← Option.some.inj (gd_s e).2, ← Option.some.inj (gd_s e').2]; exact ⟨rfl, rfl, rfl, fun z => absurd rfl z⟩
      · exact absurd l2 l'
    rcases e' with ⟨l', _⟩ | ⟨_, e'⟩
    · exact absurd l' l2
    rw [← Option.some.inj (gd_s e).2, ← Option.some.inj (gd_s e').2]
    exact ⟨rfl, rfl, rfl, fun _ => ⟨v, nlt_i l, nlt_i l2⟩⟩
  · rcases e' with ⟨k', _⟩ | ⟨k', e'⟩
    · exact absurd (kk.mpr k') k
    rw [← Option.some.inj (gd_s e).2, ← Option.some.inj (gd_s e').2]; exact ⟨rfl, rfl, rfl, fun z => absurd rfl z⟩
/-- signs: the class keeps them apart by kind -/
theorem sg_r (C : CT T N t x0 hc) (R : RT T N x1 hr) (S : TS T N x0 m hc hr) {ch : Int32} {o' : Int32 × Hp} {kd : Int} (hk : (kd = 3 ∧ ch.toInt = 59) ∨ (kd = 4 ∧ ch.toInt = 44)) (e' : sX15_isSign hr m x1 ch = some o') : o'.2 = hr ∧ (o'.1 = 0 ↔ ¬ (hI hc x0 4).toInt = kd) := by
  have f0 := ts_f S
  have b0 := ts_b S
  obtain ⟨p, k, A, _, _⟩ := id S
  unfold sX15_isSign sX15_isSign_22 sX15_isSign_23 at e'
  have z3 : (3 : Int32).toInt = 3 := rfl
  have k6 := f0.2.2.1
  unfold km at k6
  replace e' := br_s e'
  rcases e' with ⟨k', e'⟩ | ⟨k', e'⟩
  · have k3 : (hI hc x0 4).toInt = 3 ∨ (hI hc x0 4).toInt = 4 := by
      have : (hI hr m 6).toInt = 3 := by rw [k']; rfl
      rw [this] at k6
      split at k6
      · omega
      · split at k6 <;> omega
    obtain ⟨sN, tb⟩ := tk_sg A k3
    replace e' := (gd_s e').2
    rw [← f0.1] at e'
    have nx := nc_i (x := hI hc x0 2) (by omega)
    have w : (hI hc x0 2).toNatClampNeg = (hI hc x0 2).toInt.toNat := by omega
    have v : (hI hr x1 (hI hc x0 2).toNatClampNeg).toInt = T (hI hc x0 2).toInt.toNat := by
      rw [R _ (by omega), w]
      unfold sg
      rw [if_pos (by omega)]
    replace e' := br_s e'
    rcases e' with ⟨b, e'⟩ | ⟨b, e'⟩
    · have b : T (hI hc x0 2).toInt.toNat = ch.toInt := by rw [← v, b]
      rw [← Option.some.inj (gd_s e').2]
      refine ⟨rfl, ⟨fun z => absurd z i1n0, fun z => ?_⟩⟩
      omega
    · have b := ne_i b
      rw [v] at b
      rw [← Option.some.inj (gd_s e').2]
      refine ⟨rfl, ⟨fun _ => by omega, fun _ => rfl⟩⟩
  · have k' := ne_i k'
    rw [z3] at k'
    rw [← Option.some.inj (gd_s e').2]
    refine ⟨rfl, ⟨fun _ z => k' ?_, fun _ => rfl⟩⟩
    rw [k6]
    split
    · omega
    · split <;> omega
end
end
