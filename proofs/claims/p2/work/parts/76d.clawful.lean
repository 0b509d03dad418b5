/-! what is lawful of a list -/
section
variable {ρ : Nat → Nat} {c : Cm} {h o g : Hp} {x0 L b r on sh p q F : Nat} {n m : Int} {x1 x2 x3 v : Int32}
/-- a copy has the side of its pattern; no other position's side changes -/
def Sd4 (ρ : Nat → Nat) (p q : Nat) (h o : Hp) : Prop := hI o p 5 = hI h q 5 ∧ ∀ a, ρ a = 4 → ¬ a = p → hI o a 5 = hI h a 5
theorem cfs_17 (rq : ρ q = 4) : ∀ (f : Nat) {h o : Hp} {x2 : Int32}, PR ρ p h → sX3_copyFrom_17 F f h p q x2 = some o → Sd4 ρ p q h o := by
  intro f
  induction f with
  | zero => intro h o x2 _ e; exact absurd e (by rw [sX3_copyFrom_17]; exact fun z => nomatch z)
  | succ f ih =>
    intro h o x2 P e
    rw [sX3_copyFrom_17] at e
    replace e := br_s e
    rcases e with ⟨_, e⟩ | ⟨_, e⟩
    · replace e := nm_s e
      obtain ⟨h2, w2, e⟩ := e
      replace e := nm_s e
      obtain ⟨h3, w3, e⟩ := e
      replace e := nm_s e
      obtain ⟨h4, w4, e⟩ := e
      replace e := nm_s e
      obtain ⟨h5, w5, e⟩ := e
      replace e := nm_s e
      obtain ⟨h6, w6, e⟩ := e
      have k : ∀ a, hI h6 a 5 = hI h2 a 5 := fun a => by
        rw [w6]
        show hI h5 a 5 = _
        rw [w5]
        show hI h4 a 5 = _
        rw [w4]
        show hI h3 a 5 = _
        rw [w3, r_I, if_neg (fun z => absurd z.2 (by decide))]
      rw [← Option.some.inj e]
      refine ⟨by rw [k, w2, r_I, if_pos ⟨rfl, rfl⟩], fun a _ na => by rw [k, w2, r_I, if_neg (fun z => na z.1)]⟩
    replace e := cl_s e
    obtain ⟨r7, _, e⟩ := e
    replace e := cl_s e
    obtain ⟨r8, _, e⟩ := e
    replace e := (gd_s (gd_s e).2).2
    replace e := nm_s e
    obtain ⟨h11, w11, e⟩ := e
    have k11 : ∀ a i, hR h11 a i = hR h a i := fun a i => by rw [w11]; rfl
    replace e := cl_s e
    obtain ⟨r12, e12, e⟩ := e
    have q12 : ρ r12 = 36 := P.2.2.1 r12 (by rw [← k11]; exact e12)
    replace e := cl_s e
    obtain ⟨r13, _, e⟩ := e
    replace e := (gd_s (gd_s e).2).2
    replace e := nm_s e
    obtain ⟨h16, w16, e⟩ := e
    have k16 : ∀ a i, hR h16 a i = hR h a i := fun a i => by rw [w16]; exact k11 a i
    replace e := cl_s e
    obtain ⟨r17, _, e⟩ := e
    replace e := cl_s e
    obtain ⟨r18, _, e⟩ := e
    replace e := (gd_s (gd_s e).2).2
    replace e := nm_s e
    obtain ⟨h21, w21, e⟩ := e
    have k21 : ∀ a i, hR h21 a i = hR h a i := fun a i => by rw [w21]; exact k16 a i
    replace e := cl_s e
    obtain ⟨r22, e22, e⟩ := e
    have q22 : ρ r22 = 38 := P.2.2.2 r22 (by rw [← k21]; exact e22)
    replace e := cl_s e
    obtain ⟨r23, _, e⟩ := e
    replace e := (gd_s (gd_s e).2).2
    replace e := nm_s e
    obtain ⟨h26, w26, e⟩ := e
    have k26 : ∀ a i, hR h26 a i = hR h a i := fun a i => by rw [w26]; exact k21 a i
    have s26 : ∀ a, ρ a = 4 → hI h26 a 5 = hI h a 5 := fun a ra => by
      rw [w26, r_I, if_neg (ne_r ra q22 (by decide)), w21]
      show hI h16 a 5 = _
      rw [w16, r_I, if_neg (ne_r ra q12 (by decide)), w11]
      rfl
    replace e := nm_s e
    obtain ⟨v27, _, e⟩ := e
    obtain ⟨u1, u2⟩ := ih (pr_k k26 P) e
    exact ⟨by rw [u1]; exact s26 q rq, fun a ra na => by rw [u2 a ra na]; exact s26 a ra⟩
theorem copy_s (P : PR ρ p h) (rq : ρ q = 4) (e : sX3_copyFrom F h p q = some o) : Sd4 ρ p q h o := by
  unfold sX3_copyFrom at e
  replace e := cl_s e
  obtain ⟨r1, e1, e⟩ := e
  replace e := cl_s e
  obtain ⟨r2, e2, e⟩ := e
  have q2 := P.2.1 r2 e2
  iterate 6 replace e := (gd_s e).2
  replace e := nm_s e
  obtain ⟨h9, w9, e⟩ := e
  have k9 : ∀ a i, hR h9 a i = hR h a i := fun a i => by rw [w9]; rfl
  have s9 : ∀ a, ρ a = 4 → hI h9 a 5 = hI h a 5 := fun a ra => by
    rw [w9, cp_at, if_neg (fun y => absurd (ra.symm.trans (by rw [y.1, q2])) (by decide))]
  obtain ⟨u1, u2⟩ := cfs_17 rq F (pr_k k9 P) e
  exact ⟨by rw [u1]; exact s9 q rq, fun a ra na => by rw [u2 a ra na]; exact s9 a ra⟩
/-- what the keeping of lawful moves asks -/
def LaP (ρ : Nat → Nat) (x0 L b r on sh : Nat) (n m : Int) (h : Hp) : Prop := (hR h x0 0 = some L ∧ hR h x0 3 = some sh ∧ hR h x0 4 = some b ∧ hR h x0 5 = some r ∧ hR h b 0 = some on) ∧ (ρ x0 = 6 ∧ ρ L = 2 ∧ ρ b = 4 ∧ ρ r = 47 ∧ ρ on = 34) ∧ PR ρ sh h ∧ ¬ b = sh ∧ OnX n m on h ∧ Rg 0 1 (hI h b 5) ∧ Rg (-1) 11 (hI h L 6) ∧ (hI h L 6).toInt < m ∧ m ≤ 12
theorem lap_k (k : PxC ρ n m h o) (s : hI o b 5 = hI h b 5) (P : LaP ρ x0 L b r on sh n m h) : LaP ρ x0 L b r on sh n m o := by
  obtain ⟨⟨e0, e3, e4, e5, eo⟩, ⟨r0, rL, rb, rr', qo⟩, p1, p2, p3, p4, p5, p6, p7⟩ := P
  have iL : hI o L 6 = hI h L 6 := k.2.1 L 6 (by rw [rL]; rfl)
  exact ⟨⟨by rw [k.1]; exact e0, by rw [k.1]; exact e3, by rw [k.1]; exact e4, by rw [k.1]; exact e5, by rw [k.1]; exact eo⟩, ⟨r0, rL, rb, rr', qo⟩, pr_k k.1 p1, p2, on_k qo k p3, by rw [s]; exact p4, by rw [iL]; exact p5, by rw [iL]; exact p6, p7⟩
theorem kl_4 : ∀ (f : Nat) {h o : Hp} {x2 x3 : Int32}, LaP ρ x0 L b r on sh n m h → LsX x0 r n m h → 0 ≤ x2.toInt → x2.toInt ≤ x3.toInt → x2.toInt ≤ (hI h x0 6).toInt → sX5_keepLawful_4 F f h x0 x2 x3 = some o → LsX x0 r n m o := by
  intro f
  induction f with
  | zero => intro h o x2 x3 _ _ _ _ _ e; exact absurd e (by rw [sX5_keepLawful_4]; exact fun z => nomatch z)
  | succ f ih =>
    intro h o x2 x3 P X a2 l23 l2 e
    rw [sX5_keepLawful_4] at e
    have P' := P
    obtain ⟨⟨e0, e3, e4, e5, eo⟩, ⟨r0, rL, rb, rr', qo⟩, p1, p2, p3, p4, p5, p6, p7⟩ := P
    have nr : ¬ x0 = r := ne_r' r0 rr' (by decide)
    replace e := br_s e
    rcases e with ⟨_, e⟩ | ⟨l, e⟩
    · replace e := nm_s e
      obtain ⟨h2, w2, e⟩ := e
      rw [← Option.some.inj e]
      have k6 : hI h2 x0 6 = x2 := by rw [w2, r_I, if_pos ⟨rfl, rfl⟩]
      unfold LsX
      rw [k6]
      refine ⟨a2, fun i hi => ?_⟩
      rw [w2, r_I, if_neg (fun z => nr z.1.symm)]
      exact X.2 i (by omega)
    have l := nle_i l
    have z1 : (1 : Int32).toInt = 1 := rfl
    have top := (rg_top (hI h x0 6)).2
    have t3 : (x3 + (1 : Int32)).toInt = x3.toInt + 1 := by rw [ta (by rw [z1]; omega), z1]
    have t2 : (x2 + (1 : Int32)).toInt = x2.toInt + 1 := by rw [ta (by rw [z1]; omega), z1]
    have c3 := clamp_i (v := x3) (by omega)
    replace e := cl_s e
    obtain ⟨r3, h3, e⟩ := e
    have y3 : r3 = r := r_eq e5 h3
    subst y3
    replace e := (gd_s e).2
    replace e := nm_s e
    obtain ⟨v5, w5, e⟩ := e
    have M : MvX n m v5 := by rw [w5]; exact X.2 _ (by omega)
    clear w5
    replace e := cl_s e
    obtain ⟨o6, e6, e⟩ := e
    rw [safe_h e6] at e
    clear e6
    have b111 : ∀ {g : Hp} {y : Int32}, LaP ρ x0 L b r3 on sh n m g → LsX x0 r3 n m g → 0 ≤ y.toInt → y.toInt ≤ x3.toInt + 1 → y.toInt ≤ (hI g x0 6).toInt → sX5_keepLawful_111 F (sX5_keepLawful_4 F f) g x0 y x3 = some o → LsX x0 r3 n m o := fun {g y} Pg Xg ya yb yc e => by
      unfold sX5_keepLawful_111 at e
      replace e := nm_s e
      obtain ⟨w, ew, e⟩ := e
      have tw : w.toInt = x3.toInt + 1 := by rw [ew]; exact t3
      clear ew
      exact ih Pg Xg ya (by omega) yc e
    have b108 : ∀ {g : Hp} {y t : Int32}, LaP ρ x0 L b r3 on sh n m g → LsX x0 r3 n m g → 0 ≤ y.toInt → y.toInt ≤ x3.toInt + 1 → y.toInt ≤ (hI g x0 6).toInt → sX5_keepLawful_108 F (sX5_keepLawful_4 F f) g x0 y x3 t x0 = some o → LsX x0 r3 n m o := fun {g y t} Pg Xg ya yb yc e => by
      unfold sX5_keepLawful_108 at e
      replace e := (gd_s e).2
      replace e := nm_s e
      obtain ⟨h2, w2, e⟩ := e
      have k6 : hI h2 x0 6 = hI g x0 6 := by rw [w2, r_I, if_neg (fun z => absurd z.2 (by decide))]
      have kr : ∀ i, hI h2 r3 i = hI g r3 i := fun i => by rw [w2, r_I, if_neg (fun z => nr z.1.symm)]
      have kR : ∀ a i, hR h2 a i = hR g a i := fun a i => by rw [w2]; rfl
      have kI : ∀ a i, ¬ ρ a = 6 → hI h2 a i = hI g a i := fun a i na => by rw [w2, r_I, if_neg (fun z => na (by rw [z.1]; exact r0))]
      obtain ⟨⟨d0, d3, d4, d5, dn⟩, dr, s1, s2, s3, s4, s5, s6, s7⟩ := Pg
      have iL : hI h2 L 6 = hI g L 6 := kI L 6 (by rw [rL]; decide)
      refine b111 (g := h2) ⟨⟨by rw [kR]; exact d0, by rw [kR]; exact d3, by rw [kR]; exact d4, by rw [kR]; exact d5, by rw [kR]; exact dn⟩, dr, pr_k kR s1, s2, fun s hs z => ?_, by rw [kI b 5 (by rw [rb]; decide)]; exact s4, by rw [iL]; exact s5, by rw [iL]; exact s6, s7⟩ (ls_k r0 k6 kr Xg) ya yb (by rw [k6]; exact yc) e
      rw [kI on s (by rw [qo]; decide)] at z ⊢
      exact s3 s hs z
    have b70 : ∀ {g : Hp} {t : Int32}, LaP ρ x0 L b r3 on sh n m g → LsX x0 r3 n m g → x2.toInt ≤ (hI g x0 6).toInt → x3.toInt < (hI g x0 6).toInt → sX5_keepLawful_70 F (sX5_keepLawful_4 F f) g x0 x2 x3 v5 t = some o → LsX x0 r3 n m o := fun {g t} Pg Xg yc yd e => by
      unfold sX5_keepLawful_70 sX5_keepLawful_103 at e
      replace e := br_s e
      rcases e with ⟨_, e⟩ | ⟨_, e⟩
      · exact b111 Pg Xg a2 (by omega) yc e
      replace e := cl_s e
      obtain ⟨r2, h2', e⟩ := e
      have y2 : r2 = r3 := r_eq Pg.1.2.2.2.1 h2'
      subst y2
      replace e := (gd_s e).2
      replace e := nm_s e
      obtain ⟨h4, w4, e⟩ := e
      replace e := nm_s e
      obtain ⟨y5, w5, e⟩ := e
      have t5 : y5.toInt = x2.toInt + 1 := by rw [w5]; exact t2
      clear w5
      have k6 : hI h4 x0 6 = hI g x0 6 := by rw [w4, r_I, if_neg (fun z => nr z.1)]
      have kR : ∀ a i, hR h4 a i = hR g a i := fun a i => by rw [w4]; rfl
      have kI : ∀ a i, ¬ ρ a = 47 → hI h4 a i = hI g a i := fun a i na => by rw [w4, r_I, if_neg (fun z => na (by rw [z.1]; exact rr'))]
      have P4 : LaP ρ x0 L b r2 on sh n m h4 := by
        obtain ⟨⟨d0, d3, d4, d5, dn⟩, dr, s1, s2, s3, s4, s5, s6, s7⟩ := Pg
        have iL : hI h4 L 6 = hI g L 6 := kI L 6 (by rw [rL]; decide)
        refine ⟨⟨by rw [kR]; exact d0, by rw [kR]; exact d3, by rw [kR]; exact d4, by rw [kR]; exact d5, by rw [kR]; exact dn⟩, dr, pr_k kR s1, s2, fun s hs z => ?_, by rw [kI b 5 (by rw [rb]; decide)]; exact s4, by rw [iL]; exact s5, by rw [iL]; exact s6, s7⟩
        rw [kI on s (by rw [qo]; decide)] at z ⊢
        exact s3 s hs z
      have X4 : LsX x0 r2 n m h4 := by
        unfold LsX
        rw [k6]
        refine ⟨Xg.1, fun i hi => ?_⟩
        rw [w4, r_I]
        split
        · exact M
        · exact Xg.2 i hi
      have yc4 : y5.toInt ≤ (hI h4 x0 6).toInt := by rw [k6]; omega
      replace e := br_s e
      rcases e with ⟨_, e⟩ | ⟨_, e⟩
      · replace e := cl_s e
        obtain ⟨o7, e7, e⟩ := e
        rw [tkn_h e7] at e
        replace e := br_s e
        rcases e with ⟨_, e⟩ | ⟨_, e⟩
        · exact b108 P4 X4 (by omega) (by omega) yc4 e
        · exact b108 P4 X4 (by omega) (by omega) yc4 e
      · exact b108 P4 X4 (by omega) (by omega) yc4 e
    replace e := br_s e
    rcases e with ⟨_, e⟩ | ⟨_, e⟩
    · replace e := cl_s e
      obtain ⟨r8, h8, e⟩ := e
      have y8 : r8 = sh := r_eq e3 h8
      subst y8
      replace e := cl_s e
      obtain ⟨r9, h9, e⟩ := e
      have y9 : r9 = b := r_eq e4 h9
      subst y9
      replace e := cl_s e
      obtain ⟨o10, e10, e⟩ := e
      have k10 := copy_x (m := m) (n := n) p1 eo p3 e10
      obtain ⟨s10, t10⟩ := copy_s p1 rb e10
      have b10 : hI o10 r9 5 = hI h r9 5 := t10 r9 rb p2
      have P10 := lap_k k10 b10 P'
      replace e := cl_s e
      obtain ⟨r11, h11, e⟩ := e
      have y11 : r11 = r8 := r_eq P10.1.2.1 h11
      subst y11
      replace e := cl_s e
      obtain ⟨o12, e12, e⟩ := e
      have S10 : ShP ρ x0 r11 L m o10 := ⟨P10.2.2.1, P10.1.1, rL, by rw [s10]; exact p4, P10.2.2.2.2.2.2.1, P10.2.2.2.2.2.2.2.1, p7⟩
      obtain ⟨k12, s12⟩ := shift_x S10 M e12
      have P12 := lap_k k12 (s12 r9 rb) P10
      replace e := cl_s e
      obtain ⟨r13, h13, e⟩ := e
      have y13 : r13 = r11 := r_eq P12.1.2.1 h13
      subst y13
      replace e := cl_s e
      obtain ⟨o14, e14, e⟩ := e
      obtain ⟨k14, s14⟩ := blast_x (n := n) (m := m) P12.2.2.1 e14
      have P14 := lap_k k14 (s14 r9 rb) P12
      replace e := cl_s e
      obtain ⟨o15, e15, e⟩ := e
      rw [may_h e15] at e
      have kk := px_t k10 (px_t k12 k14)
      have i6 : hI o14 x0 6 = hI h x0 6 := kk.2.1 x0 6 (by rw [r0]; rfl)
      have ir : ∀ i, hI o14 r3 i = hI h r3 i := fun i => kk.2.1 r3 i (by rw [rr']; rfl)
      exact b70 P14 (ls_k r0 i6 ir X) (by rw [i6]; exact l2) (by rw [i6]; exact l) e
    · exact b70 P' X l2 l e
theorem lawful_l (P : LaP ρ x0 L b r on sh n m h) (X : LsX x0 r n m h) (a1 : 0 ≤ x1.toInt) (l1 : x1.toInt ≤ (hI h x0 6).toInt) (e : sX5_keepLawful F h x0 x1 = some o) : LsX x0 r n m o := by
  unfold sX5_keepLawful at e
  exact kl_4 F P X a1 (Int.le_refl _) l1 e
end
