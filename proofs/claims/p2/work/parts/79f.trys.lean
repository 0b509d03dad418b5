/-! moves of the reference: who is taken stands there -/
theorem inb_r {x : Int32} {n : Nat} (g : inB x n) : 0 ≤ x.toInt ∧ x.toInt < (n : Int) := by
  have h1 : ¬ x < 0 := fun z => g (Or.inl z)
  have h2 : ¬ n ≤ x.toNatClampNeg := fun z => g (Or.inr z)
  have a := nlt_i h1
  have z0 : (0 : Int32).toInt = 0 := rfl
  have := nc_i (x := x) (by omega)
  omega
section
variable {ρ : Nat → Nat} {c : Cm} {h o g h0 : Hp} {x0 l b S Fa Ct M F : Nat} {sd s : Int32}
/-- what trying moves leaves: all but lists (z > 0), steps (z = 0, 1), vectors -/
def TF (z : Nat) (ρ : Nat → Nat) (x0 l : Nat) (h o : Hp) : Prop := (∀ a i, hR o a i = hR h a i) ∧ (∀ a i, hJ o a i = hJ h a i) ∧ (∀ a, hN o a = hN h a) ∧ ∀ a i, (z % 3 = 0 ∨ ¬ (66 ≤ ρ a ∧ ρ a ≤ 72)) → (2 ≤ z ∨ ¬ (87 ≤ ρ a ∧ ρ a ≤ 89)) → (z % 3 = 0 ∨ ¬ (a = l ∧ i = 0)) → ¬ (a = x0 ∧ (i = 23 ∨ i = 24)) → hI o a i = hI h a i
theorem tf_0 {z : Nat} : TF z ρ x0 l h h := ⟨fun _ _ => rfl, fun _ _ => rfl, fun _ => rfl, fun _ _ _ _ _ _ => rfl⟩
theorem tf_t {z : Nat} (p : TF z ρ x0 l h g) (q : TF z ρ x0 l g o) : TF z ρ x0 l h o := ⟨fun a i => (q.1 a i).trans (p.1 a i), fun a i => (q.2.1 a i).trans (p.2.1 a i), fun a => (q.2.2.1 a).trans (p.2.2.1 a), fun a i n1 n2 n3 n4 => (q.2.2.2 a i n1 n2 n3 n4).trans (p.2.2.2 a i n1 n2 n3 n4)⟩
theorem tf_w {z a i : Nat} {v : Int32} (e : (¬ z % 3 = 0 ∧ 66 ≤ ρ a ∧ ρ a ≤ 72) ∨ (¬ 2 ≤ z ∧ 87 ≤ ρ a ∧ ρ a ≤ 89) ∨ (¬ z % 3 = 0 ∧ a = l ∧ i = 0) ∨ (a = x0 ∧ (i = 23 ∨ i = 24))) : TF z ρ x0 l h (wI h a i v) := ⟨fun _ _ => rfl, fun _ _ => rfl, fun _ => rfl, fun b j n1 n2 n3 n4 => by
  rw [r_I, if_neg]
  rintro ⟨q1, q2⟩
  subst q1; subst q2
  rcases e with e | e | e | e
  · exact (n1.resolve_left e.1) e.2
  · exact (n2.resolve_left e.1) e.2
  · exact (n3.resolve_left e.1) e.2
  · exact n4 e⟩
theorem tf_1 {z : Nat} (p : TF z ρ x0 l h o) : TF 1 ρ x0 l h o := ⟨p.1, p.2.1, p.2.2.1, fun a i n1 n2 n3 n4 => p.2.2.2 a i (Or.inr (n1.resolve_left (by decide))) (Or.inr (n2.resolve_left (by decide))) (Or.inr (n3.resolve_left (by decide))) n4⟩
/-- what is noted of steps -/
def LdS (S Fa Ct M : Nat) (sd : Int32) (sq np : Int) (h : Hp) : Prop := ∀ t : Nat, (t : Int) < sq → 0 ≤ (hI h S t).toInt → nOwn sd (hI h M t) ∧ (¬ hI h Ct t = 0 → 1 < np) ∧ (hI h Fa t).toInt ≤ 8
/-- where things lie, for trying -/
def TP (ρ : Nat → Nat) (x0 b S Fa Ct M P R A B Ri : Nat) (np : Int) (h : Hp) : Prop := (hR h x0 25 = some S ∧ hR h x0 26 = some Fa ∧ hR h x0 27 = some Ct ∧ hR h b 0 = some M ∧ hR h b 4 = some P ∧ hR h x0 4 = some R ∧ hR h R 6 = some A ∧ hR h R 7 = some B ∧ hR h R 8 = some Ri) ∧ (ρ x0 = 16 ∧ ρ b = 13 ∧ ρ S = 87 ∧ ρ Fa = 88 ∧ ρ Ct = 89 ∧ ρ M = 62 ∧ ρ P = 63 ∧ ρ R = 15 ∧ ρ A = 76 ∧ ρ B = 77 ∧ ρ Ri = 78) ∧ (∀ i, Rg (-7) 7 (hI h A i)) ∧ (∀ i, Rg (-7) 7 (hI h B i)) ∧ Rg 0 64 (hI h b 3) ∧ (hI h b 3).toInt = np ∧ PE b h ∧ ∀ i, Rg 0 7 (hI h Ri i)
theorem tf_3 {z : Nat} (p : TF 3 ρ x0 l h o) : TF z ρ x0 l h o := ⟨p.1, p.2.1, p.2.2.1, fun a i n1 n2 n3 n4 => p.2.2.2 a i (Or.inl rfl) (Or.inl (by decide)) (Or.inl rfl) n4⟩
theorem tp_k {P R A B Ri z : Nat} {np : Int} (rl : ρ l = 14) (k : TF z ρ x0 l h o) (Q : TP ρ x0 b S Fa Ct M P R A B Ri np h) : TP ρ x0 b S Fa Ct M P R A B Ri np o := by
  obtain ⟨⟨a1, a2, a3, a4, a5, a6, a7, a8, a9⟩, ⟨b1, b2, b3, b4, b5, b6, b7, b8, b9, b10, b11⟩, c1, c2, c3, c4, c5, c6⟩ := Q
  have kI : ∀ {a q : Nat} (i : Nat), ρ a = q → ¬ (66 ≤ q ∧ q ≤ 72) → ¬ (87 ≤ q ∧ q ≤ 89) → q ≠ 14 → q ≠ 16 → hI o a i = hI h a i := fun {a q} i ra n1 n2 n3 n4 => k.2.2.2 a i (Or.inr (by rw [ra]; exact n1)) (Or.inr (by rw [ra]; exact n2)) (Or.inr (fun z => n3 (by rw [← ra, z.1]; exact rl))) (fun z => n4 (by rw [← ra, z.1]; exact b1))
  have e3 : hI o b 3 = hI h b 3 := kI 3 b2 (by decide) (by decide) (by decide) (by decide)
  refine ⟨⟨by rw [k.1]; exact a1, by rw [k.1]; exact a2, by rw [k.1]; exact a3, by rw [k.1]; exact a4, by rw [k.1]; exact a5, by rw [k.1]; exact a6, by rw [k.1]; exact a7, by rw [k.1]; exact a8, by rw [k.1]; exact a9⟩, ⟨b1, b2, b3, b4, b5, b6, b7, b8, b9, b10, b11⟩, fun i => ?_, fun i => ?_, by rw [e3]; exact c3, by rw [e3]; exact c4, fun M' P' m1 m2 k0 k1 k2 => ?_, fun i => ?_⟩
  · rw [kI i b9 (by decide) (by decide) (by decide) (by decide)]; exact c1 i
  · rw [kI i b10 (by decide) (by decide) (by decide) (by decide)]; exact c2 i
  · rw [k.1] at m1 m2
    have y1 : M' = M := r_eq a4 m1
    have y2 : P' = P := r_eq a5 m2
    subst y1; subst y2
    rw [e3] at k2
    rw [kI _ b7 (by decide) (by decide) (by decide) (by decide), kI _ b6 (by decide) (by decide) (by decide) (by decide)]
    exact c5 M' P' a4 a5 k0 k1 k2
  · rw [kI i b11 (by decide) (by decide) (by decide) (by decide)]; exact c6 i
theorem onw_h {s k : Int32} {o : Int32 × Hp} (e : sX15_onward h x0 s k = some o) : o.2 = h := by
  unfold sX15_onward sX15_onward_55 sX15_onward_68 at e
  replace e := (gd_s e).2
  replace e := nm_s e; obtain ⟨_, _, e⟩ := e
  replace e := (gd_s e).2
  replace e := nm_s e; obtain ⟨_, _, e⟩ := e
  replace e := br_s e; rcases e with ⟨_, e⟩ | ⟨_, e⟩
  · rw [← Option.some.inj e]
  replace e := br_s e; rcases e with ⟨_, e⟩ | ⟨_, e⟩
  · rw [← Option.some.inj e]
  replace e := br_s e; rcases e with ⟨_, e⟩ | ⟨_, e⟩
  · rw [← Option.some.inj e]
  replace e := br_s e; rcases e with ⟨_, e⟩ | ⟨_, e⟩
  · rw [← Option.some.inj e]
  · rw [← Option.some.inj e]
theorem gone_np {P : Nat} {t : Int32} {o : Int32 × Hp} (eP : hR h b 4 = some P) (ip : Rg 0 64 (hI h b 3)) (e : sX15_isGoneOver F h x0 b t = some o) : o.2 = h ∧ (o.1 = 0 ∨ 1 < (hI h b 3).toInt) := by
  unfold sX15_isGoneOver at e
  obtain ⟨q, w⟩ := go_loop eP ip F _ o (by decide) e
  refine ⟨q, ?_⟩
  rcases w with w | ⟨k, k1, k2, k3⟩
  · exact Or.inl w
  · exact Or.inr (by omega)
theorem ld_18 {P R A B Ri : Nat} {np sq : Int} {st ct fl : Int32} (rl : ρ l = 14) : ∀ (f : Nat) {h o : Hp} {x7 x8 : Int32}, TP ρ x0 b S Fa Ct M P R A B Ri np h → LdS S Fa Ct M sd sq np h → sX15_leadBy_18 F f h x0 b s sd st ct fl x7 x8 = some o → TF 0 ρ x0 l h o ∧ LdS S Fa Ct M sd sq np o := by
  intro f
  induction f with
  | zero => intro h o x7 x8 _ _ e; exact absurd e (by rw [sX15_leadBy_18]; exact fun z => nomatch z)
  | succ f ih =>
    intro h o x7 x8 Q L e
    have Q' := Q
    obtain ⟨⟨a1, a2, a3, a4, a5, a6, a7, a8, a9⟩, ⟨b1, b2, b3, b4, b5, b6, b7, b8, b9, b10, b11⟩, c1, c2, c3, c4, c5, c6⟩ := Q
    rw [sX15_leadBy_18] at e
    unfold sX15_leadBy_216 at e
    have tail : ∀ {g : Hp} {v y7 : Int32}, TF 0 ρ x0 l h g → LdS S Fa Ct M sd sq np g → sX15_leadBy_195 F (sX15_leadBy_18 F f) g x0 b s sd st ct fl y7 x8 v = some o → TF 0 ρ x0 l h o ∧ LdS S Fa Ct M sd sq np o := fun {g v y7} k L e => by
      unfold sX15_leadBy_195 sX15_leadBy_207 at e
      replace e := br_s e
      rcases e with ⟨_, e⟩ | ⟨_, e⟩
      · replace e := nm_s e; obtain ⟨_, _, e⟩ := e
        replace e := nm_s e; obtain ⟨_, _, e⟩ := e
        obtain ⟨z1, z2⟩ := ih (tp_k rl k Q') L e
        exact ⟨tf_t k z1, z2⟩
      · replace e := nm_s e; obtain ⟨_, _, e⟩ := e
        replace e := nm_s e; obtain ⟨_, _, e⟩ := e
        obtain ⟨z1, z2⟩ := ih (tp_k rl k Q') L e
        exact ⟨tf_t k z1, z2⟩
    replace e := cl_s e; obtain ⟨R', er, e⟩ := e
    have y : R' = R := r_eq a6 er
    subst y
    replace e := cl_s e; obtain ⟨Ri', eri, e⟩ := e
    have y : Ri' = Ri := r_eq a9 eri
    subst y
    replace e := (gd_s e).2
    replace e := br_s e
    rcases e with ⟨_, e⟩ | ⟨nr, e⟩
    · rw [← Option.some.inj e]; exact ⟨tf_0, L⟩
    have l8 : x8.toInt ≤ 8 := by
      have := nlt_i nr
      have := (c6 st.toNatClampNeg).2
      omega
    replace e := br_s e
    rcases e with ⟨_, e⟩ | ⟨_, e⟩
    · rw [← Option.some.inj e]; exact ⟨tf_0, L⟩
    replace e := cl_s e; obtain ⟨o6, e6, e⟩ := e
    rw [onw_h e6] at e
    replace e := br_s e
    rcases e with ⟨_, e⟩ | ⟨_, e⟩
    · rw [← Option.some.inj e]; exact ⟨tf_0, L⟩
    replace e := cl_s e; obtain ⟨M', em, e⟩ := e
    have y : M' = M := r_eq a4 em
    subst y
    replace e := (gd_s e).2
    replace e := nm_s e; obtain ⟨v, ev, e⟩ := e
    replace e := cl_s e; obtain ⟨o11, e11, e⟩ := e
    rw [(free_post e11).1] at e
    replace e := br_s e
    rcases e with ⟨_, e⟩ | ⟨_, e⟩
    · exact tail tf_0 L e
    have note : ∀ {z : Int32}, (¬ z = 0 → 1 < np) → nOwn sd (hI h M' o6.1.toNatClampNeg) → sX15_leadBy_168 F (sX15_leadBy_18 F f) h x0 b s sd st ct fl x7 x8 o6.1 v z = some o → TF 0 ρ x0 l h o ∧ LdS S Fa Ct M' sd sq np o := fun {z} hz no e => by
      unfold sX15_leadBy_168 at e
      replace e := cl_s e; obtain ⟨S', es, e⟩ := e
      have y : S' = S := r_eq a1 es
      subst y
      replace e := (gd_s e).2
      replace e := nm_s e; obtain ⟨h3, w3, e⟩ := e
      replace e := cl_s e; obtain ⟨Fa', ef, e⟩ := e
      have y : Fa' = Fa := r_eq a2 (by rw [w3] at ef; exact ef)
      subst y
      replace e := (gd_s e).2
      replace e := nm_s e; obtain ⟨h6, w6, e⟩ := e
      replace e := cl_s e; obtain ⟨Ct', ec, e⟩ := e
      have y : Ct' = Ct := r_eq a3 (by rw [w6, w3] at ec; exact ec)
      subst y
      replace e := (gd_s e).2
      replace e := nm_s e; obtain ⟨h9, w9, e⟩ := e
      have nSF : ¬ S' = Fa' := fun q => by rw [q, b4] at b3; exact absurd b3 (by decide)
      have nSC : ¬ S' = Ct' := fun q => by rw [q, b5] at b3; exact absurd b3 (by decide)
      have nFC : ¬ Fa' = Ct' := fun q => by rw [q, b5] at b4; exact absurd b4 (by decide)
      have k9 : TF 0 ρ x0 l h h9 := by
        rw [w9, w6, w3]
        exact tf_t (tf_t (tf_w (Or.inr (Or.inl ⟨by decide, by rw [b3]; decide⟩))) (tf_w (Or.inr (Or.inl ⟨by decide, by rw [b4]; decide⟩)))) (tf_w (Or.inr (Or.inl ⟨by decide, by rw [b5]; decide⟩)))
      have kM : ∀ i, hI h9 M' i = hI h M' i := fun i => k9.2.2.2 M' i (Or.inl rfl) (Or.inr (by rw [b6]; decide)) (Or.inl rfl) (fun q => by rw [q.1, b1] at b6; exact absurd b6 (by decide))
      refine tail k9 (fun t h1 h2 => ?_) e
      rw [kM]
      by_cases q : t = o6.1.toNatClampNeg
      · rw [q]
        refine ⟨no, fun h3' => hz (fun zz => h3' ?_), ?_⟩
        · rw [w9, rI_s, zz]; rfl
        · rw [w9, rI_a nFC, w6, rI_s]; exact l8
      · have eS : hI h9 S' t = hI h S' t := by rw [w9, rI_a nSC, w6, rI_a nSF, w3, rI_o q]
        have eC : hI h9 Ct' t = hI h Ct' t := by rw [w9, rI_o q, w6, rI_a (fun z => nFC z.symm), w3, rI_a (fun z => nSC z.symm)]
        have eF : hI h9 Fa' t = hI h Fa' t := by rw [w9, rI_a nFC, w6, rI_o q, w3, rI_a (fun z => nSF z.symm)]
        rw [eS] at h2
        rw [eC, eF]
        exact L t h1 h2
    have both : ∀ {z g : Int32}, (¬ z = 0 → 1 < np ∧ nOwn sd (hI h M' o6.1.toNatClampNeg)) → (¬ g = 0 → nOwn sd (hI h M' o6.1.toNatClampNeg)) → sX15_leadBy_156 F (sX15_leadBy_18 F f) h x0 b s sd st ct fl x7 x8 o6.1 v z g = some o → TF 0 ρ x0 l h o ∧ LdS S Fa Ct M' sd sq np o := fun {z g} hz hg e => by
      unfold sX15_leadBy_156 at e
      replace e := br_s e
      rcases e with ⟨_, e⟩ | ⟨q, e⟩
      · replace e := br_s e
        rcases e with ⟨_, e⟩ | ⟨q, e⟩
        · exact tail tf_0 L e
        · exact note (fun w => (hz w).1) (hg q) e
      · exact note (fun w => (hz w).1) (hz q).2 e
    have by_ : ∀ {z : Int32}, (¬ z = 0 → 1 < np ∧ nOwn sd (hI h M' o6.1.toNatClampNeg)) → sX15_leadBy_113 F (sX15_leadBy_18 F f) h x0 b s sd st ct fl x7 x8 o6.1 v z = some o → TF 0 ρ x0 l h o ∧ LdS S Fa Ct M' sd sq np o := fun {z} hz e => by
      unfold sX15_leadBy_113 sX15_leadBy_140 at e
      replace e := br_s e
      rcases e with ⟨q, e⟩ | ⟨_, e⟩
      · have q := le_i q
        rw [ev] at q
        replace e := br_s e
        rcases e with ⟨_, e⟩ | ⟨_, e⟩
        · exact both hz (fun _ => Or.inl q) e
        · exact both hz (fun _ => Or.inl q) e
      · replace e := cl_s e; obtain ⟨o3, e3, e⟩ := e
        unfold sX15_sideOf at e3
        rw [← Option.some.inj e3] at e
        replace e := br_s e
        rcases e with ⟨_, e⟩ | ⟨q, e⟩
        · exact both hz (fun q => absurd rfl q) e
        · have q' : ¬ (hI h M' o6.1.toNatClampNeg - (1 : Int32)) &&& (1 : Int32) = sd := by rw [← ev]; exact q
          replace e := br_s e
          rcases e with ⟨_, e⟩ | ⟨_, e⟩
          · exact both hz (fun _ => Or.inr q') e
          · exact both hz (fun q => absurd rfl q) e
    replace e := cl_s e; obtain ⟨S', es, e⟩ := e
    replace e := (gd_s e).2
    replace e := br_s e
    rcases e with ⟨_, e⟩ | ⟨_, e⟩
    · unfold sX15_leadBy_112 at e
      replace e := br_s e
      rcases e with ⟨_, e⟩ | ⟨_, e⟩
      · exact by_ (fun q => absurd rfl q) e
      replace e := br_s e
      rcases e with ⟨_, e⟩ | ⟨_, e⟩
      · exact by_ (fun q => absurd rfl q) e
      replace e := cl_s e; obtain ⟨o18, e18, e⟩ := e
      obtain ⟨h18, n18⟩ := gone_np a5 c3 e18
      rw [h18] at e
      rw [c4] at n18
      replace e := br_s e
      rcases e with ⟨_, e⟩ | ⟨c6, e⟩
      · exact by_ (fun q => absurd rfl q) e
      · have np1 : 1 < np := n18.resolve_left c6
        exact by_ (fun _ => ⟨np1, Or.inl ((gone_over a4 a5 c3 c5 e18).2.resolve_left c6)⟩) e
    · exact tail tf_0 L e
/-- lead: what it notes, what it leaves -/
theorem ld_78 {P R A B Ri : Nat} {np sq : Int} {ct v : Int32} (rl : ρ l = 14) {K : Hp → Nat → Nat → Int32 → Int32 → Int32 → Int32 → Int32 → Option Hp} {x6 x7 : Int32} (hK : ∀ {g : Hp} {y : Int32}, TP ρ x0 b S Fa Ct M P R A B Ri np g → LdS S Fa Ct M sd sq np g → K g x0 b s ct v sd y = some o → TF 0 ρ x0 l g o ∧ LdS S Fa Ct M sd sq np o) : ∀ (f : Nat) {h : Hp} {x8 : Int32}, TP ρ x0 b S Fa Ct M P R A B Ri np h → LdS S Fa Ct M sd sq np h → sX15_lead_78 F K f h x0 b s ct v sd x6 x7 x8 = some o → TF 0 ρ x0 l h o ∧ LdS S Fa Ct M sd sq np o := by
  intro f
  induction f with
  | zero => intro h x8 _ _ e; exact absurd e (by rw [sX15_lead_78]; exact fun z => nomatch z)
  | succ f ih =>
    intro h x8 Q L e
    rw [sX15_lead_78] at e
    unfold sX15_lead_127 sX15_lead_121 at e
    replace e := br_s e
    rcases e with ⟨_, e⟩ | ⟨_, e⟩
    · replace e := nm_s e; obtain ⟨_, _, e⟩ := e
      exact hK Q L e
    replace e := cl_s e; obtain ⟨o2, e2, e⟩ := e
    rw [from_post e2] at e
    replace e := br_s e
    rcases e with ⟨_, e⟩ | ⟨_, e⟩
    · replace e := nm_s e; obtain ⟨_, _, e⟩ := e
      exact hK Q L e
    replace e := cl_s e; obtain ⟨o4, e4, e⟩ := e
    have Q' := Q
    obtain ⟨⟨a1, a2, a3, a4, a5, a6, a7, a8, a9⟩, ⟨b1, b2, b3, b4, b5, b6, b7, b8, b9, b10, b11⟩, c1, c2, c3, c4, c5, c6⟩ := Q
    obtain ⟨d1, d2, w, _, _⟩ := hv_post a6 a7 a8 c1 c2 e4
    have k4 : TF 0 ρ x0 l h o4.2 := by
      rw [w]
      exact tf_t (tf_w (Or.inr (Or.inr (Or.inr ⟨rfl, Or.inl rfl⟩)))) (tf_w (Or.inr (Or.inr (Or.inr ⟨rfl, Or.inr rfl⟩))))
    have nx : ∀ {a q : Nat} (i : Nat), ρ a = q → q ≠ 16 → hI o4.2 a i = hI h a i := fun {a q} i ra hq => by
      have na : ¬ a = x0 := fun z => hq (by rw [← ra, z]; exact b1)
      rw [w, rI_a na, rI_a na]
    have L4 : LdS S Fa Ct M sd sq np o4.2 := fun t h1 h2 => by
      rw [nx t b3 (by decide)] at h2
      rw [nx t b6 (by decide), nx t b5 (by decide), nx t b4 (by decide)]
      exact L t h1 h2
    replace e := br_s e
    rcases e with ⟨_, e⟩ | ⟨_, e⟩
    · replace e := nm_s e; obtain ⟨_, _, e⟩ := e
      obtain ⟨z1, z2⟩ := ih (tp_k rl k4 Q') L4 e
      exact ⟨tf_t k4 z1, z2⟩
    replace e := cl_s e; obtain ⟨o6, e6, e⟩ := e
    unfold sX15_leadBy at e6
    replace e6 := cl_s e6; obtain ⟨_, _, e6⟩ := e6
    replace e6 := cl_s e6; obtain ⟨_, _, e6⟩ := e6
    replace e6 := (gd_s e6).2
    replace e6 := nm_s e6; obtain ⟨_, _, e6⟩ := e6
    obtain ⟨y1, y2⟩ := ld_18 rl F (tp_k rl k4 Q') L4 e6
    replace e := nm_s e; obtain ⟨_, _, e⟩ := e
    obtain ⟨z1, z2⟩ := ih (tp_k rl (tf_t k4 y1) Q') y2 e
    exact ⟨tf_t (tf_t k4 y1) z1, z2⟩
theorem ld_44 {P R A B Ri : Nat} {np sq : Int} {ct v : Int32} (rl : ρ l = 14) : ∀ (f : Nat) {h : Hp} {x6 : Int32}, TP ρ x0 b S Fa Ct M P R A B Ri np h → LdS S Fa Ct M sd sq np h → sX15_lead_44 F f h x0 b s ct v sd x6 = some o → TF 0 ρ x0 l h o ∧ LdS S Fa Ct M sd sq np o := by
  intro f
  induction f with
  | zero => intro h x6 _ _ e; exact absurd e (by rw [sX15_lead_44]; exact fun z => nomatch z)
  | succ f ih =>
    intro h x6 Q L e
    rw [sX15_lead_44] at e
    replace e := cl_s e; obtain ⟨_, _, e⟩ := e
    replace e := cl_s e; obtain ⟨_, _, e⟩ := e
    replace e := cl_s e; obtain ⟨o3, e3, e⟩ := e
    unfold sX15_manOf at e3
    rw [← Option.some.inj e3] at e
    replace e := (gd_s e).2
    replace e := br_s e
    rcases e with ⟨_, e⟩ | ⟨_, e⟩
    · rw [← Option.some.inj e]; exact ⟨tf_0, L⟩
    replace e := cl_s e; obtain ⟨o6, e6, e⟩ := e
    unfold sX15_manOf at e6
    rw [← Option.some.inj e6] at e
    replace e := nm_s e; obtain ⟨_, _, e⟩ := e
    exact ld_78 rl (fun Q L e => ih Q L e) F Q L e
theorem ld_clr {P R A B Ri : Nat} {np : Int} {ct v : Int32} (rl : ρ l = 14) : ∀ (f : Nat) {h : Hp} {x6 : Int32}, TP ρ x0 b S Fa Ct M P R A B Ri np h → 0 ≤ x6.toInt → (hI h x0 13).toInt ≤ 64 → (∀ t : Nat, (t : Int) < x6.toInt → hI h S t = (-1 : Int32)) → sX15_lead_18 F f h x0 b s ct v sd x6 = some o → TF 0 ρ x0 l h o ∧ LdS S Fa Ct M sd (hI h x0 13).toInt np o := by
  have z1 : (1 : Int32).toInt = 1 := rfl
  intro f
  induction f with
  | zero => intro h x6 _ _ _ _ e; exact absurd e (by rw [sX15_lead_18]; exact fun z => nomatch z)
  | succ f ih =>
    intro h x6 Q a6' l64 C e
    rw [sX15_lead_18] at e
    replace e := br_s e
    rcases e with ⟨q, e⟩ | ⟨q, e⟩
    · have q := le_i q
      refine ld_44 rl F Q (fun t h1 h2 => ?_) e
      rw [C t (by omega)] at h2
      exact absurd h2 (by decide)
    have q := nle_i q
    have Q' := Q
    obtain ⟨⟨a1, a2, a3, a4, a5, a6, a7, a8, a9⟩, ⟨b1, b2, b3, b4, b5, b6, b7, b8, b9, b10, b11⟩, c1, c2, c3, c4, c5, c6⟩ := Q
    replace e := cl_s e; obtain ⟨S', es, e⟩ := e
    have y : S' = S := r_eq a1 es
    subst y
    replace e := (gd_s e).2
    replace e := nm_s e; obtain ⟨h4, w4, e⟩ := e
    have k4 : TF 0 ρ x0 l h h4 := by rw [w4]; exact tf_w (Or.inr (Or.inl ⟨by decide, by rw [b3]; decide⟩))
    have e13 : hI h4 x0 13 = hI h x0 13 := by rw [w4, rI_a (fun z => by rw [z, b3] at b1; exact absurd b1 (by decide))]
    replace e := nm_s e; obtain ⟨v5, w5, e⟩ := e
    have t5 : v5.toInt = x6.toInt + 1 := by rw [w5, ta (by rw [z1]; omega), z1]
    have n6 := nc_i a6'
    obtain ⟨z1', z2'⟩ := ih (tp_k rl k4 Q') (by omega) (by rw [e13]; exact l64) (fun t ht => by
      rw [w4, r_I]
      by_cases qq : t = x6.toNatClampNeg
      · rw [if_pos ⟨rfl, qq⟩]
      · rw [if_neg (fun y => qq y.2)]; exact C t (by omega)) e
    rw [e13] at z2'
    exact ⟨tf_t k4 z1', z2'⟩
theorem lead_z {P R A B Ri : Nat} {np : Int} {ct : Int32} (rl : ρ l = 14) (Q : TP ρ x0 b S Fa Ct M P R A B Ri np h) (l64 : (hI h x0 13).toInt ≤ 64) (e : sX15_lead F h x0 b s ct = some o) : TF 0 ρ x0 l h o ∧ LdS S Fa Ct M ((hI h M s.toNatClampNeg - (1 : Int32)) &&& (1 : Int32)) (hI h x0 13).toInt np o := by
  unfold sX15_lead at e
  replace e := cl_s e; obtain ⟨M', em, e⟩ := e
  have y : M' = M := r_eq Q.1.2.2.2.1 em
  subst y
  replace e := (gd_s e).2
  replace e := nm_s e; obtain ⟨v, ev, e⟩ := e
  replace e := cl_s e; obtain ⟨o4, e4, e⟩ := e
  unfold sX15_sideOf at e4
  rw [← Option.some.inj e4] at e
  rw [← ev]
  exact ld_clr rl F Q (by decide) l64 (fun t ht => absurd ht (by show ¬ (t : Int) < 0; omega)) e
end
