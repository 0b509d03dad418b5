section
/-! moves of the reference: who is taken stands there -/
theorem inb_r {x : Int32} {n : Nat} (g : inB x n) : 0 ≤ x.toInt ∧ x.toInt < (n : Int) := by
  have h1 : ¬ x < 0 := fun z => g (Or.inl z)
  have h2 : ¬ n ≤ x.toNatClampNeg := fun z => g (Or.inr z)
  have a := nlt_i h1
  have z0 : (0 : Int32).toInt = 0 := rfl
  have := nc_i (x := x) (by omega)
  omega
section
variable {ρ : Nat → Nat} {c : Cm} {h o g h0 : Hp} {x0 l b S Fa Ct M F : Nat} {sd s : Int32}
/-- what trying moves leaves: all but lists (z > 0), steps (z = 0, 1), vectors -/
def TF (z : Nat) (ρ : Nat → Nat) (x0 l : Nat) (h o : Hp) : Prop := (∀ a i, hR o a i = hR h a i) ∧ (∀ a i, hJ o a i = hJ h a i) ∧ (∀ a, hN o a = hN h a) ∧ ∀ a i, (z % 3 = 0 ∨ ¬ (66 ≤ ρ a ∧ ρ a ≤ 72)) → (2 ≤ z ∨ ¬ (87 ≤ ρ a ∧ ρ a ≤ 89)) → (z % 3 = 0 ∨ ¬ (a = l ∧ i = 0)) → ¬ (a = x0 ∧ (i = 23 ∨ i = 24)) → hI o a i = hI h a i
theorem tf_0 {z : Nat} : TF z ρ x0 l h h := ⟨fun _ _ => rfl, fun _ _ => rfl, fun _ => rfl, fun _ _ _ _ _ _ => rfl⟩
theorem tf_t {z : Nat} (p : TF z ρ x0 l h g) (q : TF z ρ x0 l g o) : TF z ρ x0 l h o := ⟨fun a i => (q.1 a i).trans (p.1 a i), fun a i => (q.2.1 a i).trans (p.2.1 a i), fun a => (q.2.2.1 a).trans (p.2.2.1 a), fun a i n1 n2 n3 n4 => (q.2.2.2 a i n1 n2 n3 n4).trans (p.2.2.2 a i n1 n2 n3 n4)⟩
theorem tf_w {z a i : Nat} {v : Int32} (e : (¬ z % 3 = 0 ∧ 66 ≤ ρ a ∧ ρ a ≤ 72) ∨ (¬ 2 ≤ z ∧ 87 ≤ ρ a ∧ ρ a ≤ 89) ∨ (¬ z % 3 = 0 ∧ a = l ∧ i = 0) ∨ (a = x0 ∧ (i = 23 ∨ i = 24))) : TF z ρ x0 l h (wI h a i v) := ⟨fun _ _ => rfl, fun _ _ => rfl, fun _ => rfl, fun b j n1 n2 n3 n4 => by
  rw [r_I, if_neg]
  rintro ⟨q1, q2⟩
  subst q1; subst q2
  rcases e with e | e | e | e
  · exact (n1.resolve_left e.1) e.2
  · exact (n2.resolve_left e.1) e.2
  · exact (n3.resolve_left e.1) e.2
  · exact n4 e⟩
theorem tf_1 {z : Nat} (p : TF z ρ x0 l h o) : TF 1 ρ x0 l h o := ⟨p.1, p.2.1, p.2.2.1, fun a i n1 n2 n3 n4 => p.2.2.2 a i (Or.inr (n1.resolve_left (by decide))) (Or.inr (n2.resolve_left (by decide))) (Or.inr (n3.resolve_left (by decide))) n4⟩
/-- what is noted of steps -/
def LdS (S Fa Ct M : Nat) (sd : Int32) (sq np : Int) (h : Hp) : Prop := ∀ t : Nat, (t : Int) < sq → 0 ≤ (hI h S t).toInt → nOwn sd (hI h M t) ∧ (¬ hI h Ct t = 0 → 1 < np) ∧ (hI h Fa t).toInt ≤ 8
/-- where things lie, for trying -/
def TP (ρ : Nat → Nat) (x0 b S Fa Ct M P R A B Ri : Nat) (np : Int) (h : Hp) : Prop := (hR h x0 25 = some S ∧ hR h x0 26 = some Fa ∧ hR h x0 27 = some Ct ∧ hR h b 0 = some M ∧ hR h b 4 = some P ∧ hR h x0 4 = some R ∧ hR h R 6 = some A ∧ hR h R 7 = some B ∧ hR h R 8 = some Ri) ∧ (ρ x0 = 16 ∧ ρ b = 13 ∧ ρ S = 87 ∧ ρ Fa = 88 ∧ ρ Ct = 89 ∧ ρ M = 62 ∧ ρ P = 63 ∧ ρ R = 15 ∧ ρ A = 76 ∧ ρ B = 77 ∧ ρ Ri = 78) ∧ (∀ i, Rg (-7) 7 (hI h A i)) ∧ (∀ i, Rg (-7) 7 (hI h B i)) ∧ Rg 0 64 (hI h b 3) ∧ (hI h b 3).toInt = np ∧ PE b h ∧ ∀ i, Rg 0 7 (hI h Ri i)
theorem tf_3 {z : Nat} (p : TF 3 ρ x0 l h o) : TF z ρ x0 l h o := ⟨p.1, p.2.1, p.2.2.1, fun a i n1 n2 n3 n4 => p.2.2.2 a i (Or.inl rfl) (Or.inl (by decide)) (Or.inl rfl) n4⟩
theorem tp_k {P R A B Ri z : Nat} {np : Int} (rl : ρ l = 14) (k : TF z ρ x0 l h o) (Q : TP ρ x0 b S Fa Ct M P R A B Ri np h) : TP ρ x0 b S Fa Ct M P R A B Ri np o := by
  obtain ⟨⟨a1, a2, a3, a4, a5, a6, a7, a8, a9⟩, ⟨b1, b2, b3, b4, b5, b6, b7, b8, b9, b10, b11⟩, c1, c2, c3, c4, c5, c6⟩ := Q
  have kI : ∀ {a q : Nat} (i : Nat), ρ a = q → ¬ (66 ≤ q ∧ q ≤ 72) → ¬ (87 ≤ q ∧ q ≤ 89) → q ≠ 14 → q ≠ 16 → hI o a i = hI h a i := fun {a q} i ra n1 n2 n3 n4 => k.2.2.2 a i (Or.inr (by rw [ra]; exact n1)) (Or.inr (by rw [ra]; exact n2)) (Or.inr (fun z => n3 (by rw [← ra, z.1]; exact rl))) (fun z => n4 (by rw [← ra, z.1]; exact b1))
  have e3 : hI o b 3 = hI h b 3 := kI 3 b2 (by decide) (by decide) (by decide) (by decide)
  refine ⟨⟨by rw [k.1]; exact a1, by rw [k.1]; exact a2, by rw [k.1]; exact a3, by rw [k.1]; exact a4, by rw [k.1]; exact a5, by rw [k.1]; exact a6, by rw [k.1]; exact a7, by rw [k.1]; exact a8, by rw [k.1]; exact a9⟩, ⟨b1, b2, b3, b4, b5, b6, b7, b8, b9, b10, b11⟩, fun i => ?_, fun i => ?_, by rw [e3]; exact c3, by rw [e3]; exact c4, fun M' P' m1 m2 k0 k1 k2 => ?_, fun i => ?_⟩
  · rw [kI i b9 (by decide) (by decide) (by decide) (by decide)]; exact c1 i
  · rw [kI i b10 (by decide) (by decide) (by decide) (by decide)]; exact c2 i
  · rw [k.1] at m1 m2
    have y1 : M' = M := r_eq a4 m1
    have y2 : P' = P := r_eq a5 m2
    subst y1; subst y2
    rw [e3] at k2
    rw [kI _ b7 (by decide) (by decide) (by decide) (by decide), kI _ b6 (by decide) (by decide) (by decide) (by decide)]
    exact c5 M' P' a4 a5 k0 k1 k2
  · rw [kI i b11 (by decide) (by decide) (by decide) (by decide)]; exact c6 i
theorem onw_h {s k : Int32} {o : Int32 × Hp} (e : sX15_onward h x0 s k = some o) : o.2 = h := by
  unfold sX15_onward sX15_onward_55 sX15_onward_68 at e
  replace e := (gd_s e).2
  replace e := nm_s e; obtain ⟨_, _, e⟩ := e
  replace e := (gd_s e).2
  replace e := nm_s e; obtain ⟨_, _, e⟩ := e
  replace e := br_s e; rcases e with ⟨_, e⟩ | ⟨_, e⟩
  · rw [← Option.some.inj e]
  replace e := br_s e; rcases e with ⟨_, e⟩ | ⟨_, e⟩
  · rw [← Option.some.inj e]
  replace e := br_s e; rcases e with ⟨_, e⟩ | ⟨_, e⟩
  · rw [← Option.some.inj e]
  replace e := br_s e; rcases e with ⟨_, e⟩ | ⟨_, e⟩
  · rw [← Option.some.inj e]
  · rw [← Option.some.inj e]
theorem gone_np {P : Nat} {t : Int32} {o : Int32 × Hp} (eP : hR h b 4 = some P) (ip : Rg 0 64 (hI h b 3)) (e : sX15_isGoneOver F h x0 b t = some o) : o.2 = h ∧ (o.1 = 0 ∨ 1 < (hI h b 3).toInt) := by
  unfold sX15_isGoneOver at e
  obtain ⟨q, w⟩ := go_loop eP ip F _ o (by decide) e
  refine ⟨q, ?_⟩
  rcases w with w | ⟨k, k1, k2, k3⟩
  · exact Or.inl w
  · exact Or.inr (by omega)
theorem ld_18 {P R A B Ri : Nat} {np sq : Int} {st ct fl : Int32} (rl : ρ l = 14) : ∀ (f : Nat) {h o : Hp} {x7 x8 : Int32}, TP ρ x0 b S Fa Ct M P R A B Ri np h → LdS S Fa Ct M sd sq np h → sX15_leadBy_18 F f h x0 b s sd st ct fl x7 x8 = some o → TF 0 ρ x0 l h o ∧ LdS S Fa Ct M sd sq np o := by
  intro f
  induction f with
  | zero => intro h o x7 x8 _ _ e; exact absurd e (by rw [sX15_leadBy_18]; exact fun z => nomatch z)
  | succ f ih =>
    intro h o x7 x8 Q L e
    have Q' := Q
    obtain ⟨⟨a1, a2, a3, a4, a5, a6, a7, a8, a9⟩, ⟨b1, b2, b3, b4, b5, b6, b7, b8, b9, b10, b11⟩, c1, c2, c3, c4, c5, c6⟩ := Q
    rw [sX15_leadBy_18] at e
    unfold sX15_leadBy_216 at e
    have tail : ∀ {g : Hp} {v y7 : Int32}, TF 0 ρ x0 l h g → LdS S Fa Ct M sd sq np g → sX15_leadBy_195 F (sX15_leadBy_18 F f) g x0 b s sd st ct fl y7 x8 v = some o → TF 0 ρ x0 l h o ∧ LdS S Fa Ct M sd sq np o := fun {g v y7} k L e => by
      unfold sX15_leadBy_195 sX15_leadBy_207 at e
      replace e := br_s e
      rcases e with ⟨_, e⟩ | ⟨_, e⟩
      · replace e := nm_s e; obtain ⟨_, _, e⟩ := e
        replace e := nm_s e; obtain ⟨_, _, e⟩ := e
        obtain ⟨z1, z2⟩ := ih (tp_k rl k Q') L e
        exact ⟨tf_t k z1, z2⟩
      · replace e := nm_s e; obtain ⟨_, _, e⟩ := e
        replace e := nm_s e; obtain ⟨_, _, e⟩ := e
        obtain ⟨z1, z2⟩ := ih (tp_k rl k Q') L e
        exact ⟨tf_t k z1, z2⟩
    replace e := cl_s e; obtain ⟨R', er, e⟩ := e
    have y : R' = R := r_eq a6 er
    subst y
    replace e := cl_s e; obtain ⟨Ri', eri, e⟩ := e
    have y : Ri' = Ri := r_eq a9 eri
    subst y
    replace e := (gd_s e).2
    replace e := br_s e
    rcases e with ⟨_, e⟩ | ⟨nr, e⟩
    · rw [← Option.some.inj e]; exact ⟨tf_0, L⟩
    have l8 : x8.toInt ≤ 8 := by
      have := nlt_i nr
      have := (c6 st.toNatClampNeg).2
      omega
    replace e := br_s e
    rcases e with ⟨_, e⟩ | ⟨_, e⟩
    · rw [← Option.some.inj e]; exact ⟨tf_0, L⟩
    replace e := cl_s e; obtain ⟨o6, e6, e⟩ := e
    rw [onw_h e6] at e
    replace e := br_s e
    rcases e with ⟨_, e⟩ | ⟨_, e⟩
    · rw [← Option.some.inj e]; exact ⟨tf_0, L⟩
    replace e := cl_s e; obtain ⟨M', em, e⟩ := e
    have y : M' = M := r_eq a4 em
    subst y
    replace e := (gd_s e).2
    replace e := nm_s e; obtain ⟨v, ev, e⟩ := e
    replace e := cl_s e; obtain ⟨o11, e11, e⟩ := e
    rw [(free_post e11).1] at e
    replace e := br_s e
    rcases e with ⟨_, e⟩ | ⟨_, e⟩
    · exact tail tf_0 L e
    have note : ∀ {z : Int32}, (¬ z = 0 → 1 < np) → nOwn sd (hI h M' o6.1.toNatClampNeg) → sX15_leadBy_168 F (sX15_leadBy_18 F f) h x0 b s sd st ct fl x7 x8 o6.1 v z = some o → TF 0 ρ x0 l h o ∧ LdS S Fa Ct M' sd sq np o := fun {z} hz no e => by
      unfold sX15_leadBy_168 at e
      replace e := cl_s e; obtain ⟨S', es, e⟩ := e
      have y : S' = S := r_eq a1 es
      subst y
      replace e := (gd_s e).2
      replace e := nm_s e; obtain ⟨h3, w3, e⟩ := e
      replace e := cl_s e; obtain ⟨Fa', ef, e⟩ := e
      have y : Fa' = Fa := r_eq a2 (by rw [w3] at ef; exact ef)
      subst y
      replace e := (gd_s e).2
      replace e := nm_s e; obtain ⟨h6, w6, e⟩ := e
      replace e := cl_s e; obtain ⟨Ct', ec, e⟩ := e
      have y : Ct' = Ct := r_eq a3 (by rw [w6, w3] at ec; exact ec)
      subst y
      replace e := (gd_s e).2
      replace e := nm_s e; obtain ⟨h9, w9, e⟩ := e
      have nSF : ¬ S' = Fa' := fun q => by rw [q, b4] at b3; exact absurd b3 (by decide)
      have nSC : ¬ S' = Ct' := fun q => by rw [q, b5] at b3; exact absurd b3 (by decide)
      have nFC : ¬ Fa' = Ct' := fun q => by rw [q, b5] at b4; exact absurd b4 (by decide)
      have k9 : TF 0 ρ x0 l h h9 := by
        rw [w9, w6, w3]
        exact tf_t (tf_t (tf_w (Or.inr (Or.inl ⟨by decide, by rw [b3]; decide⟩))) (tf_w (Or.inr (Or.inl ⟨by decide, by rw [b4]; decide⟩)))) (tf_w (Or.inr (Or.inl ⟨by decide, by rw [b5]; decide⟩)))
      have kM : ∀ i, hI h9 M' i = hI h M' i := fun i => k9.2.2.2 M' i (Or.inl rfl) (Or.inr (by rw [b6]; decide)) (Or.inl rfl) (fun q => by rw [q.1, b1] at b6; exact absurd b6 (by decide))
      refine tail k9 (fun t h1 h2 => ?_) e
      rw [kM]
      by_cases q : t = o6.1.toNatClampNeg
      · rw [q]
        refine ⟨no, fun h3' => hz (fun zz => h3' ?_), ?_⟩
        · rw [w9, rI_s, zz]; rfl
        · rw [w9, rI_a nFC, w6, rI_s]; exact l8
      · have eS : hI h9 S' t = hI h S' t := by rw [w9, rI_a nSC, w6, rI_a nSF, w3, rI_o q]
        have eC : hI h9 Ct' t = hI h Ct' t := by rw [w9, rI_o q, w6, rI_a (fun z => nFC z.symm), w3, rI_a (fun z => nSC z.symm)]
        have eF : hI h9 Fa' t = hI h Fa' t := by rw [w9, rI_a nFC, w6, rI_o q, w3, rI_a (fun z => nSF z.symm)]
        rw [eS] at h2
        rw [eC, eF]
        exact L t h1 h2
    have both : ∀ {z g : Int32}, (¬ z = 0 → 1 < np ∧ nOwn sd (hI h M' o6.1.toNatClampNeg)) → (¬ g = 0 → nOwn sd (hI h M' o6.1.toNatClampNeg)) → sX15_leadBy_156 F (sX15_leadBy_18 F f) h x0 b s sd st ct fl x7 x8 o6.1 v z g = some o → TF 0 ρ x0 l h o ∧ LdS S Fa Ct M' sd sq np o := fun {z g} hz hg e => by
      unfold sX15_leadBy_156 at e
      replace e := br_s e
      rcases e with ⟨_, e⟩ | ⟨q, e⟩
      · replace e := br_s e
        rcases e with ⟨_, e⟩ | ⟨q, e⟩
        · exact tail tf_0 L e
        · exact note (fun w => (hz w).1) (hg q) e
      · exact note (fun w => (hz w).1) (hz q).2 e
    have by_ : ∀ {z : Int32}, (¬ z = 0 → 1 < np ∧ nOwn sd (hI h M' o6.1.toNatClampNeg)) → sX15_leadBy_113 F (sX15_leadBy_18 F f) h x0 b s sd st ct fl x7 x8 o6.1 v z = some o → TF 0 ρ x0 l h o ∧ LdS S Fa Ct M' sd sq np o := fun {z} hz e => by
      unfold sX15_leadBy_113 sX15_leadBy_140 at e
      replace e := br_s e
      rcases e with ⟨q, e⟩ | ⟨_, e⟩
      · have q := le_i q
        rw [ev] at q
        replace e := br_s e
        rcases e with ⟨_, e⟩ | ⟨_, e⟩
        · exact both hz (fun _ => Or.inl q) e
        · exact both hz (fun _ => Or.inl q) e
      · replace e := cl_s e; obtain ⟨o3, e3, e⟩ := e
        unfold sX15_sideOf at e3
        rw [← Option.some.inj e3] at e
        replace e := br_s e
        rcases e with ⟨_, e⟩ | ⟨q, e⟩
        · exact both hz (fun q => absurd rfl q) e
        · have q' : ¬ (hI h M' o6.1.toNatClampNeg - (1 : Int32)) &&& (1 : Int32) = sd := by rw [← ev]; exact q
          replace e := br_s e
          rcases e with ⟨_, e⟩ | ⟨_, e⟩
          · exact both hz (fun _ => Or.inr q') e
          · exact both hz (fun q => absurd rfl q) e
    replace e := cl_s e; obtain ⟨S', es, e⟩ := e
    replace e := (gd_s e).2
    replace e := br_s e
    rcases e with ⟨_, e⟩ | ⟨_, e⟩
    · unfold sX15_leadBy_112 at e
      replace e := br_s e
      rcases e with ⟨_, e⟩ | ⟨_, e⟩
      · exact by_ (fun q => absurd rfl q) e
      replace e := br_s e
      rcases e with ⟨_, e⟩ | ⟨_, e⟩
      · exact by_ (fun q => absurd rfl q) e
      replace e := cl_s e; obtain ⟨o18, e18, e⟩ := e
      obtain ⟨h18, n18⟩ := gone_np a5 c3 e18
      rw [h18] at e
      rw [c4] at n18
      replace e := br_s e
      rcases e with ⟨_, e⟩ | ⟨c6, e⟩
      · exact by_ (fun q => absurd rfl q) e
      · have np1 : 1 < np := n18.resolve_left c6
        exact by_ (fun _ => ⟨np1, Or.inl ((gone_over a4 a5 c3 c5 e18).2.resolve_left c6)⟩) e
    · exact tail tf_0 L e
/-- lead: what it notes, what it leaves -/
theorem ld_78 {P R A B Ri : Nat} {np sq : Int} {ct v : Int32} (rl : ρ l = 14) {K : Hp → Nat → Nat → Int32 → Int32 → Int32 → Int32 → Int32 → Option Hp} {x6 x7 : Int32} (hK : ∀ {g : Hp} {y : Int32}, TP ρ x0 b S Fa Ct M P R A B Ri np g → LdS S Fa Ct M sd sq np g → K g x0 b s ct v sd y = some o → TF 0 ρ x0 l g o ∧ LdS S Fa Ct M sd sq np o) : ∀ (f : Nat) {h : Hp} {x8 : Int32}, TP ρ x0 b S Fa Ct M P R A B Ri np h → LdS S Fa Ct M sd sq np h → sX15_lead_78 F K f h x0 b s ct v sd x6 x7 x8 = some o → TF 0 ρ x0 l h o ∧ LdS S Fa Ct M sd sq np o := by
  intro f
  induction f with
  | zero => intro h x8 _ _ e; exact absurd e (by rw [sX15_lead_78]; exact fun z => nomatch z)
  | succ f ih =>
    intro h x8 Q L e
    rw [sX15_lead_78] at e
    unfold sX15_lead_127 sX15_lead_121 at e
    replace e := br_s e
    rcases e with ⟨_, e⟩ | ⟨_, e⟩
    · replace e := nm_s e; obtain ⟨_, _, e⟩ := e
      exact hK Q L e
    replace e := cl_s e; obtain ⟨o2, e2, e⟩ := e
    rw [from_post e2] at e
    replace e := br_s e
    rcases e with ⟨_, e⟩ | ⟨_, e⟩
    · replace e := nm_s e; obtain ⟨_, _, e⟩ := e
      exact hK Q L e
    replace e := cl_s e; obtain ⟨o4, e4, e⟩ := e
    have Q' := Q
    obtain ⟨⟨a1, a2, a3, a4, a5, a6, a7, a8, a9⟩, ⟨b1, b2, b3, b4, b5, b6, b7, b8, b9, b10, b11⟩, c1, c2, c3, c4, c5, c6⟩ := Q
    obtain ⟨d1, d2, w, _, _⟩ := hv_post a6 a7 a8 c1 c2 e4
    have k4 : TF 0 ρ x0 l h o4.2 := by
      rw [w]
      exact tf_t (tf_w (Or.inr (Or.inr (Or.inr ⟨rfl, Or.inl rfl⟩)))) (tf_w (Or.inr (Or.inr (Or.inr ⟨rfl, Or.inr rfl⟩))))
    have nx : ∀ {a q : Nat} (i : Nat), ρ a = q → q ≠ 16 → hI o4.2 a i = hI h a i := fun {a q} i ra hq => by
      have na : ¬ a = x0 := fun z => hq (by rw [← ra, z]; exact b1)
      rw [w, rI_a na, rI_a na]
    have L4 : LdS S Fa Ct M sd sq np o4.2 := fun t h1 h2 => by
      rw [nx t b3 (by decide)] at h2
      rw [nx t b6 (by decide), nx t b5 (by decide), nx t b4 (by decide)]
      exact L t h1 h2
    replace e := br_s e
    rcases e with ⟨_, e⟩ | ⟨_, e⟩
    · replace e := nm_s e; obtain ⟨_, _, e⟩ := e
      obtain ⟨z1, z2⟩ := ih (tp_k rl k4 Q') L4 e
      exact ⟨tf_t k4 z1, z2⟩
    replace e := cl_s e; obtain ⟨o6, e6, e⟩ := e
    unfold sX15_leadBy at e6
    replace e6 := cl_s e6; obtain ⟨_, _, e6⟩ := e6
    replace e6 := cl_s e6; obtain ⟨_, _, e6⟩ := e6
    replace e6 := (gd_s e6).2
    replace e6 := nm_s e6; obtain ⟨_, _, e6⟩ := e6
    obtain ⟨y1, y2⟩ := ld_18 rl F (tp_k rl k4 Q') L4 e6
    replace e := nm_s e; obtain ⟨_, _, e⟩ := e
    obtain ⟨z1, z2⟩ := ih (tp_k rl (tf_t k4 y1) Q') y2 e
    exact ⟨tf_t (tf_t k4 y1) z1, z2⟩
theorem ld_44 {P R A B Ri : Nat} {np sq : Int} {ct v : Int32} (rl : ρ l = 14) : ∀ (f : Nat) {h : Hp} {x6 : Int32}, TP ρ x0 b S Fa Ct M P R A B Ri np h → LdS S Fa Ct M sd sq np h → sX15_lead_44 F f h x0 b s ct v sd x6 = some o → TF 0 ρ x0 l h o ∧ LdS S Fa Ct M sd sq np o := by
  intro f
  induction f with
  | zero => intro h x6 _ _ e; exact absurd e (by rw [sX15_lead_44]; exact fun z => nomatch z)
  | succ f ih =>
    intro h x6 Q L e
    rw [sX15_lead_44] at e
    replace e := cl_s e; obtain ⟨_, _, e⟩ := e
    replace e := cl_s e; obtain ⟨_, _, e⟩ := e
    replace e := cl_s e; obtain ⟨o3, e3, e⟩ := e
    unfold sX15_manOf at e3
    rw [← Option.some.inj e3] at e
    replace e := (gd_s e).2
    replace e := br_s e
    rcases e with ⟨_, e⟩ | ⟨_, e⟩
    · rw [← Option.some.inj e]; exact ⟨tf_0, L⟩
    replace e := cl_s e; obtain ⟨o6, e6, e⟩ := e
    unfold sX15_manOf at e6
    rw [← Option.some.inj e6] at e
    replace e := nm_s e; obtain ⟨_, _, e⟩ := e
    exact ld_78 rl (fun Q L e => ih Q L e) F Q L e
theorem ld_clr {P R A B Ri : Nat} {np : Int} {ct v : Int32} (rl : ρ l = 14) : ∀ (f : Nat) {h : Hp} {x6 : Int32}, TP ρ x0 b S Fa Ct M P R A B Ri np h → 0 ≤ x6.toInt → (hI h x0 13).toInt ≤ 64 → (∀ t : Nat, (t : Int) < x6.toInt → hI h S t = (-1 : Int32)) → sX15_lead_18 F f h x0 b s ct v sd x6 = some o → TF 0 ρ x0 l h o ∧ LdS S Fa Ct M sd (hI h x0 13).toInt np o := by
  have z1 : (1 : Int32).toInt = 1 := rfl
  intro f
  induction f with
  | zero => intro h x6 _ _ _ _ e; exact absurd e (by rw [sX15_lead_18]; exact fun z => nomatch z)
  | succ f ih =>
    intro h x6 Q a6' l64 C e
    rw [sX15_lead_18] at e
    replace e := br_s e
    rcases e with ⟨q, e⟩ | ⟨q, e⟩
    · have q := le_i q
      refine ld_44 rl F Q (fun t h1 h2 => ?_) e
      rw [C t (by omega)] at h2
      exact absurd h2 (by decide)
    have q := nle_i q
    have Q' := Q
    obtain ⟨⟨a1, a2, a3, a4, a5, a6, a7, a8, a9⟩, ⟨b1, b2, b3, b4, b5, b6, b7, b8, b9, b10, b11⟩, c1, c2, c3, c4, c5, c6⟩ := Q
    replace e := cl_s e; obtain ⟨S', es, e⟩ := e
    have y : S' = S := r_eq a1 es
    subst y
    replace e := (gd_s e).2
    replace e := nm_s e; obtain ⟨h4, w4, e⟩ := e
    have k4 : TF 0 ρ x0 l h h4 := by rw [w4]; exact tf_w (Or.inr (Or.inl ⟨by decide, by rw [b3]; decide⟩))
    have e13 : hI h4 x0 13 = hI h x0 13 := by rw [w4, rI_a (fun z => by rw [z, b3] at b1; exact absurd b1 (by decide))]
    replace e := nm_s e; obtain ⟨v5, w5, e⟩ := e
    have t5 : v5.toInt = x6.toInt + 1 := by rw [w5, ta (by rw [z1]; omega), z1]
    have n6 := nc_i a6'
    obtain ⟨z1', z2'⟩ := ih (tp_k rl k4 Q') (by omega) (by rw [e13]; exact l64) (fun t ht => by
      rw [w4, r_I]
      by_cases qq : t = x6.toNatClampNeg
      · rw [if_pos ⟨rfl, qq⟩]
      · rw [if_neg (fun y => qq y.2)]; exact C t (by omega)) e
    rw [e13] at z2'
    exact ⟨tf_t k4 z1', z2'⟩
theorem lead_z {P R A B Ri : Nat} {np : Int} {ct : Int32} (rl : ρ l = 14) (Q : TP ρ x0 b S Fa Ct M P R A B Ri np h) (l64 : (hI h x0 13).toInt ≤ 64) (e : sX15_lead F h x0 b s ct = some o) : TF 0 ρ x0 l h o ∧ LdS S Fa Ct M ((hI h M s.toNatClampNeg - (1 : Int32)) &&& (1 : Int32)) (hI h x0 13).toInt np o := by
  unfold sX15_lead at e
  replace e := cl_s e; obtain ⟨M', em, e⟩ := e
  have y : M' = M := r_eq Q.1.2.2.2.1 em
  subst y
  replace e := (gd_s e).2
  replace e := nm_s e; obtain ⟨v, ev, e⟩ := e
  replace e := cl_s e; obtain ⟨o4, e4, e⟩ := e
  unfold sX15_sideOf at e4
  rw [← Option.some.inj e4] at e
  rw [← ev]
  exact ld_clr rl F Q (by decide) l64 (fun t ht => absurd ht (by show ¬ (t : Int) < 0; omega)) e
end
end
section
/-! moves that are tried, and their rows -/
section
variable {ρ : Nat → Nat} {c : Cm} {h o g h0 : Hp} {x0 l b S Fa Ct M F : Nat} {sd : Int32}
/-- a move that fits its board, as far as who is taken goes -/
def E2 (g : Nat → Int32) (sd : Int32) (np : Int) (f t tk k mo : Int32) : Prop := (¬ tk = (-1 : Int32) → ¬ k = (1 : Int32) → k = (0 : Int32) ∧ 0 < (g t.toNatClampNeg).toInt ∧ ¬ t.toNatClampNeg = f.toNatClampNeg) ∧ (k = (1 : Int32) → 1 < np) ∧ (k = (2 : Int32) → ¬ mo.toNatClampNeg = f.toNatClampNeg ∧ 0 < (g mo.toNatClampNeg).toInt) ∧ (k = (0 : Int32) ∨ k = (1 : Int32) → mo.toInt ≤ 8) ∧ (¬ k = (3 : Int32) → 0 < (g f.toNatClampNeg).toInt ∧ (g f.toNatClampNeg - (1 : Int32)) &&& (1 : Int32) = sd)
def LPz (ρ : Nat → Nat) (l lf lt lm lb lx lk lo : Nat) (h : Hp) : Prop := (hR h l 1 = some lf ∧ hR h l 2 = some lt ∧ hR h l 3 = some lm ∧ hR h l 4 = some lb ∧ hR h l 5 = some lx ∧ hR h l 6 = some lk ∧ hR h l 7 = some lo) ∧ (ρ l = 14 ∧ ρ lf = 66 ∧ ρ lt = 67 ∧ ρ lm = 68 ∧ ρ lb = 69 ∧ ρ lx = 70 ∧ ρ lk = 71 ∧ ρ lo = 72) ∧ hN h lf = 3000
theorem lp_k {lf lt lm lb lx lk lo : Nat} (kR : ∀ a i, hR o a i = hR h a i) (kN : ∀ a, hN o a = hN h a) (Q : LPz ρ l lf lt lm lb lx lk lo h) : LPz ρ l lf lt lm lb lx lk lo o := by
  obtain ⟨⟨a1, a2, a3, a4, a5, a6, a7⟩, b, n⟩ := Q
  exact ⟨⟨by rw [kR]; exact a1, by rw [kR]; exact a2, by rw [kR]; exact a3, by rw [kR]; exact a4, by rw [kR]; exact a5, by rw [kR]; exact a6, by rw [kR]; exact a7⟩, b, by rw [kN]; exact n⟩
def L2 (l lf lt lx lk lo : Nat) (g : Nat → Int32) (sd : Int32) (np : Int) (h : Hp) : Prop := ∀ i : Nat, (i : Int) < (hI h l 0).toInt → E2 g sd np (hI h lf i) (hI h lt i) (hI h lx i) (hI h lk i) (hI h lo i)
theorem add_z {lf lt lm lb lx lk lo : Nat} {gg : Nat → Int32} {np : Int} {f t m bc tk k mo : Int32} (Q : LPz ρ l lf lt lm lb lx lk lo h) (L : L2 l lf lt lx lk lo gg sd np h) (E : E2 gg sd np f t tk k mo) (e : sX13_add h l f t m bc tk k mo = some o) : TF 2 ρ x0 l h o ∧ L2 l lf lt lx lk lo gg sd np o := by
  obtain ⟨⟨a1, a2, a3, a4, a5, a6, a7⟩, ⟨b1, b2, b3, b4, b5, b6, b7, b8⟩, n⟩ := Q
  have ne : ∀ {a d p q : Nat}, ρ a = p → ρ d = q → p ≠ q → ¬ a = d := fun ha hd hpq z => hpq (by rw [← ha, z]; exact hd)
  unfold sX13_add at e
  replace e := cl_s e; obtain ⟨r1, e1, e⟩ := e
  have y : r1 = lf := r_eq a1 e1
  subst y
  have gi := (gd_s e).1
  replace e := (gd_s e).2
  replace e := nm_s e; obtain ⟨h3, w3, e⟩ := e
  replace e := cl_s e; obtain ⟨r4, e4, e⟩ := e
  have y : r4 = lt := r_eq a2 (by rw [w3] at e4; exact e4)
  subst y
  replace e := (gd_s e).2
  replace e := nm_s e; obtain ⟨h6, w6, e⟩ := e
  replace e := cl_s e; obtain ⟨r7, e7, e⟩ := e
  have y : r7 = lm := r_eq a3 (by rw [w6, w3] at e7; exact e7)
  subst y
  replace e := (gd_s e).2
  replace e := nm_s e; obtain ⟨h9, w9, e⟩ := e
  replace e := cl_s e; obtain ⟨r10, e10, e⟩ := e
  have y : r10 = lb := r_eq a4 (by rw [w9, w6, w3] at e10; exact e10)
  subst y
  replace e := (gd_s e).2
  replace e := nm_s e; obtain ⟨h12, w12, e⟩ := e
  replace e := cl_s e; obtain ⟨r13, e13, e⟩ := e
  have y : r13 = lx := r_eq a5 (by rw [w12, w9, w6, w3] at e13; exact e13)
  subst y
  replace e := (gd_s e).2
  replace e := nm_s e; obtain ⟨h15, w15, e⟩ := e
  replace e := cl_s e; obtain ⟨r16, e16, e⟩ := e
  have y : r16 = lk := r_eq a6 (by rw [w15, w12, w9, w6, w3] at e16; exact e16)
  subst y
  replace e := (gd_s e).2
  replace e := nm_s e; obtain ⟨h18, w18, e⟩ := e
  replace e := cl_s e; obtain ⟨r19, e19, e⟩ := e
  have y : r19 = lo := r_eq a7 (by rw [w18, w15, w12, w9, w6, w3] at e19; exact e19)
  subst y
  replace e := (gd_s e).2
  replace e := nm_s e; obtain ⟨h21, w21, e⟩ := e
  replace e := nm_s e; obtain ⟨h22, w22, e⟩ := e
  have zz := Option.some.inj e
  subst zz
  have tw : ∀ {g : Hp} {a i : Nat} {v : Int32} {q : Nat}, ρ a = q → (66 ≤ q ∧ q ≤ 72) → TF 2 ρ x0 l g (wI g a i v) := fun ha hq => tf_w (Or.inl ⟨by decide, by rw [ha]; exact hq⟩)
  have k3 : TF 2 ρ x0 l h h3 := by rw [w3]; exact tw b2 (by decide)
  have k6 : TF 2 ρ x0 l h3 h6 := by rw [w6]; exact tw b3 (by decide)
  have k9 : TF 2 ρ x0 l h6 h9 := by rw [w9]; exact tw b4 (by decide)
  have k12 : TF 2 ρ x0 l h9 h12 := by rw [w12]; exact tw b5 (by decide)
  have k15 : TF 2 ρ x0 l h12 h15 := by rw [w15]; exact tw b6 (by decide)
  have k18 : TF 2 ρ x0 l h15 h18 := by rw [w18]; exact tw b7 (by decide)
  have k21 : TF 2 ρ x0 l h18 h21 := by rw [w21]; exact tw b8 (by decide)
  have k22 : TF 2 ρ x0 l h21 h22 := by rw [w22]; exact tf_w (Or.inr (Or.inr (Or.inl ⟨by decide, rfl, rfl⟩)))
  refine ⟨tf_t (tf_t (tf_t (tf_t (tf_t (tf_t (tf_t k3 k6) k9) k12) k15) k18) k21) k22, ?_⟩
  have n1 := ne b1 b2 (by decide)
  have n2 := ne b1 b3 (by decide)
  have n3 := ne b1 b4 (by decide)
  have n4 := ne b1 b5 (by decide)
  have n5 := ne b1 b6 (by decide)
  have n6 := ne b1 b7 (by decide)
  have n7 := ne b1 b8 (by decide)
  have c3 : hI h3 l 0 = hI h l 0 := by rw [w3, rI_a n1]
  have c6 : hI h6 l 0 = hI h l 0 := by rw [w6, rI_a n2]; exact c3
  have c9 : hI h9 l 0 = hI h l 0 := by rw [w9, rI_a n3]; exact c6
  have c12 : hI h12 l 0 = hI h l 0 := by rw [w12, rI_a n4]; exact c9
  have c15 : hI h15 l 0 = hI h l 0 := by rw [w15, rI_a n5]; exact c12
  have c18 : hI h18 l 0 = hI h l 0 := by rw [w18, rI_a n6]; exact c15
  have c21 : hI h21 l 0 = hI h l 0 := by rw [w21, rI_a n7]; exact c18
  obtain ⟨N, hN'⟩ : ∃ N, N = (hI h l 0).toNatClampNeg := ⟨_, rfl⟩
  rw [n] at gi
  have gb := inb_r gi
  have z1 : (1 : Int32).toInt = 1 := rfl
  have c22 : (hI h22 l 0).toInt = (hI h l 0).toInt + 1 := by rw [w22, rI_s, c21, ta (by rw [z1]; omega), z1]
  have nN : (N : Int) = (hI h l 0).toInt := by rw [hN']; exact nc_i gb.1
  -- rows at i
  have Vf : ∀ i, hI h22 r1 i = if i = N then f else hI h r1 i := fun i => by
    rw [w22, rI_a (fun z => n1 z.symm), w21, rI_a (ne b2 b8 (by decide)), w18, rI_a (ne b2 b7 (by decide)), w15, rI_a (ne b2 b6 (by decide)), w12, rI_a (ne b2 b5 (by decide)), w9, rI_a (ne b2 b4 (by decide)), w6, rI_a (ne b2 b3 (by decide)), w3, r_I, hN']
    by_cases z : i = (hI h l 0).toNatClampNeg
    · rw [if_pos ⟨rfl, z⟩, if_pos z]
    · rw [if_neg (fun y => z y.2), if_neg z]
  have Vt : ∀ i, hI h22 r4 i = if i = N then t else hI h r4 i := fun i => by
    rw [w22, rI_a (fun z => n2 z.symm), w21, rI_a (ne b3 b8 (by decide)), w18, rI_a (ne b3 b7 (by decide)), w15, rI_a (ne b3 b6 (by decide)), w12, rI_a (ne b3 b5 (by decide)), w9, rI_a (ne b3 b4 (by decide)), w6, r_I, c3, hN', w3, rI_a (ne b3 b2 (by decide))]
    by_cases z : i = (hI h l 0).toNatClampNeg
    · rw [if_pos ⟨rfl, z⟩, if_pos z]
    · rw [if_neg (fun y => z y.2), if_neg z]
  have Vx : ∀ i, hI h22 r13 i = if i = N then tk else hI h r13 i := fun i => by
    rw [w22, rI_a (fun z => n5 z.symm), w21, rI_a (ne b6 b8 (by decide)), w18, rI_a (ne b6 b7 (by decide)), w15, r_I, c12, hN', w12, rI_a (ne b6 b5 (by decide)), w9, rI_a (ne b6 b4 (by decide)), w6, rI_a (ne b6 b3 (by decide)), w3, rI_a (ne b6 b2 (by decide))]
    by_cases z : i = (hI h l 0).toNatClampNeg
    · rw [if_pos ⟨rfl, z⟩, if_pos z]
    · rw [if_neg (fun y => z y.2), if_neg z]
  have Vk : ∀ i, hI h22 r16 i = if i = N then k else hI h r16 i := fun i => by
    rw [w22, rI_a (fun z => n6 z.symm), w21, rI_a (ne b7 b8 (by decide)), w18, r_I, c15, hN', w15, rI_a (ne b7 b6 (by decide)), w12, rI_a (ne b7 b5 (by decide)), w9, rI_a (ne b7 b4 (by decide)), w6, rI_a (ne b7 b3 (by decide)), w3, rI_a (ne b7 b2 (by decide))]
    by_cases z : i = (hI h l 0).toNatClampNeg
    · rw [if_pos ⟨rfl, z⟩, if_pos z]
    · rw [if_neg (fun y => z y.2), if_neg z]
  have Vo : ∀ i, hI h22 r19 i = if i = N then mo else hI h r19 i := fun i => by
    rw [w22, rI_a (fun z => n7 z.symm), w21, r_I, c18, hN', w18, rI_a (ne b8 b7 (by decide)), w15, rI_a (ne b8 b6 (by decide)), w12, rI_a (ne b8 b5 (by decide)), w9, rI_a (ne b8 b4 (by decide)), w6, rI_a (ne b8 b3 (by decide)), w3, rI_a (ne b8 b2 (by decide))]
    by_cases z : i = (hI h l 0).toNatClampNeg
    · rw [if_pos ⟨rfl, z⟩, if_pos z]
    · rw [if_neg (fun y => z y.2), if_neg z]
  intro i hi
  rw [Vf, Vt, Vx, Vk, Vo]
  by_cases z : i = N
  · rw [if_pos z, if_pos z, if_pos z, if_pos z, if_pos z]; exact E
  · rw [if_neg z, if_neg z, if_neg z, if_neg z, if_neg z]
    exact L i (by omega)
end
end
section
/-! all moves that are tried fit their board -/
section
variable {ρ : Nat → Nat} {c : Cm} {h o g h0 : Hp} {x0 l b S Fa Ct M F P R A B Ri : Nat} {sd s q : Int32} {np : Int}
/-- what attacks read -/
def AP (ρ : Nat → Nat) (x0 R A B : Nat) (h : Hp) : Prop := (hR h x0 4 = some R ∧ hR h R 6 = some A ∧ hR h R 7 = some B) ∧ (ρ x0 = 16 ∧ ρ A = 76 ∧ ρ B = 77) ∧ (∀ i, Rg (-7) 7 (hI h A i)) ∧ (∀ i, Rg (-7) 7 (hI h B i))
theorem ap_k (k : TF 3 ρ x0 l h o) (Q : AP ρ x0 R A B h) : AP ρ x0 R A B o := by
  obtain ⟨⟨a1, a2, a3⟩, ⟨b1, b2, b3⟩, c1, c2⟩ := Q
  have kI : ∀ {a q : Nat} (i : Nat), ρ a = q → q ≠ 16 → hI o a i = hI h a i := fun {a q} i ra n => k.2.2.2 a i (Or.inl rfl) (Or.inl (by decide)) (Or.inl rfl) (fun z => n (by rw [← ra, z.1]; exact b1))
  exact ⟨⟨by rw [k.1]; exact a1, by rw [k.1]; exact a2, by rw [k.1]; exact a3⟩, ⟨b1, b2, b3⟩, fun i => by rw [kI i b2 (by decide)]; exact c1 i, fun i => by rw [kI i b3 (by decide)]; exact c2 i⟩
theorem ap_of (Q : TP ρ x0 b S Fa Ct M P R A B Ri np h) : AP ρ x0 R A B h := by
  obtain ⟨⟨a1, a2, a3, a4, a5, a6, a7, a8, a9⟩, ⟨b1, b2, b3, b4, b5, b6, b7, b8, b9, b10, b11⟩, c1, c2, c3, c4, c5, c6⟩ := Q
  exact ⟨⟨a6, a7, a8⟩, ⟨b1, b9, b10⟩, c1, c2⟩
theorem hv_z {st d : Int32} {o : Int32 × Hp} (Q : AP ρ x0 R A B h) (e : sX15_hasVector h x0 st d sd = some o) : TF 3 ρ x0 l h o.2 := by
  obtain ⟨⟨a6, a7, a8⟩, _, c1, c2⟩ := Q
  obtain ⟨d1, d2, w, _, _⟩ := hv_post a6 a7 a8 c1 c2 e
  rw [w]
  exact tf_t (tf_w (Or.inr (Or.inr (Or.inr ⟨rfl, Or.inl rfl⟩)))) (tf_w (Or.inr (Or.inr (Or.inr ⟨rfl, Or.inr rfl⟩))))
theorem at_z {b' : Nat} {v m : Int32} : ∀ (f : Nat) {g : Hp} {i : Int32} {o' : Int32 × Hp}, AP ρ x0 R A B g → sX15_attacks_9 F f g x0 b' s v q m i = some o' → TF 3 ρ x0 l g o'.2 := by
  intro f
  induction f with
  | zero => intro g i o' _ e; exact absurd e (by simp [sX15_attacks_9])
  | succ f ih =>
    intro g i o' Q e
    unfold sX15_attacks_9 at e
    simp only [nm] at e
    replace e := cl_s e; obtain ⟨_, _, e⟩ := e
    replace e := cl_s e; obtain ⟨_, _, e⟩ := e
    replace e := (gd_s e).2
    replace e := br_s e; rcases e with ⟨_, e⟩ | ⟨_, e⟩
    · rw [← Option.some.inj e]; exact tf_0
    replace e := cl_s e; obtain ⟨_, _, e⟩ := e
    replace e := cl_s e; obtain ⟨_, _, e⟩ := e
    replace e := (gd_s e).2
    have inn : ∀ (ff : Nat) {g : Hp} {i st d : Int32}, AP ρ x0 R A B g → sX15_attacks_70 F (sX15_attacks_9 F f) ff g x0 b' s v q m i st d = some o' → TF 3 ρ x0 l g o'.2 := by
      intro ff
      induction ff with
      | zero => intro g i st d _ e; exact absurd e (by simp [sX15_attacks_70])
      | succ ff ih2 =>
        intro g i st d Q e
        unfold sX15_attacks_70 sX15_attacks_113 sX15_attacks_107 at e
        simp only [nm] at e
        replace e := br_s e; rcases e with ⟨_, e⟩ | ⟨_, e⟩
        · exact ih Q e
        replace e := cl_s e; obtain ⟨o2, e2, e⟩ := e
        unfold sX15_sideOf at e2
        have := Option.some.inj e2; subst this
        dsimp only at e
        replace e := cl_s e; obtain ⟨o3, e3, e⟩ := e
        have k3 : TF 3 ρ x0 l g o3.2 := hv_z Q e3
        have Q3 := ap_k k3 Q
        replace e := br_s e; rcases e with ⟨_, e⟩ | ⟨_, e⟩
        · exact tf_t k3 (ih2 Q3 e)
        replace e := cl_s e; obtain ⟨o5, e5, e⟩ := e
        have v5 : o5.2 = o3.2 := by unfold sX15_reaches at e5; exact rch_fr F e5
        rw [v5] at e
        replace e := br_s e; rcases e with ⟨_, e⟩ | ⟨_, e⟩
        · exact tf_t k3 (ih2 Q3 e)
        · rw [← Option.some.inj e]; exact k3
    replace e := br_s e; rcases e with ⟨_, e⟩ | ⟨_, e⟩
    · replace e := cl_s e; obtain ⟨o11, e11, e⟩ := e
      unfold sX15_sideOf at e11
      have := Option.some.inj e11; subst this
      dsimp only at e
      replace e := cl_s e; obtain ⟨o12, e12, e⟩ := e
      have := from_post e12
      rw [this] at e
      unfold sX15_attacks_113 at e
      simp only [nm] at e
      replace e := br_s e; rcases e with ⟨_, e⟩ | ⟨_, e⟩
      · exact ih Q e
      · exact inn F Q e
    · unfold sX15_attacks_113 at e
      simp only [nm] at e
      exact ih Q e
theorem isa_z {b' : Nat} {y : Int32} : ∀ (f : Nat) {g : Hp} {x4 : Int32} {o' : Int32 × Hp}, AP ρ x0 R A B g → sX15_isAttacked_3 F f g x0 b' q y x4 = some o' → TF 3 ρ x0 l g o'.2 := by
  intro f
  induction f with
  | zero => intro g x4 o' _ e; exact absurd e (by simp [sX15_isAttacked_3])
  | succ f ih =>
    intro g x4 o' Q e
    unfold sX15_isAttacked_3 sX15_isAttacked_56 at e
    simp only [nm] at e
    replace e := br_s e; rcases e with ⟨_, e⟩ | ⟨_, e⟩
    · rw [← Option.some.inj e]; exact tf_0
    replace e := cl_s e; obtain ⟨_, _, e⟩ := e
    replace e := (gd_s e).2
    replace e := br_s e; rcases e with ⟨_, e⟩ | ⟨_, e⟩
    · exact ih Q e
    replace e := cl_s e; obtain ⟨o6, e6, e⟩ := e
    unfold sX15_sideOf at e6
    have := Option.some.inj e6; subst this
    dsimp only at e
    replace e := br_s e; rcases e with ⟨_, e⟩ | ⟨_, e⟩
    · replace e := br_s e; rcases e with ⟨_, e⟩ | ⟨_, e⟩
      · exact ih Q e
      replace e := cl_s e; obtain ⟨o9, e9, e⟩ := e
      have k9 : TF 3 ρ x0 l g o9.2 := by
        unfold sX15_attacks at e9
        replace e9 := cl_s e9; obtain ⟨o1, e1, e9⟩ := e9
        unfold sX15_manOf at e1
        have := Option.some.inj e1; subst this
        exact at_z F Q e9
      replace e := br_s e; rcases e with ⟨_, e⟩ | ⟨_, e⟩
      · exact tf_t k9 (ih (ap_k k9 Q) e)
      · rw [← Option.some.inj e]; exact k9
    · exact ih Q e
theorem ias_z {b' : Nat} {y : Int32} {o' : Int32 × Hp} (Q : AP ρ x0 R A B g) (e : sX15_isAttacked F g x0 b' q y = some o') : TF 3 ρ x0 l g o'.2 := by
  unfold sX15_isAttacked at e
  exact isa_z F Q e
theorem isop_h {x2 x3 x : Int32} {o : Int32 × Hp} (e : sX15_isOpen F h b x x2 x3 = some o) : o.2 = h := by
  have lp : ∀ (f : Nat) {x4 : Int32}, sX15_isOpen_5 F f h b x2 x3 x4 = some o → o.2 = h := by
    intro f
    induction f with
    | zero => intro x4 e; exact absurd e (by simp [sX15_isOpen_5])
    | succ f ih =>
      intro x4 e
      unfold sX15_isOpen_5 at e
      simp only [nm] at e
      replace e := br_s e; rcases e with ⟨_, e⟩ | ⟨_, e⟩
      · rw [← Option.some.inj e]
      replace e := cl_s e; obtain ⟨_, _, e⟩ := e
      replace e := (gd_s e).2
      replace e := br_s e; rcases e with ⟨_, e⟩ | ⟨_, e⟩
      · exact ih e
      · rw [← Option.some.inj e]
  unfold sX15_isOpen at e
  simp only [nm] at e
  exact lp F e
/-- what is carried while moves of one man are tried -/
def TZ (ρ : Nat → Nat) (x0 l b S Fa Ct M P R A B Ri lf lt lm lb lx lk lo : Nat) (gg : Nat → Int32) (sd : Int32) (np : Int) (h : Hp) : Prop := TP ρ x0 b S Fa Ct M P R A B Ri np h ∧ LPz ρ l lf lt lm lb lx lk lo h ∧ L2 l lf lt lx lk lo gg sd np h ∧ (∀ i, hI h M i = gg i) ∧ hI h b 1 = sd ∧ (hI h x0 13).toInt ≤ 64
variable {lf lt lm lb lx lk lo : Nat} {gg : Nat → Int32}
theorem tz_k {z : Nat} (k : TF z ρ x0 l h o) (L : L2 l lf lt lx lk lo gg sd np o) (Q : TZ ρ x0 l b S Fa Ct M P R A B Ri lf lt lm lb lx lk lo gg sd np h) : TZ ρ x0 l b S Fa Ct M P R A B Ri lf lt lm lb lx lk lo gg sd np o := by
  obtain ⟨q1, q2, _, q4, q5, q6⟩ := Q
  have rl := q2.2.1.1
  have kI : ∀ {a q : Nat} (i : Nat), ρ a = q → ¬ (66 ≤ q ∧ q ≤ 72) → ¬ (87 ≤ q ∧ q ≤ 89) → q ≠ 14 → q ≠ 16 → hI o a i = hI h a i := fun {a q} i ra n1 n2 n3 n4 => k.2.2.2 a i (Or.inr (by rw [ra]; exact n1)) (Or.inr (by rw [ra]; exact n2)) (Or.inr (fun z => n3 (by rw [← ra, z.1]; exact rl))) (fun z => n4 (by rw [← ra, z.1]; exact q1.2.1.1))
  have e13 : hI o x0 13 = hI h x0 13 := k.2.2.2 x0 13 (Or.inr (by rw [q1.2.1.1]; decide)) (Or.inr (by rw [q1.2.1.1]; decide)) (Or.inr (fun z => by rw [← z.1, q1.2.1.1] at rl; exact absurd rl (by decide))) (fun z => by rcases z.2 with w | w <;> exact absurd w (by decide))
  exact ⟨tp_k rl k q1, lp_k k.1 k.2.2.1 q2, L, fun i => by rw [kI i q1.2.1.2.2.2.2.2.1 (by decide) (by decide) (by decide) (by decide)]; exact q4 i, by rw [kI 1 q1.2.1.2.1 (by decide) (by decide) (by decide) (by decide)]; exact q5, by rw [e13]; exact q6⟩
theorem l2_k (Q : LPz ρ l lf lt lm lb lx lk lo h) (r0 : ρ x0 = 16) (k : ∀ a i, 66 ≤ ρ a ∧ ρ a ≤ 72 ∨ (a = l ∧ i = 0) → hI o a i = hI h a i) (L : L2 l lf lt lx lk lo gg sd np h) : L2 l lf lt lx lk lo gg sd np o := fun i hi => by
  obtain ⟨_, ⟨b1, b2, b3, b4, b5, b6, b7, b8⟩, _⟩ := Q
  rw [k l 0 (Or.inr ⟨rfl, rfl⟩)] at hi
  rw [k lf i (Or.inl (by rw [b2]; decide)), k lt i (Or.inl (by rw [b3]; decide)), k lx i (Or.inl (by rw [b6]; decide)), k lk i (Or.inl (by rw [b7]; decide)), k lo i (Or.inl (by rw [b8]; decide))]
  exact L i hi
theorem lds_k {sq : Int} (Q : TP ρ x0 b S Fa Ct M P R A B Ri np h) (rl : ρ l = 14) (k : TF 2 ρ x0 l h o) (L : LdS S Fa Ct M sd sq np h) : LdS S Fa Ct M sd sq np o := fun t h1 h2 => by
  obtain ⟨_, ⟨b1, b2, b3, b4, b5, b6, b7, b8, b9, b10, b11⟩, _⟩ := Q
  have kI : ∀ {a q : Nat} (i : Nat), ρ a = q → ¬ (66 ≤ q ∧ q ≤ 72) → q ≠ 14 → q ≠ 16 → hI o a i = hI h a i := fun {a q} i ra n1 n3 n4 => k.2.2.2 a i (Or.inr (by rw [ra]; exact n1)) (Or.inl (Nat.le_refl 2)) (Or.inr (fun z => n3 (by rw [← ra, z.1]; exact rl))) (fun z => n4 (by rw [← ra, z.1]; exact b1))
  rw [kI t b3 (by decide) (by decide) (by decide)] at h2
  rw [kI t b6 (by decide) (by decide) (by decide), kI t b5 (by decide) (by decide) (by decide), kI t b4 (by decide) (by decide) (by decide)]
  exact L t h1 h2
/-- attacks keep the list -/
theorem l2_3 {z : Nat} (hz : z % 3 = 0) (Q : LPz ρ l lf lt lm lb lx lk lo h) (r0 : ρ x0 = 16) (k : TF z ρ x0 l h o) (L : L2 l lf lt lx lk lo gg sd np h) : L2 l lf lt lx lk lo gg sd np o := by
  have rl := Q.2.1.1
  refine l2_k Q r0 (fun a i w => k.2.2.2 a i (Or.inl hz) (Or.inr ?_) (Or.inl hz) (fun z => ?_)) L
  · rcases w with w | w
    · omega
    · rw [w.1, rl]; decide
  · rcases w with w | w
    · rw [z.1, r0] at w; omega
    · rw [← w.1, z.1, r0] at rl; exact absurd rl (by decide)
theorem isa_l {y : Int32} {b' : Nat} {o' : Int32 × Hp} (Q : TZ ρ x0 l b S Fa Ct M P R A B Ri lf lt lm lb lx lk lo gg sd np g) (e : sX15_isAttacked F g x0 b' q y = some o') : TF 3 ρ x0 l g o'.2 ∧ TZ ρ x0 l b S Fa Ct M P R A B Ri lf lt lm lb lx lk lo gg sd np o'.2 := by
  have k := ias_z (l := l) (ap_of Q.1) e
  exact ⟨k, tz_k k (l2_3 rfl Q.2.1 Q.1.2.1.1 k Q.2.2.1) Q⟩
theorem add_t {f t m bc tk k mo : Int32} (Q : TZ ρ x0 l b S Fa Ct M P R A B Ri lf lt lm lb lx lk lo gg sd np h) (E : E2 gg sd np f t tk k mo) (e : sX13_add h l f t m bc tk k mo = some o) : TF 2 ρ x0 l h o ∧ TZ ρ x0 l b S Fa Ct M P R A B Ri lf lt lm lb lx lk lo gg sd np o := by
  obtain ⟨k, L⟩ := add_z (x0 := x0) Q.2.1 Q.2.2.1 E e
  exact ⟨k, tz_k k L Q⟩
/-- castling -/
theorem cas_z {t : Int32} (hs : Rg 0 63 s) (ms : 0 < (gg s.toNatClampNeg).toInt ∧ (gg s.toNatClampNeg - (1 : Int32)) &&& (1 : Int32) = sd) (Q : TZ ρ x0 l b S Fa Ct M P R A B Ri lf lt lm lb lx lk lo gg sd np h) (e : sX15_tryCastling F h x0 b s t l = some o) : TF 2 ρ x0 l h o ∧ TZ ρ x0 l b S Fa Ct M P R A B Ri lf lt lm lb lx lk lo gg sd np o := by
  have lp : ∀ (w6 : Int32), (w6 = (1 : Int32) ∨ w6 = (-1 : Int32)) → ∀ (f : Nat) {x6 : Int32}, (w6 = (1 : Int32) → s.toInt < x6.toInt) → (w6 = (-1 : Int32) → x6.toInt < s.toInt) → sX15_tryCastling_46 F f h x0 b s t l w6 x6 = some o → TF 2 ρ x0 l h o ∧ TZ ρ x0 l b S Fa Ct M P R A B Ri lf lt lm lb lx lk lo gg sd np o := by
    intro w6 hw f
    induction f with
    | zero => intro x6 _ _ e; exact absurd e (by simp [sX15_tryCastling_46])
    | succ f ih =>
      intro x6 u1 u2 e
      unfold sX15_tryCastling_46 sX15_tryCastling_207 sX15_tryCastling_197 sX15_tryCastling_196 at e
      simp only [nm] at e
      replace e := br_s e; rcases e with ⟨_, e⟩ | ⟨n0, e⟩
      · rw [← Option.some.inj e]; exact ⟨tf_0, Q⟩
      have n0 := nlt_i n0
      have z0 : (0 : Int32).toInt = 0 := rfl
      replace e := br_s e; rcases e with ⟨_, e⟩ | ⟨n1, e⟩
      · rw [← Option.some.inj e]; exact ⟨tf_0, Q⟩
      have n1 := nle_i n1
      have l64 := Q.2.2.2.2.2
      have nx : (w6 = (1 : Int32) → s.toInt < (x6 + w6).toInt) ∧ (w6 = (-1 : Int32) → (x6 + w6).toInt < s.toInt) := by
        have o1 : (1 : Int32).toInt = 1 := rfl
        have o2 : (-1 : Int32).toInt = -1 := rfl
        refine ⟨fun z => ?_, fun z => ?_⟩
        · have := u1 z
          rw [z, ta (by rw [o1]; omega), o1]; omega
        · have := u2 z
          rw [z, ta (by rw [o2]; omega), o2]; omega
      have go := fun e => ih (x6 := x6 + w6) nx.1 nx.2 e
      replace e := (gd_s e).2
      replace e := (gd_s e).2
      replace e := br_s e; rcases e with ⟨_, e⟩ | ⟨_, e⟩
      · replace e := br_s e; rcases e with ⟨_, e⟩ | ⟨_, e⟩
        · replace e := cl_s e; obtain ⟨M', em, e⟩ := e
          have y : M' = M := r_eq Q.1.1.2.2.2.1 em
          subst y
          replace e := (gd_s e).2
          replace e := br_s e; rcases e with ⟨_, e⟩ | ⟨nM, e⟩
          · exact go e
          have mx : 0 < (gg x6.toNatClampNeg).toInt := by
            have := nle_i nM
            rw [Q.2.2.2.1] at this
            exact this
          replace e := cl_s e; obtain ⟨_, _, e⟩ := e
          replace e := (gd_s e).2
          replace e := cl_s e; obtain ⟨o12, e12, e⟩ := e
          unfold sX15_sideOf at e12
          have := Option.some.inj e12; subst this
          dsimp only at e
          replace e := br_s e; rcases e with ⟨_, e⟩ | ⟨_, e⟩
          · replace e := cl_s e; obtain ⟨o14, e14, e⟩ := e
            rw [isop_h e14] at e
            replace e := br_s e; rcases e with ⟨_, e⟩ | ⟨_, e⟩
            · exact go e
            replace e := cl_s e; obtain ⟨o16, e16, e⟩ := e
            obtain ⟨k16, Q16⟩ := isa_l Q e16
            replace e := br_s e; rcases e with ⟨_, e⟩ | ⟨_, e⟩
            · replace e := cl_s e; obtain ⟨o18, e18, e⟩ := e
              obtain ⟨k18, Q18⟩ := isa_l Q16 e18
              replace e := br_s e; rcases e with ⟨_, e⟩ | ⟨_, e⟩
              · replace e := cl_s e; obtain ⟨o20, e20, e⟩ := e
                obtain ⟨k20, Q20⟩ := isa_l Q18 e20
                have kk := tf_t (tf_t k16 k18) k20
                replace e := br_s e; rcases e with ⟨_, e⟩ | ⟨_, e⟩
                · replace e := cl_s e; obtain ⟨_, _, e⟩ := e
                  replace e := cl_s e; obtain ⟨o23, e23, e⟩ := e
                  have E : E2 gg sd np s t (-1 : Int32) (2 : Int32) x6 := by
                    refine ⟨fun z => absurd rfl z, fun z => absurd z (by decide), fun _ => ⟨fun z => ?_, mx⟩, fun z => ?_, fun _ => ms⟩
                    · have y1 := nc_i (x := x6) (by omega)
                      have y2 := nc_i (x := s) hs.1
                      rcases hw with hw | hw
                      · have := u1 hw; omega
                      · have := u2 hw; omega
                    · rcases z with z | z <;> exact absurd z (by decide)
                  obtain ⟨k23, Q23⟩ := add_t Q20 E e23
                  rw [← Option.some.inj e]
                  exact ⟨tf_t (tf_3 kk) k23, Q23⟩
                · rw [← Option.some.inj e]; exact ⟨tf_3 kk, Q20⟩
              · rw [← Option.some.inj e]; exact ⟨tf_3 (tf_t k16 k18), Q18⟩
            · rw [← Option.some.inj e]; exact ⟨tf_3 k16, Q16⟩
          · exact go e
        · exact go e
      · rw [← Option.some.inj e]; exact ⟨tf_0, Q⟩
  have o3 : ((3 : Int32) * (1 : Int32)).toInt = 3 := rfl
  have o4 : ((3 : Int32) * (-1 : Int32)).toInt = -3 := rfl
  have hs' := hs
  obtain ⟨h1, h2⟩ := hs
  unfold sX15_tryCastling sX15_tryCastling_25 sX15_tryCastling_36 at e
  simp only [nm] at e
  replace e := (gd_s e).2
  replace e := (gd_s e).2
  replace e := br_s e; rcases e with ⟨_, e⟩ | ⟨_, e⟩
  · replace e := br_s e; rcases e with ⟨_, e⟩ | ⟨_, e⟩
    · replace e := br_s e; rcases e with ⟨_, e⟩ | ⟨_, e⟩
      · refine lp _ (Or.inr rfl) F (fun z => absurd z (by decide)) (fun _ => ?_) e
        rw [ta (by rw [o4]; omega), o4]; omega
      · refine lp _ (Or.inl rfl) F (fun _ => ?_) (fun z => absurd z (by decide)) e
        rw [ta (by rw [o3]; omega), o3]; omega
    · rw [← Option.some.inj e]; exact ⟨tf_0, Q⟩
  · rw [← Option.some.inj e]; exact ⟨tf_0, Q⟩
/-- steps -/
theorem ts_z {t m : Int32} {sq : Int} (ht : 0 ≤ t.toInt ∧ t.toInt < sq) (ms : 0 < (gg s.toNatClampNeg).toInt ∧ (gg s.toNatClampNeg - (1 : Int32)) &&& (1 : Int32) = sd) (Q : TZ ρ x0 l b S Fa Ct M P R A B Ri lf lt lm lb lx lk lo gg sd np h) (D : LdS S Fa Ct M sd sq np h) (e : sX15_trySteps F h x0 b s t m l = some o) : TF 2 ρ x0 l h o ∧ TZ ρ x0 l b S Fa Ct M P R A B Ri lf lt lm lb lx lk lo gg sd np o := by
  have nt := nc_i (x := t) ht.1
  have b207 : ∀ {g : Hp} {tk mo k : Int32}, TF 2 ρ x0 l h g ∧ TZ ρ x0 l b S Fa Ct M P R A B Ri lf lt lm lb lx lk lo gg sd np g → E2 gg sd np s t tk k mo → sX15_trySteps_207 F g s t m l tk mo k = some o → TF 2 ρ x0 l h o ∧ TZ ρ x0 l b S Fa Ct M P R A B Ri lf lt lm lb lx lk lo gg sd np o := by
    intro g tk mo k i0 E e
    unfold sX15_trySteps_207 sX15_trySteps_223 at e
    replace e := cl_s e; obtain ⟨g2, e8, e⟩ := e
    rw [← Option.some.inj e]
    obtain ⟨k2, Q2⟩ := add_t i0.2 E e8
    exact ⟨tf_t i0.1 k2, Q2⟩
  have loop : ∀ (tk mo k : Int32), E2 gg sd np s t tk k mo → ∀ (f : Nat) {g : Hp} {x9 : Int32}, TF 2 ρ x0 l h g ∧ TZ ρ x0 l b S Fa Ct M P R A B Ri lf lt lm lb lx lk lo gg sd np g → sX15_trySteps_152 F f g x0 s t m l tk mo k x9 = some o → TF 2 ρ x0 l h o ∧ TZ ρ x0 l b S Fa Ct M P R A B Ri lf lt lm lb lx lk lo gg sd np o := by
    intro tk mo k E f
    induction f with
    | zero => intro g x9 _ e; exact absurd e (by simp [sX15_trySteps_152])
    | succ f ih =>
      intro g x9 i0 e
      unfold sX15_trySteps_152 sX15_trySteps_223 at e
      simp only [nm] at e
      replace e := cl_s e; obtain ⟨_, _, e⟩ := e
      replace e := cl_s e; obtain ⟨_, _, e⟩ := e
      replace e := (gd_s e).2
      replace e := br_s e; rcases e with ⟨_, e⟩ | ⟨_, e⟩
      · rw [← Option.some.inj e]; exact i0
      replace e := cl_s e; obtain ⟨_, _, e⟩ := e
      replace e := cl_s e; obtain ⟨_, _, e⟩ := e
      replace e := (gd_s e).2
      replace e := cl_s e; obtain ⟨g2, e8, e⟩ := e
      obtain ⟨k2, Q2⟩ := add_t i0.2 E e8
      exact ih ⟨tf_t i0.1 k2, Q2⟩ e
  have b106 : ∀ {tk mo k : Int32}, E2 gg sd np s t tk k mo → sX15_trySteps_106 F h x0 b s t m l tk mo k = some o → TF 2 ρ x0 l h o ∧ TZ ρ x0 l b S Fa Ct M P R A B Ri lf lt lm lb lx lk lo gg sd np o := by
    intro tk mo k E e
    unfold sX15_trySteps_106 sX15_trySteps_149 at e
    replace e := cl_s e; obtain ⟨o1, e1, e⟩ := e
    rw [oth_post e1] at e
    replace e := br_s e; rcases e with ⟨_, e⟩ | ⟨_, e⟩
    · exact b207 ⟨tf_0, Q⟩ E e
    replace e := cl_s e; obtain ⟨o3, e3, e⟩ := e
    rw [(rank_post e3).1] at e
    replace e := br_s e; rcases e with ⟨_, e⟩ | ⟨_, e⟩
    · replace e := cl_s e; obtain ⟨_, _, e⟩ := e
      replace e := br_s e; rcases e with ⟨_, e⟩ | ⟨_, e⟩
      · exact loop _ _ _ E F ⟨tf_0, Q⟩ e
      replace e := br_s e; rcases e with ⟨_, e⟩ | ⟨_, e⟩
      · exact loop _ _ _ E F ⟨tf_0, Q⟩ e
      · exact b207 ⟨tf_0, Q⟩ E e
    · exact b207 ⟨tf_0, Q⟩ E e
  have fits : ∀ {tk mo k : Int32}, 0 ≤ (hI h S t.toNatClampNeg).toInt → mo.toInt ≤ 8 → ((k = (0 : Int32) ∧ hI h Ct t.toNatClampNeg = 0) ∨ (k = (1 : Int32) ∧ ¬ hI h Ct t.toNatClampNeg = 0)) → (hI h Ct t.toNatClampNeg = 0 → tk = (-1 : Int32) ∨ 0 < (gg t.toNatClampNeg).toInt) → E2 gg sd np s t tk k mo := by
    intro tk mo k s0 m8 kc tc
    obtain ⟨d1, d2, d3⟩ := D t.toNatClampNeg (by omega) s0
    rw [Q.2.2.2.1] at d1
    refine ⟨fun z1 z2 => ?_, fun z => ?_, fun z => ?_, fun _ => m8, fun _ => ms⟩
    · rcases kc with ⟨k0, c0⟩ | ⟨k1, _⟩
      · refine ⟨k0, (tc c0).resolve_left z1, fun z => ?_⟩
        rw [z] at d1
        rcases d1 with d1 | d1
        · have z0 : (0 : Int32).toInt = 0 := rfl
          omega
        · exact d1 ms.2
      · exact absurd k1 z2
    · rcases kc with ⟨k0, _⟩ | ⟨_, c1⟩
      · rw [k0] at z; exact absurd z (by decide)
      · exact d2 c1
    · rcases kc with ⟨k0, _⟩ | ⟨k1, _⟩
      · rw [k0] at z; exact absurd z (by decide)
      · rw [k1] at z; exact absurd z (by decide)
  have b90 : ∀ {tk mo : Int32}, 0 ≤ (hI h S t.toNatClampNeg).toInt → mo.toInt ≤ 8 → (hI h Ct t.toNatClampNeg = 0 → tk = (-1 : Int32) ∨ 0 < (gg t.toNatClampNeg).toInt) → sX15_trySteps_90 F h x0 b s t m l tk mo = some o → TF 2 ρ x0 l h o ∧ TZ ρ x0 l b S Fa Ct M P R A B Ri lf lt lm lb lx lk lo gg sd np o := by
    intro tk mo s0 m8 tc e
    unfold sX15_trySteps_90 at e
    replace e := cl_s e; obtain ⟨Ct', ec, e⟩ := e
    have y : Ct' = Ct := r_eq Q.1.1.2.2.1 ec
    subst y
    replace e := (gd_s e).2
    replace e := br_s e; rcases e with ⟨cz, e⟩ | ⟨cz, e⟩
    · exact b106 (fits s0 m8 (Or.inl ⟨rfl, cz⟩) tc) e
    · exact b106 (fits s0 m8 (Or.inr ⟨rfl, cz⟩) tc) e
  have b48 : ∀ {tk : Int32}, (hI h Ct t.toNatClampNeg = 0 → tk = (-1 : Int32) ∨ 0 < (gg t.toNatClampNeg).toInt) → sX15_trySteps_48 F h x0 b s t m l tk = some o → TF 2 ρ x0 l h o ∧ TZ ρ x0 l b S Fa Ct M P R A B Ri lf lt lm lb lx lk lo gg sd np o := by
    intro tk tc e
    unfold sX15_trySteps_48 sX15_trySteps_89 at e
    replace e := cl_s e; obtain ⟨_, _, e⟩ := e
    replace e := cl_s e; obtain ⟨_, _, e⟩ := e
    replace e := cl_s e; obtain ⟨S', es, e⟩ := e
    have y : S' = S := r_eq Q.1.1.1 es
    subst y
    replace e := (gd_s e).2
    have s0 := (inb_r (gd_s e).1).1
    have m8 : (0 : Int32).toInt ≤ 8 := by decide
    replace e := (gd_s e).2
    replace e := br_s e; rcases e with ⟨_, e⟩ | ⟨_, e⟩
    · exact b90 s0 m8 tc e
    replace e := cl_s e; obtain ⟨_, _, e⟩ := e
    replace e := (gd_s e).2
    replace e := br_s e; rcases e with ⟨_, e⟩ | ⟨_, e⟩
    · exact b90 s0 m8 tc e
    replace e := cl_s e; obtain ⟨Fa', ef, e⟩ := e
    have y : Fa' = Fa := r_eq Q.1.1.2.1 ef
    subst y
    replace e := (gd_s e).2
    exact b90 s0 (D t.toNatClampNeg (by omega) s0).2.2 tc e
  unfold sX15_trySteps at e
  replace e := cl_s e; obtain ⟨Ct', ec, e⟩ := e
  have y : Ct' = Ct := r_eq Q.1.1.2.2.1 ec
  subst y
  replace e := (gd_s e).2
  replace e := br_s e; rcases e with ⟨_, e⟩ | ⟨cz, e⟩
  · replace e := cl_s e; obtain ⟨M', em, e⟩ := e
    have y : M' = M := r_eq Q.1.1.2.2.2.1 em
    subst y
    replace e := (gd_s e).2
    replace e := br_s e; rcases e with ⟨_, e⟩ | ⟨nm', e⟩
    · exact b48 (fun _ => Or.inl rfl) e
    have mt : 0 < (gg t.toNatClampNeg).toInt := by
      have := nle_i nm'
      rw [Q.2.2.2.1] at this
      exact this
    replace e := cl_s e; obtain ⟨_, _, e⟩ := e
    replace e := (gd_s e).2
    replace e := cl_s e; obtain ⟨o9, e9, e⟩ := e
    unfold sX15_manOf at e9
    have := Option.some.inj e9
    subst this
    exact b48 (fun _ => Or.inr mt) e
  · replace e := cl_s e; obtain ⟨_, _, e⟩ := e
    replace e := cl_s e; obtain ⟨_, _, e⟩ := e
    replace e := (gd_s e).2
    replace e := (gd_s e).2
    replace e := cl_s e; obtain ⟨o9, e9, e⟩ := e
    unfold sX15_manOf at e9
    have := Option.some.inj e9
    subst this
    exact b48 (fun z => absurd z cz) e
end
end
section
/-! tryAll: the moves of its list fit the board -/
section
variable {ρ : Nat → Nat} {c : Cm} {h o g h0 : Hp} {x0 l b S Fa Ct M F P R A B Ri lf lt lm lb lx lk lo : Nat} {gg : Nat → Int32} {sd s q : Int32} {np : Int}
theorem drop_z {K : Hp → Nat → Nat → Nat → Int32 → Option Hp} {x3 : Int32} (hK : ∀ {g : Hp} {y : Int32}, TZ ρ x0 l b S Fa Ct M P R A B Ri lf lt lm lb lx lk lo gg sd np g → K g x0 b l y = some o → TF 1 ρ x0 l g o ∧ TZ ρ x0 l b S Fa Ct M P R A B Ri lf lt lm lb lx lk lo gg sd np o) : ∀ (f : Nat) {h : Hp} {x4 : Int32}, TZ ρ x0 l b S Fa Ct M P R A B Ri lf lt lm lb lx lk lo gg sd np h → sX15_tryAll_143 F K f h x0 b l x3 x4 = some o → TF 1 ρ x0 l h o ∧ TZ ρ x0 l b S Fa Ct M P R A B Ri lf lt lm lb lx lk lo gg sd np o := by
  intro f
  induction f with
  | zero => intro h x4 _ e; exact absurd e (by simp [sX15_tryAll_143])
  | succ f ih =>
    intro h x4 Q e
    unfold sX15_tryAll_143 sX15_tryAll_244 sX15_tryAll_201 sX15_tryAll_197 at e
    simp only [nm] at e
    have t202 : ∀ {t0 : Int32}, sX15_tryAll_202 F K (sX15_tryAll_143 F K f) h x0 b l x3 x4 t0 = some o → TF 1 ρ x0 l h o ∧ TZ ρ x0 l b S Fa Ct M P R A B Ri lf lt lm lb lx lk lo gg sd np o := by
      intro t0 e
      unfold sX15_tryAll_202 sX15_tryAll_238 at e
      simp only [nm] at e
      replace e := cl_s e; obtain ⟨_, _, e⟩ := e
      replace e := (gd_s e).2
      replace e := br_s e; rcases e with ⟨_, e⟩ | ⟨_, e⟩
      · exact ih Q e
      replace e := br_s e; rcases e with ⟨_, e⟩ | ⟨_, e⟩
      · replace e := cl_s e; obtain ⟨o5, e5, e⟩ := e
        have E : E2 gg sd np (-1 : Int32) x3 (-1 : Int32) (3 : Int32) (0 : Int32) := ⟨fun z => absurd rfl z, fun z => absurd z (by decide), fun z => absurd z (by decide), fun _ => by decide, fun z => absurd rfl z⟩
        obtain ⟨k5, Q5⟩ := add_t Q E e5
        obtain ⟨k6, Q6⟩ := ih Q5 e
        exact ⟨tf_t (tf_1 k5) k6, Q6⟩
      · exact ih Q e
    replace e := cl_s e; obtain ⟨_, _, e⟩ := e
    replace e := br_s e; rcases e with ⟨_, e⟩ | ⟨_, e⟩
    · exact hK Q e
    replace e := cl_s e; obtain ⟨_, _, e⟩ := e
    replace e := (gd_s e).2
    replace e := br_s e; rcases e with ⟨_, e⟩ | ⟨_, e⟩
    · replace e := cl_s e; obtain ⟨o6, e6, e⟩ := e
      rw [oth_post e6] at e
      replace e := br_s e; rcases e with ⟨_, e⟩ | ⟨_, e⟩
      · exact t202 e
      replace e := (gd_s e).2
      replace e := br_s e; rcases e with ⟨_, e⟩ | ⟨_, e⟩
      · exact t202 e
      replace e := (gd_s e).2
      replace e := br_s e; rcases e with ⟨_, e⟩ | ⟨_, e⟩
      · exact t202 e
      · exact t202 e
    · exact hK Q e
theorem drops_z : ∀ (f : Nat) {h : Hp} {x3 : Int32}, TZ ρ x0 l b S Fa Ct M P R A B Ri lf lt lm lb lx lk lo gg sd np h → sX15_tryAll_122 F f h x0 b l x3 = some o → TF 1 ρ x0 l h o ∧ TZ ρ x0 l b S Fa Ct M P R A B Ri lf lt lm lb lx lk lo gg sd np o := by
  intro f
  induction f with
  | zero => intro h x3 _ e; exact absurd e (by simp [sX15_tryAll_122])
  | succ f ih =>
    intro h x3 Q e
    unfold sX15_tryAll_122 sX15_tryAll_250 at e
    replace e := br_s e; rcases e with ⟨_, e⟩ | ⟨_, e⟩
    · rw [← Option.some.inj e]; exact ⟨tf_0, Q⟩
    replace e := cl_s e; obtain ⟨_, _, e⟩ := e
    replace e := br_s e; rcases e with ⟨_, e⟩ | ⟨_, e⟩
    · rw [← Option.some.inj e]; exact ⟨tf_0, Q⟩
    · exact drop_z (fun Q e => ih Q e) F Q e
theorem tall_z (Q : TZ ρ x0 l b S Fa Ct M P R A B Ri lf lt lm lb lx lk lo gg sd np h) (e : sX15_tryAll F h x0 b l = some o) : TF 1 ρ x0 l h o ∧ TZ ρ x0 l b S Fa Ct M P R A B Ri lf lt lm lb lx lk lo gg sd np o := by
  have z0 : (0 : Int32).toInt = 0 := rfl
  have z1 : (1 : Int32).toInt = 1 := rfl
  have outer : ∀ (f : Nat) {g : Hp} {x3 : Int32}, TZ ρ x0 l b S Fa Ct M P R A B Ri lf lt lm lb lx lk lo gg sd np g → 0 ≤ x3.toInt → sX15_tryAll_7 F f g x0 b l x3 = some o → TF 1 ρ x0 l g o ∧ TZ ρ x0 l b S Fa Ct M P R A B Ri lf lt lm lb lx lk lo gg sd np o := by
    intro f
    induction f with
    | zero => intro g x3 _ _ e; exact absurd e (by simp [sX15_tryAll_7])
    | succ f ih =>
      intro g x3 Q a3 e
      unfold sX15_tryAll_7 sX15_tryAll_114 at e
      simp only [nm] at e
      replace e := br_s e; rcases e with ⟨_, e⟩ | ⟨c3, e⟩
      · exact drops_z F Q e
      have c3 := nle_i c3
      have l64 := Q.2.2.2.2.2
      have ex : (x3 + (1 : Int32)).toInt = x3.toInt + 1 := ta (by rw [z1]; omega)
      replace e := cl_s e; obtain ⟨M', em, e⟩ := e
      have y : M' = M := r_eq Q.1.1.2.2.2.1 em
      subst y
      replace e := (gd_s e).2
      replace e := br_s e; rcases e with ⟨_, e⟩ | ⟨cv, e⟩
      · exact ih Q (by omega) e
      have cv := nle_i cv
      replace e := cl_s e; obtain ⟨o6, e6, e⟩ := e
      unfold sX15_sideOf at e6
      have := Option.some.inj e6; subst this
      dsimp only at e
      replace e := br_s e; rcases e with ⟨cs, e⟩ | ⟨_, e⟩
      · replace e := cl_s e; obtain ⟨o8, e8, e⟩ := e
        have rl := Q.2.1.2.1.1
        obtain ⟨k8, D8⟩ := lead_z (l := l) rl Q.1 l64 e8
        have L8 := l2_3 rfl Q.2.1 Q.1.2.1.1 k8 Q.2.2.1
        have Q8 := tz_k k8 L8 Q
        rw [Q.2.2.2.1] at cv cs D8 e
        rw [Q.2.2.2.2.1] at cs
        rw [cs] at D8
        obtain ⟨sq, hsq⟩ : ∃ sq, sq = (hI g x0 13).toInt := ⟨_, rfl⟩
        rw [← hsq] at D8 c3 l64
        have e13 : (hI o8 x0 13).toInt = sq := by
          rw [hsq, k8.2.2.2 x0 13 (Or.inl rfl) (Or.inr (by rw [Q.1.2.1.1]; decide)) (Or.inl rfl) (fun z => by rcases z.2 with w | w <;> exact absurd w (by decide))]
        have inner : ∀ (ff : Nat) {g : Hp} {x5 : Int32}, TZ ρ x0 l b S Fa Ct M' P R A B Ri lf lt lm lb lx lk lo gg sd np g → LdS S Fa Ct M' sd sq np g → (hI g x0 13).toInt = sq → 0 ≤ x5.toInt → sX15_tryAll_50 F (sX15_tryAll_7 F f) ff g x0 b l x3 (gg x3.toNatClampNeg) x5 = some o → TF 1 ρ x0 l g o ∧ TZ ρ x0 l b S Fa Ct M' P R A B Ri lf lt lm lb lx lk lo gg sd np o := by
          intro ff
          induction ff with
          | zero => intro g x5 _ _ _ _ e; exact absurd e (by simp [sX15_tryAll_50])
          | succ ff ih2 =>
            intro g x5 Q D hq a5 e
            unfold sX15_tryAll_50 sX15_tryAll_114 at e
            simp only [nm] at e
            replace e := br_s e; rcases e with ⟨_, e⟩ | ⟨c5, e⟩
            · exact ih Q (by omega) e
            have c5 := nle_i c5
            have ex5 : (x5 + (1 : Int32)).toInt = x5.toInt + 1 := ta (by rw [z1]; omega)
            have r0 := Q.1.2.1.1
            have rl := Q.2.1.2.1.1
            have k13 : ∀ {g o : Hp}, TF 2 ρ x0 l g o → (hI g x0 13).toInt = sq → (hI o x0 13).toInt = sq := fun {g o} k w => by
              rw [k.2.2.2 x0 13 (Or.inr (by rw [r0]; decide)) (Or.inl (Nat.le_refl 2)) (Or.inr (fun z => by rw [← z.1, r0] at rl; exact absurd rl (by decide))) (fun z => by rcases z.2 with w | w <;> exact absurd w (by decide))]; exact w
            have t84 : ∀ {g' : Hp}, TF 2 ρ x0 l g g' → TZ ρ x0 l b S Fa Ct M' P R A B Ri lf lt lm lb lx lk lo gg sd np g' → sX15_tryAll_84 F (sX15_tryAll_7 F f) (sX15_tryAll_50 F (sX15_tryAll_7 F f) ff) g' x0 b l x3 (gg x3.toNatClampNeg) x5 = some o → TF 1 ρ x0 l g o ∧ TZ ρ x0 l b S Fa Ct M' P R A B Ri lf lt lm lb lx lk lo gg sd np o := by
              intro g' k Q' e
              unfold sX15_tryAll_84 sX15_tryAll_108 at e
              simp only [nm] at e
              have D' := lds_k Q.1 rl k D
              have hq' := k13 k hq
              replace e := cl_s e; obtain ⟨o1, e1, e⟩ := e
              unfold sX15_manOf at e1
              have := Option.some.inj e1; subst this
              dsimp only at e
              replace e := cl_s e; obtain ⟨_, _, e⟩ := e
              replace e := br_s e; rcases e with ⟨_, e⟩ | ⟨_, e⟩
              · replace e := cl_s e; obtain ⟨o4, e4, e⟩ := e
                obtain ⟨k4, Q4⟩ := cas_z ⟨a3, by omega⟩ ⟨cv, cs⟩ Q' e4
                obtain ⟨k5, Q5⟩ := ih2 Q4 (lds_k Q'.1 rl k4 D') (k13 k4 hq') (by omega) e
                exact ⟨tf_t (tf_t (tf_1 k) (tf_1 k4)) k5, Q5⟩
              · obtain ⟨k5, Q5⟩ := ih2 Q' D' hq' (by omega) e
                exact ⟨tf_t (tf_1 k) k5, Q5⟩
            replace e := cl_s e; obtain ⟨_, _, e⟩ := e
            replace e := (gd_s e).2
            replace e := br_s e; rcases e with ⟨_, e⟩ | ⟨_, e⟩
            · exact t84 tf_0 Q e
            replace e := cl_s e; obtain ⟨o5, e5, e⟩ := e
            unfold sX15_manOf at e5
            have := Option.some.inj e5; subst this
            dsimp only at e
            replace e := cl_s e; obtain ⟨o6, e6, e⟩ := e
            obtain ⟨k6, Q6⟩ := ts_z (sq := sq) ⟨a5, by omega⟩ ⟨cv, cs⟩ Q D e6
            exact t84 k6 Q6 e
        obtain ⟨k9, Q9⟩ := inner F Q8 D8 e13 (by decide) e
        exact ⟨tf_t (tf_1 k8) k9, Q9⟩
      · exact ih Q (by omega) e
  unfold sX15_tryAll at e
  simp only [nm] at e
  have k1 : TF 1 ρ x0 l h (wI h l 0 (0 : Int32)) := tf_w (Or.inr (Or.inr (Or.inl ⟨by decide, rfl, rfl⟩)))
  obtain ⟨k2, Q2⟩ := outer F (tz_k k1 (fun i hi => by
    rw [r_I, if_pos ⟨rfl, rfl⟩] at hi
    exact absurd hi (by show ¬ (i : Int) < 0; omega)) Q) (by decide) e
  exact ⟨tf_t k1 k2, Q2⟩
end
end
