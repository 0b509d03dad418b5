/-! the reference: lead -/
abbrev wlx : List (Nat × Nat) := [(86, 999), (87, 999), (88, 999), (16, 23), (16, 24)]
section
variable {F : Nat} {V : Nat → Nat} {L : Nat → Nat → Int} {M : Nat → Int} {o' : Hp}
theorem ldw_x (D : VD V) {ov : Nat → Prop} {h g : Hp} (P : LdW V h L M ov) (A : FrV V (wl wlx) h g) : LdW V g L M ov := ldw_f D P A (by decide) (by decide) rfl rfl rfl rfl (by decide)
theorem rws_k {ov : Nat → Prop} {ct : Bool} {h g : Hp} {D : Nat → Nat → Int → Prop} (R : RwS L ov ct V h D) (a : ∀ i, hI g (V 86) i = hI h (V 86) i) (b : ∀ i, hI g (V 87) i = hI h (V 87) i) (c : ∀ i, hI g (V 88) i = hI h (V 88) i) : RwS L ov ct V g D := fun t ht => by
  rw [a, b, c]
  exact R t ht
/-- whether a STEP may start from a square -/
theorem from_v {h : Hp} {st s sd : Int32} {o : Int32 × Hp} (H : LOk L) (W : RWd V h L M) (is : 0 ≤ s.toInt) (sL : s.toInt < L 0 0 * L 1 0) (e : sX15_isFrom h (V 16) st s sd = some o) : o.2 = h ∧ ((o.1 = 0 ∧ ¬ (L 79 st.toNatClampNeg = 0 ∨ L 79 st.toNatClampNeg = rkF L s.toNatClampNeg sd.toInt)) ∨ (¬ o.1 = 0 ∧ (L 79 st.toNatClampNeg = 0 ∨ L 79 st.toNatClampNeg = rkF L s.toNatClampNeg sd.toInt))) := by
  have z0 : (0 : Int32).toInt = 0 := rfl
  have z1 : (1 : Int32).toInt = 1 := rfl
  have v12 := fm_val W.1.1 W.1.2.2.2.2.2.2.2.1 e
  have l79 := (lw_75 W st.toNatClampNeg).2.2.2.2.1
  have e1 : o.1 = fmV (hI h (V 79) st.toNatClampNeg) (hI h (V 16) 11) (hI h (V 16) 12) s sd := by rw [v12]
  obtain ⟨_, ⟨g1, g2, g3, g4⟩, _⟩ := W
  have fi := H.1
  have ra := H.2.1
  have sq := sq_64 H
  have cs := nc_i is
  have iS : Rg 0 63 s := ⟨is, by omega⟩
  have iA : Rg 3 8 (hI h (V 16) 11) := ⟨by omega, by omega⟩
  have dv := td iS iA ⟨by decide, by decide⟩
  have dr := rg_divv iS iA ⟨by decide, by decide⟩
  have dr0 := dr.1
  have dr1 := dr.2
  have rk : (rkV (hI h (V 16) 11) (hI h (V 16) 12) s sd).toInt = rkF L s.toNatClampNeg sd.toInt := by
    unfold rkV rkF
    rw [cs]
    by_cases c : sd = 0
    · rw [if_pos c, if_pos (by rw [c]; rfl), ta (by rw [z1]; omega), z1, dv, g2]
    · rw [if_neg c, if_neg (fun z => c (Int32.toInt_inj.mp (by rw [z]; rfl))), ts (by omega), dv, g2, g3]
  refine ⟨by rw [v12], ?_⟩
  rw [e1]
  unfold fmV
  by_cases c : hI h (V 79) st.toNatClampNeg = 0
  · rw [if_pos c]
    rw [c, z0] at l79
    exact Or.inr ⟨by decide, Or.inl l79.symm⟩
  · rw [if_neg c]
    have n79 : ¬ L 79 st.toNatClampNeg = 0 := fun z => c (Int32.toInt_inj.mp (by rw [l79, z]; rfl))
    by_cases d : hI h (V 79) st.toNatClampNeg = rkV (hI h (V 16) 11) (hI h (V 16) 12) s sd
    · rw [if_pos d]
      exact Or.inr ⟨by decide, Or.inr (by rw [← l79, d, rk])⟩
    · rw [if_neg d]
      refine Or.inl ⟨rfl, ?_⟩
      rintro (z | z)
      · exact n79 z
      · exact d (Int32.toInt_inj.mp (by rw [l79, z, rk]))
theorem ldr_78 (D : VD V) {ov : Nat → Prop} {ct : Bool} {K : Hp → Nat → Nat → Int32 → Int32 → Int32 → Int32 → Int32 → Option Hp} {s x3 v sd i st : Int32} (H : LOk L) (HM : MOk L M) (J : StR L st.toNatClampNeg) (i4 : 0 ≤ st.toInt) (is : 0 ≤ s.toInt) (sL : s.toInt < L 0 0 * L 1 0) (e3 : x3 = 0 ↔ ct = false) (isd : Rg 0 1 sd) : ∀ (f : Nat) {h : Hp} {x8 : Int32} {D0 : Nat → Nat → Int → Prop}, LdW V h L M ov → RwS L ov ct V h D0 → (∀ j t k, D0 j t k → j ≤ st.toNatClampNeg) → Rg 0 8 x8 → sX15_lead_78 F K f h (V 16) (V 13) s x3 v sd i st x8 = some o' → ∃ g, FrV V (wl wlx) h g ∧ RwS L ov ct V g (fun j t k => D0 j t k ∨ (j = st.toNatClampNeg ∧ (L 79 j = 0 ∨ L 79 j = rkF L s.toNatClampNeg sd.toInt) ∧ (∃ d : Nat, x8.toInt ≤ d ∧ d < 8 ∧ vOk (L 76 j) (L 77 j) (fbt (L 75 j) 2) d = true ∧ WkD L M j sd.toInt s.toNatClampNeg t d k) ∧ (ByT L ov ct j t ∨ GdT L M sd.toInt j t))) ∧ sX15_lead_127 F K g (V 16) (V 13) s x3 v sd i = some o' := by
  have z1 : (1 : Int32).toInt = 1 := rfl
  have z8 : (8 : Int32).toInt = 8 := rfl
  have cs := nc_i is
  intro f
  induction f with
  | zero => intro h x8 D0 _ _ _ _ e; exact absurd e (by rw [sX15_lead_78]; exact fun z => nomatch z)
  | succ f ih =>
    intro h x8 D0 W R bD i8 e
    have i80 := i8.1
    have i81 := i8.2
    have c8 := nc_i i80
    rw [sX15_lead_78] at e
    rcases br_s e with ⟨l, e⟩ | ⟨l, e⟩
    · have l := le_i l
      rw [z8] at l
      refine ⟨h, fv_0, rws_c R (fun j t k _ => ⟨fun z => Or.inl z, ?_⟩), e⟩
      rintro (z | ⟨_, _, ⟨d, a, b, _⟩, _⟩)
      · exact z
      · omega
    have l := nle_i l
    rw [z8] at l
    replace e := cl_s e; obtain ⟨o2, eo2, e⟩ := e
    obtain ⟨w2, f2⟩ := from_v H W.1 is sL eo2
    rw [w2] at e
    rcases br_s e with ⟨c, e⟩ | ⟨c, e⟩
    · refine ⟨h, fv_0, rws_c R (fun j t k _ => ⟨fun z => Or.inl z, ?_⟩), e⟩
      rintro (z | ⟨a, b, _⟩)
      · exact z
      · rcases f2 with ⟨_, y⟩ | ⟨y, _⟩
        · rw [a] at b; exact absurd b y
        · exact absurd c y
    replace e := cl_s e; obtain ⟨o4, eo4, e⟩ := e
    obtain ⟨l75, l76, l77, _⟩ := lw_75 W.1 st.toNatClampNeg
    obtain ⟨X, Y, w4, vx, vy, ok⟩ := hv_val W.1.1 ⟨by rw [l75]; exact J.1.1, by rw [l75]; exact J.1.2⟩ ⟨by rw [l76]; exact J.2.1.1, by rw [l76]; exact J.2.1.2⟩ ⟨by rw [l77]; exact J.2.2.1.1, by rw [l77]; exact J.2.2.1.2⟩ ⟨i80, by omega⟩ eo4
    rw [l75, l76, l77] at vx vy ok
    have A : FrV V (wl wlx) h o4.2 := by rw [w4]; exact fv_t (fv_w rfl) (fv_w rfl)
    have W4 := ldw_x D W A
    have R4 : RwS L ov ct V o4.2 D0 := rws_k R (fun i => by rw [w4, rI_a (vne D), rI_a (vne D)]) (fun i => by rw [w4, rI_a (vne D), rI_a (vne D)]) (fun i => by rw [w4, rI_a (vne D), rI_a (vne D)])
    have t8 : (x8 + (1 : Int32)).toInt = x8.toInt + 1 := by rw [ta (by rw [z1]; omega), z1]
    have nxt : ∀ {g : Hp}, FrV V (wl wlx) h g → RwS L ov ct V g (fun j t k => D0 j t k ∨ (j = st.toNatClampNeg ∧ (L 79 j = 0 ∨ L 79 j = rkF L s.toNatClampNeg sd.toInt) ∧ (vOk (L 76 j) (L 77 j) (fbt (L 75 j) 2) x8.toNatClampNeg = true ∧ WkD L M j sd.toInt s.toNatClampNeg t x8.toNatClampNeg k) ∧ (ByT L ov ct j t ∨ GdT L M sd.toInt j t))) → sX15_lead_121 F K (sX15_lead_78 F K f) g (V 16) (V 13) s x3 v sd i st x8 = some o' → ∃ g, FrV V (wl wlx) h g ∧ RwS L ov ct V g (fun j t k => D0 j t k ∨ (j = st.toNatClampNeg ∧ (L 79 j = 0 ∨ L 79 j = rkF L s.toNatClampNeg sd.toInt) ∧ (∃ d : Nat, x8.toInt ≤ d ∧ d < 8 ∧ vOk (L 76 j) (L 77 j) (fbt (L 75 j) 2) d = true ∧ WkD L M j sd.toInt s.toNatClampNeg t d k) ∧ (ByT L ov ct j t ∨ GdT L M sd.toInt j t))) ∧ sX15_lead_127 F K g (V 16) (V 13) s x3 v sd i = some o' := fun {g} G Rg' u => by
      unfold sX15_lead_121 at u
      obtain ⟨g', a, b, c⟩ := ih (ldw_x D W G) Rg' (fun j t k z => by
        rcases z with z | z
        · exact bD j t k z
        · rw [z.1]; exact Nat.le_refl _) ⟨by omega, by omega⟩ (nx_e u)
      refine ⟨g', fv_t G a, rws_c b (fun j t k _ => ?_), c⟩
      rw [t8]
      constructor
      · rintro ((z | ⟨a, b, ⟨c, d⟩, e⟩) | ⟨a, b, ⟨d, p, q, r⟩, e⟩)
        · exact Or.inl z
        · exact Or.inr ⟨a, b, ⟨x8.toNatClampNeg, by omega, by omega, c, d⟩, e⟩
        · exact Or.inr ⟨a, b, ⟨d, by omega, q, r⟩, e⟩
      · rintro (z | ⟨a, b, ⟨d, p, q, r⟩, e⟩)
        · exact Or.inl (Or.inl z)
        · by_cases y : d = x8.toNatClampNeg
          · rw [y] at r
            exact Or.inl (Or.inr ⟨a, b, r, e⟩)
          · exact Or.inr ⟨a, b, ⟨d, by omega, q, r⟩, e⟩
    rcases br_s e with ⟨c', e⟩ | ⟨c', e⟩
    · refine nxt A (rws_c R4 (fun j t k _ => ⟨fun z => Or.inl z, ?_⟩)) e
      rintro (z | ⟨a, _, ⟨b, _⟩, _⟩)
      · exact z
      · rcases ok with ⟨_, y⟩ | ⟨y, _⟩
        · rw [a, y] at b; exact absurd b (by decide)
        · rw [y] at c'; exact absurd c' (by decide)
    have okT : vOk (L 76 st.toNatClampNeg) (L 77 st.toNatClampNeg) (fbt (L 75 st.toNatClampNeg) 2) x8.toNatClampNeg = true := by
      rcases ok with ⟨y, _⟩ | ⟨_, y⟩
      · exact absurd y c'
      · exact y
    have fromT : L 79 st.toNatClampNeg = 0 ∨ L 79 st.toNatClampNeg = rkF L s.toNatClampNeg sd.toInt := by
      rcases f2 with ⟨y, _⟩ | ⟨_, y⟩
      · exact absurd y c
      · exact y
    replace e := cl_s e; obtain ⟨o6, eo6, e⟩ := e
    unfold sX15_leadBy at eo6
    have vr := v_rg (a := L 76 st.toNatClampNeg) (b := L 77 st.toNatClampNeg) (sd := sd.toInt) (fo := fbt (L 75 st.toNatClampNeg) 2) (d := x8.toNatClampNeg) J.2.1 J.2.2.1
    have nz := v_nz (sd := sd.toInt) (fo := fbt (L 75 st.toNatClampNeg) 2) (d := x8.toNatClampNeg) J.2.2.2.1
    rw [← vx, ← vy] at vr nz
    replace eo6 := ce_e W4.1.1.1 eo6
    replace eo6 := ce_e W4.1.1.2.2.2.1 eo6
    replace eo6 := gg_e eo6
    replace eo6 := nx_e eo6
    obtain ⟨r1, r2⟩ := lb_18 D (ct := ct) (X := X) (Y := Y) H HM J i4 is sL e3 (lw_75 W4.1 st.toNatClampNeg).1 isd ⟨vr.1.1, vr.1.2⟩ ⟨vr.2.1, vr.2.2⟩ nz F W4 (by rw [w4, rI_o (by decide), rI_s]) (by rw [w4, rI_s]) R4 bD (x7 := 0) (x8 := 1) ⟨by decide, by decide⟩ rfl eo6
    refine nxt (fv_t A (sub_l r1 (by decide))) (rws_c r2 (fun j t k _ => ?_)) e
    constructor
    · rintro (z | ⟨a, b, c, d, g, p, q⟩)
      · exact Or.inl z
      · refine Or.inr ⟨a, by rw [a]; exact fromT, ⟨by rw [a]; exact okT, ?_⟩, q⟩
        rw [a] at c p ⊢
        rw [z1] at b
        unfold WkD
        rw [← vx, ← vy, cs]
        exact ⟨b, c, d, g, p⟩
    · rintro (z | ⟨a, _, ⟨_, b⟩, q⟩)
      · exact Or.inl z
      · rw [a] at b
        unfold WkD at b
        rw [← vx, ← vy, cs] at b
        obtain ⟨b1, b2, b3, b4, b5⟩ := b
        exact Or.inr ⟨a, by rw [z1]; exact b1, by rw [a]; exact b2, b3, b4, by rw [a]; exact b5, q⟩
/-- over all STEPS -/
theorem ldr_44 (D : VD V) {ov : Nat → Prop} {ct : Bool} {s x3 v sd : Int32} (H : LOk L) (HM : MOk L M) (is : 0 ≤ s.toInt) (sL : s.toInt < L 0 0 * L 1 0) (e3 : x3 = 0 ↔ ct = false) (iv : Rg 1 24 v) (vL : v.toInt ≤ 2 * L 2 0) (esd : sd.toInt = (v.toInt - 1) % 2) : ∀ (f : Nat) {h : Hp} {x6 : Int32}, LdW V h L M ov → 0 ≤ x6.toInt → x6.toInt ≤ L 74 (mnO v.toInt) → RwS L ov ct V h (fun j t k => ∃ i : Nat, i < x6.toNatClampNeg ∧ j = 8 * mnO v.toInt + i ∧ LdG L M ov ct sd.toInt j s.toNatClampNeg t k) → sX15_lead_44 F f h (V 16) (V 13) s x3 v sd x6 = some o' → FrV V (wl wlx) h o' ∧ RwS L ov ct V o' (fun j t k => ∃ i : Nat, (i : Int) < L 74 (mnO v.toInt) ∧ j = 8 * mnO v.toInt + i ∧ LdG L M ov ct sd.toInt j s.toNatClampNeg t k) := by
  have z1 : (1 : Int32).toInt = 1 := rfl
  have z0 : (0 : Int32).toInt = 0 := rfl
  have z8 : (8 : Int32).toInt = 8 := rfl
  have cs := nc_i is
  have v0 := iv.1
  have v1 := iv.2
  have L2 := H.2.2.1
  obtain ⟨mL, mE⟩ := mno_lt (L := L) (v := v.toInt) (by omega) vL
  obtain ⟨H74, Hst⟩ := H.2.2.2 _ mL
  have tv : (v - (1 : Int32)).toInt = v.toInt - 1 := by rw [ts (by rw [z1]; omega), z1]
  have sh : ((v - (1 : Int32)) >>> ((1 : Int32) &&& 31)).toInt = ((mnO v.toInt : Nat) : Int) := by
    rw [shr_i 1 (by decide), tv, mE]
    rfl
  have cm : ((v - (1 : Int32)) >>> ((1 : Int32) &&& 31)).toNatClampNeg = mnO v.toInt := by
    have := nc_i (x := (v - (1 : Int32)) >>> ((1 : Int32) &&& 31)) (by omega)
    omega
  have isd : Rg 0 1 sd := ⟨by omega, by omega⟩
  intro f
  induction f with
  | zero => intro h x6 _ _ _ _ e; exact absurd e (by rw [sX15_lead_44]; exact fun z => nomatch z)
  | succ f ih =>
    intro h x6 W a6 b6 R e
    have c6 := nc_i a6
    rw [sX15_lead_44] at e
    unfold sX15_manOf at e
    replace e := ce_e W.1.1.1 e
    replace e := ce_e W.1.1.2.2.1 e
    replace e := cl_s e; obtain ⟨o3, eo3, e⟩ := e
    rw [so_e eo3] at e
    replace e := gg_e e
    have l74 := (lw_75 W.1 (mnO v.toInt)).2.2.2.2.2
    dsimp only at e
    rw [cm] at e
    rcases br_s e with ⟨l, e⟩ | ⟨l, e⟩
    · have l := le_i l
      rw [l74] at l
      rw [so_e e]
      refine ⟨fv_0, rws_c R (fun j t k _ => ⟨?_, ?_⟩)⟩
      · rintro ⟨i, a, b⟩
        exact ⟨i, by omega, b⟩
      · rintro ⟨i, a, b⟩
        exact ⟨i, by omega, b⟩
    have l := nle_i l
    rw [l74] at l
    replace e := cl_s e; obtain ⟨o6, eo6, e⟩ := e
    rw [so_e eo6] at e
    replace e := nm_s e; obtain ⟨v7, u7, e⟩ := e
    dsimp only at u7 e
    have t8 : ((8 : Int32) * ((v - (1 : Int32)) >>> ((1 : Int32) &&& 31))).toInt = 8 * ((mnO v.toInt : Nat) : Int) := by rw [tm (by rw [z8, sh]; omega), z8, sh]
    have t7 : v7.toInt = 8 * ((mnO v.toInt : Nat) : Int) + x6.toInt := by rw [u7, ta (by rw [t8]; omega), t8]
    have c7 : v7.toNatClampNeg = 8 * mnO v.toInt + x6.toNatClampNeg := by
      have := nc_i (x := v7) (by omega)
      omega
    have J : StR L v7.toNatClampNeg := by
      rw [c7]
      exact Hst _ (by omega)
    obtain ⟨g, A, Rg', e⟩ := ldr_78 D H HM J (by omega) is sL e3 isd F W R (fun j t k z => by
      obtain ⟨i, a, b, _⟩ := z
      omega) ⟨by decide, by decide⟩ e
    unfold sX15_lead_127 at e
    have t6 : (x6 + (1 : Int32)).toInt = x6.toInt + 1 := by rw [ta (by rw [z1]; omega), z1]
    have n6 : (x6 + (1 : Int32)).toNatClampNeg = x6.toNatClampNeg + 1 := by
      have := nc_i (x := x6 + (1 : Int32)) (by omega)
      omega
    obtain ⟨r1, r2⟩ := ih (ldw_x D W A) (by omega) (by omega) (rws_c Rg' (fun j t k _ => by
      rw [n6]
      constructor
      · rintro (⟨i, a, b⟩ | ⟨a, b, ⟨d, _, p, _, q⟩, r⟩)
        · exact ⟨i, by omega, b⟩
        · exact ⟨x6.toNatClampNeg, by omega, by rw [a, c7], led_d.mpr ⟨b, d, p, q⟩, r⟩
      · rintro ⟨i, a, b, c, d⟩
        by_cases y : i = x6.toNatClampNeg
        · have ej : j = v7.toNatClampNeg := by rw [b, y, c7]
          obtain ⟨p, d', q, r⟩ := led_d.mp c
          have J' : StR L j := by rw [ej]; exact J
          obtain ⟨d2, q2, ok2, r2⟩ := wkd_ok J' q r
          exact Or.inr ⟨ej, p, ⟨d2, by rw [z0]; omega, q2, ok2, r2⟩, d⟩
        · exact Or.inl ⟨i, by omega, b, c, d⟩)) (nx_e e)
    exact ⟨fv_t A r1, r2⟩
/-- nothing is led to yet -/
theorem ldr_18 (D : VD V) {ov : Nat → Prop} {ct : Bool} {s x3 v sd : Int32} (H : LOk L) (HM : MOk L M) (is : 0 ≤ s.toInt) (sL : s.toInt < L 0 0 * L 1 0) (e3 : x3 = 0 ↔ ct = false) (iv : Rg 1 24 v) (vL : v.toInt ≤ 2 * L 2 0) (esd : sd.toInt = (v.toInt - 1) % 2) : ∀ (f : Nat) {h : Hp} {x6 : Int32}, LdW V h L M ov → 0 ≤ x6.toInt → (∀ t : Nat, (t : Int) < x6.toInt → hI h (V 86) t = (-1 : Int32)) → sX15_lead_18 F f h (V 16) (V 13) s x3 v sd x6 = some o' → FrV V (wl wlx) h o' ∧ RwS L ov ct V o' (fun j t k => ∃ i : Nat, (i : Int) < L 74 (mnO v.toInt) ∧ j = 8 * mnO v.toInt + i ∧ LdG L M ov ct sd.toInt j s.toNatClampNeg t k) := by
  have z1 : (1 : Int32).toInt = 1 := rfl
  have sq := sq_64 H
  have v0 := iv.1
  obtain ⟨mL, mE⟩ := mno_lt (L := L) (v := v.toInt) (by omega) vL
  obtain ⟨H74, Hst⟩ := H.2.2.2 _ mL
  intro f
  induction f with
  | zero => intro h x6 _ _ _ e; exact absurd e (by rw [sX15_lead_18]; exact fun z => nomatch z)
  | succ f ih =>
    intro h x6 W a6 R e
    have c6 := nc_i a6
    rw [sX15_lead_18] at e
    have g4 := W.1.2.1.2.2.2
    rcases br_s e with ⟨l, e⟩ | ⟨l, e⟩
    · have l := le_i l
      rw [g4] at l
      have n0 : (0 : Int32).toNatClampNeg = 0 := rfl
      have z0 : (0 : Int32).toInt = 0 := rfl
      exact ldr_44 D H HM is sL e3 iv vL esd F W (by decide) (by rw [z0]; omega) (fun t ht => Or.inl ⟨R t (by omega), fun j k z => by
        obtain ⟨i, a, _⟩ := z
        rw [n0] at a
        omega⟩) e
    have l := nle_i l
    rw [g4] at l
    replace e := ce_e W.2.1.1 e
    replace e := gg_e e
    replace e := nm_s e; obtain ⟨h4, u4, e⟩ := e
    have A : FrV V (wl wlx) h h4 := by rw [u4]; exact fv_w (wl_9 (by decide))
    have t6 : (x6 + (1 : Int32)).toInt = x6.toInt + 1 := by rw [ta (by rw [z1]; omega), z1]
    obtain ⟨r1, r2⟩ := ih (ldw_x D W A) (by omega) (fun t ht => by
      rw [u4]
      by_cases y : t = x6.toNatClampNeg
      · rw [y, rI_s]
      · rw [rI_o y]; exact R t (by omega)) (nx_e e)
    exact ⟨fv_t A r1, r2⟩
/-- lead: by every square the first STEP that leads there -/
theorem ld_r (D : VD V) {ov : Nat → Prop} {ct : Bool} {h : Hp} {s x3 : Int32} (H : LOk L) (HM : MOk L M) (W : LdW V h L M ov) (is : 0 ≤ s.toInt) (sL : s.toInt < L 0 0 * L 1 0) (e3 : x3 = 0 ↔ ct = false) (ms : 0 < M s.toNatClampNeg) (e : sX15_lead F h (V 16) (V 13) s x3 = some o') : FrV V (wl wlx) h o' ∧ RwS L ov ct V o' (fun j t k => ∃ i : Nat, (i : Int) < L 74 (mnO (M s.toNatClampNeg)) ∧ j = 8 * mnO (M s.toNatClampNeg) + i ∧ LdG L M ov ct ((M s.toNatClampNeg - 1) % 2) j s.toNatClampNeg t k) := by
  have z1 : (1 : Int32).toInt = 1 := rfl
  have z0 : (0 : Int32).toInt = 0 := rfl
  have sq := sq_64 H
  have L2 := H.2.2.1
  have cs := nc_i is
  have hm := HM s.toNatClampNeg (by omega)
  unfold sX15_lead sX15_sideOf at e
  replace e := ce_e W.1.2.2.1 e
  replace e := gg_e e
  replace e := nm_s e; obtain ⟨v3, u3, e⟩ := e
  have mv : v3.toInt = M s.toNatClampNeg := by rw [u3, ← W.1.2.2.2]; rfl
  have vL := (hm.2 ms).2
  replace e := cl_s e; obtain ⟨o4, eo4, e⟩ := e
  rw [so_e eo4] at e
  have tv : (v3 - (1 : Int32)).toInt = v3.toInt - 1 := by rw [ts (by rw [z1]; omega), z1]
  have sdv : ((v3 - (1 : Int32)) &&& (1 : Int32)).toInt = (v3.toInt - 1) % 2 := by rw [and1_i (by omega), tv]
  obtain ⟨r1, r2⟩ := ldr_18 (ct := ct) D H HM is sL e3 (v := v3) ⟨by omega, by omega⟩ (by omega) sdv F W (by decide) (fun t ht => by rw [z0] at ht; omega) e
  rw [sdv, mv] at r2
  exact ⟨r1, r2⟩
end
