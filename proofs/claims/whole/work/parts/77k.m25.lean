section
/-! a law that is read keeps to itself: royal, castle, what men become are men that were told -/
theorem sS_r (A : List (Nat × Nat)) : sS A A = true := by
  unfold sS
  rw [List.all_eq_true]
  intro p hp
  rw [List.any_eq_true]
  exact ⟨p, hp, by rw [beq_self_eq_true, beq_self_eq_true, Bool.or_true]; rfl⟩
theorem rI_s {h : Hp} {a i : Nat} {v : Int32} : hI (wI h a i v) a i = v := by rw [r_I, if_pos ⟨rfl, rfl⟩]
theorem rI_o {h : Hp} {a b i j : Nat} {v : Int32} (n : ¬ i = j) : hI (wI h b j v) a i = hI h a i := by rw [r_I, if_neg (fun z => n z.2)]
theorem rI_a {h : Hp} {a b i j : Nat} {v : Int32} (n : ¬ a = b) : hI (wI h b j v) a i = hI h a i := by rw [r_I, if_neg (fun z => n z.1)]
abbrev ADL : List (Nat × Nat) := [(3, 2), (3, 3), (3, 4), (3, 5)]
section
variable {ρ : Nat → Nat} {c : Cm} {h o g : Hp} {x0 L F : Nat} {x1 x2 : Int32} {A : List (Nat × Nat)} {lo hi : Int}
theorem kzI {m : Option (Int32 × Hp)} {o : Int32 × Hp} (T : TH ρ c h) (hA : pmA c A) (Z : Sat m (ZI ρ (cat c (fS A []) h) lo hi)) (e : m = some o) : TH ρ c o.2 ∧ Rg lo hi o.1 ∧ Kf ρ A h o.2 := by
  have z := sat_e Z e
  exact ⟨th_out T (fs_sub hA fs_n) z.1, z.2, kf_of (fr_u T z.1.2.2) (by rw [sS_r]; rfl)⟩
theorem kzV {m : Option Hp} {o : Hp} (T : TH ρ c h) (hA : pmA c A) (Z : Sat m (ZV ρ (cat c (fS A []) h))) (e : m = some o) : TH ρ c o ∧ Kf ρ A h o := by
  have z := sat_e Z e
  exact ⟨th_out T (fs_sub hA fs_n) z, kf_of (fr_u T z.2.2) (by rw [sS_r]; rfl)⟩
def LwZ (L : Nat) (h : Hp) : Prop := (hI h L 4).toInt < (hI h L 3).toInt ∧ (hI h L 6).toInt < (hI h L 3).toInt ∧ (∀ bm bc, hR h L 17 = some bm → hR h L 18 = some bc → BcX bm bc (hI h L 3).toInt h) ∧ (hI h L 0).toInt * (hI h L 1).toInt = (hI h L 2).toInt
theorem lz_k {E : List (Nat × Nat)} (T : TH ρ c h) (rL : ρ L = 2) (K : Kf ρ E h o) (P : LwZ L h) (y0 : mS E 2 0 = false := by rfl) (y1 : mS E 2 1 = false := by rfl) (y2 : mS E 2 2 = false := by rfl) (y3 : mS E 2 3 = false := by rfl) (y4 : mS E 2 4 = false := by rfl) (y6 : mS E 2 6 = false := by rfl) (y17 : mS E 2 17 = false := by rfl) (y18 : mS E 2 18 = false := by rfl) (y30 : ∀ i, mS E 30 i = false := by intro _; rfl) (y31 : ∀ i, mS E 31 i = false := by intro _; rfl) : LwZ L o := by
  obtain ⟨a, b, d, s⟩ := P
  refine ⟨?_, ?_, fun bm bc em ec k hk => ?_, ?_⟩
  · rw [kfI 3 K rL (by decide) y3, kfI 4 K rL (by decide) y4]; exact a
  · rw [kfI 3 K rL (by decide) y3, kfI 6 K rL (by decide) y6]; exact b
  · rw [kfI 3 K rL (by decide) y3]
    rw [kfR 17 K rL (by decide) y17] at em
    rw [kfR 18 K rL (by decide) y18] at ec
    have rm : ρ bm = 30 := rr T (thR T rL (i := 17) (k2 := 30) rfl (by decide)) em
    have rc : ρ bc = 31 := rr T (thR T rL (i := 18) (k2 := 31) rfl (by decide)) ec
    rw [kfI k K rc (by decide) (y31 k)]
    refine ⟨(d bm bc em ec k hk).1, fun i hi => ?_⟩
    rw [kfI _ K rm (by decide) (y30 _)]
    exact (d bm bc em ec k hk).2 i hi
  · rw [kfI 0 K rL (by decide) y0, kfI 1 K rL (by decide) y1, kfI 2 K rL (by decide) y2]; exact s
/-- the law's own field is written, not one of those -/
theorem lz_w {j : Nat} {v : Int32} (T : TH ρ c h) (rL : ρ L = 2) (n : ¬ (j = 0 ∨ j = 1 ∨ j = 2 ∨ j = 3 ∨ j = 4 ∨ j = 6)) (P : LwZ L h) : LwZ L (wI h L j v) := by
  have k : ∀ i, i = 0 ∨ i = 1 ∨ i = 2 ∨ i = 3 ∨ i = 4 ∨ i = 6 → hI (wI h L j v) L i = hI h L i := fun i hi => rI_o (by intro z; rw [z] at hi; exact n hi)
  obtain ⟨a, b, d, s⟩ := P
  refine ⟨by rw [k 4 (by decide), k 3 (by decide)]; exact a, by rw [k 6 (by decide), k 3 (by decide)]; exact b, fun bm bc em ec q hq => ?_, by rw [k 0 (by decide), k 1 (by decide), k 2 (by decide)]; exact s⟩
  have rm : ρ bm = 30 := rr T (thR T rL (i := 17) (k2 := 30) rfl (by decide)) em
  have rc : ρ bc = 31 := rr T (thR T rL (i := 18) (k2 := 31) rfl (by decide)) ec
  rw [k 3 (by decide), rI_a (fun z => by rw [z, rL] at rc; exact absurd rc (by decide))]
  refine ⟨(d bm bc em ec q hq).1, fun i hi => ?_⟩
  rw [rI_a (fun z => by rw [z, rL] at rm; exact absurd rm (by decide))]
  exact (d bm bc em ec q hq).2 i hi
theorem lz_w3 {j : Nat} {v : Int32} (r0 : ρ x0 = 3) (T : TH ρ c h) (rL : ρ L = 2) (P : LwZ L h) : LwZ L (wI h x0 j v) := by
  have k : ∀ {a q : Nat} (i : Nat), ρ a = q → q ≠ 3 → hI (wI h x0 j v) a i = hI h a i := fun {a q} i ra hq => rI_a (fun z => hq (by rw [← ra, z]; exact r0))
  obtain ⟨a, b, d, s⟩ := P
  refine ⟨by rw [k 4 rL (by decide), k 3 rL (by decide)]; exact a, by rw [k 6 rL (by decide), k 3 rL (by decide)]; exact b, fun bm bc em ec q hq => ?_, by rw [k 0 rL (by decide), k 1 rL (by decide), k 2 rL (by decide)]; exact s⟩
  have rm : ρ bm = 30 := rr T (thR T rL (i := 17) (k2 := 30) rfl (by decide)) em
  have rc : ρ bc = 31 := rr T (thR T rL (i := 18) (k2 := 31) rfl (by decide)) ec
  rw [k 3 rL (by decide), k q rc (by decide)]
  refine ⟨(d bm bc em ec q hq).1, fun i hi => ?_⟩
  rw [k _ rm (by decide)]
  exact (d bm bc em ec q hq).2 i hi
/-- what a reader of one law stands on -/
def RZ (ρ : Nat → Nat) (c : Cm) (x0 L : Nat) : Prop := c.2.1 1 = true ∧ c.2.1 2 = true ∧ ρ x0 = 3 ∧ ρ L = 2 ∧ ∀ a, ρ a = 2 → a = L
theorem rz_l {r : Nat} (R : RZ ρ c x0 L) (T : TH ρ c h) (e : hR h x0 1 = some r) : r = L := R.2.2.2.2 r (rr T (thM T R.2.2.1 (i := 1) (j := 2) (k2 := 2) rfl (by decide) rfl (by decide) R.2.1) e)
theorem lz_adv (hF : 700000 ≤ F) (R : RZ ρ c x0 L) (hA : pmA c ADL) (T : TH ρ c h) (P : LwZ L h) (e : sX2_advance F h x0 = some o) : TH ρ c o ∧ LwZ L o := by
  obtain ⟨T1, K1⟩ := kzV (A := ADL) T hA (zX2_advance hF (cat_m R.1) fs_a (th_in _ T) R.2.2.1) e
  exact ⟨T1, lz_k T R.2.2.2.1 K1 P⟩
theorem told_q {o : Int32 × Hp} (hF : 700000 ≤ F) (R : RZ ρ c x0 L) (T : TH ρ c h) (e : sX2_toldMan F h x0 = some o) : o.2 = h ∧ (o.1 = (-1 : Int32) ∨ (0 ≤ o.1.toInt ∧ o.1.toInt < (hI h L 3).toInt)) := by
  unfold sX2_toldMan sX2_toldMan_22 at e
  replace e := cl_s e
  obtain ⟨o1, e1, e⟩ := e
  rw [(sat_e (zX2_oneLetter hF R.1 T R.2.2.1) e1).1] at e
  replace e := br_s e
  rcases e with ⟨_, e⟩ | ⟨_, e⟩
  · rw [← Option.some.inj e]; exact ⟨rfl, Or.inl rfl⟩
  replace e := cl_s e
  obtain ⟨r3, e3, e⟩ := e
  have y3 := rz_l R T e3
  rw [y3] at e
  replace e := cl_s e
  obtain ⟨o4, e4, e⟩ := e
  rw [← Option.some.inj e]
  unfold sX1_manOf at e4
  exact man_2 F (by decide) e4
theorem lz_royal {o : Int32 × Hp} (hF : 700000 ≤ F) (R : RZ ρ c x0 L) (hA : pmA c ((2, 4) :: ADL)) (T : TH ρ c h) (P : LwZ L h) (e : sX2_takeRoyal F h x0 = some o) : LwZ L o.2 := by
  unfold sX2_takeRoyal sX2_takeRoyal_35 at e
  replace e := cl_s e
  obtain ⟨o1, e1, e⟩ := e
  obtain ⟨q1, v1⟩ := told_q hF R T e1
  rw [q1] at e
  replace e := br_s e
  rcases e with ⟨_, e⟩ | ⟨n1, e⟩
  · rw [← Option.some.inj e]; exact P
  have v1 := v1.resolve_left n1
  have m12 := thI T R.2.2.2.1 (k := 2) (i := 3) (lo := 0) (hi := 12) rfl
  have i1 : Rg 0 11 o1.1 := ⟨v1.1, by have := m12.2; omega⟩
  replace e := cl_s e
  obtain ⟨r3, e3, e⟩ := e
  rw [rz_l R T e3] at e
  replace e := cl_s e
  obtain ⟨o4, e4, e⟩ := e
  rw [(sat_e (zX1_becomesOthers hF T R.2.2.2.1 (rg_m i1 (by decide))) e4).1] at e
  replace e := br_s e
  rcases e with ⟨_, e⟩ | ⟨_, e⟩
  rotate_left
  · rw [← Option.some.inj e]; exact P
  replace e := cl_s e
  obtain ⟨r6, e6, e⟩ := e
  replace e := br_s e
  rcases e with ⟨_, e⟩ | ⟨_, e⟩
  rotate_left
  · rw [← Option.some.inj e]; exact P
  replace e := cl_s e
  obtain ⟨r8, e8, e⟩ := e
  rw [rz_l R T e8] at e
  replace e := nm_s e
  obtain ⟨h9, w9, e⟩ := e
  have T9 : TH ρ c h9 := by rw [w9]; exact th_wI T R.2.2.2.1 (k := 2) (lo := -1) (hi := 11) rfl (rg_m i1 (by decide)) (by decide) (by decide) (pm_a hA rfl)
  have P9 : LwZ L h9 := by
    obtain ⟨a, b, d, s⟩ := P
    have k : ∀ i, ¬ i = 4 → hI h9 L i = hI h L i := fun i ni => by rw [w9]; exact rI_o ni
    have kk : ∀ {a q : Nat} (i : Nat), ρ a = q → q ≠ 2 → hI h9 a i = hI h a i := fun {a q} i ra hq => by rw [w9]; exact rI_a (fun z => hq (by rw [← ra, z]; exact R.2.2.2.1))
    refine ⟨by rw [k 3 (by decide), w9, rI_s]; exact v1.2, by rw [k 6 (by decide), k 3 (by decide)]; exact b, fun bm bc em ec q hq => ?_, by rw [k 0 (by decide), k 1 (by decide), k 2 (by decide)]; exact s⟩
    have rm : ρ bm = 30 := rr T9 (thR T9 R.2.2.2.1 (i := 17) (k2 := 30) rfl (by decide)) em
    have rc : ρ bc = 31 := rr T9 (thR T9 R.2.2.2.1 (i := 18) (k2 := 31) rfl (by decide)) ec
    have em' : hR h L 17 = some bm := by rw [w9] at em; exact em
    have ec' : hR h L 18 = some bc := by rw [w9] at ec; exact ec
    rw [k 3 (by decide), kk q rc (by decide)]
    refine ⟨(d bm bc em' ec' q hq).1, fun i hi => ?_⟩
    rw [kk _ rm (by decide)]
    exact (d bm bc em' ec' q hq).2 i hi
  replace e := cl_s e
  obtain ⟨o10, e10, e⟩ := e
  rw [← Option.some.inj e]
  exact (lz_adv hF R (pmA_s hA rfl) T9 P9 e10).2
theorem lz_castle {o : Int32 × Hp} (hF : 700000 ≤ F) (R : RZ ρ c x0 L) (hA : pmA c ((2, 6) :: ADL)) (T : TH ρ c h) (P : LwZ L h) (e : sX2_takeCastle F h x0 = some o) : LwZ L o.2 := by
  unfold sX2_takeCastle sX2_takeCastle_21 at e
  replace e := cl_s e
  obtain ⟨o1, e1, e⟩ := e
  obtain ⟨q1, v1⟩ := told_q hF R T e1
  rw [q1] at e
  replace e := br_s e
  rcases e with ⟨_, e⟩ | ⟨n1, e⟩
  · rw [← Option.some.inj e]; exact P
  have v1 := v1.resolve_left n1
  have m12 := thI T R.2.2.2.1 (k := 2) (i := 3) (lo := 0) (hi := 12) rfl
  have i1 : Rg 0 11 o1.1 := ⟨v1.1, by have := m12.2; omega⟩
  replace e := cl_s e
  obtain ⟨r3, e3, e⟩ := e
  replace e := br_s e
  rcases e with ⟨_, e⟩ | ⟨_, e⟩
  · rw [← Option.some.inj e]; exact P
  replace e := cl_s e
  obtain ⟨r8, e8, e⟩ := e
  rw [rz_l R T e8] at e
  replace e := nm_s e
  obtain ⟨h9, w9, e⟩ := e
  have T9 : TH ρ c h9 := by rw [w9]; exact th_wI T R.2.2.2.1 (k := 2) (lo := -1) (hi := 11) rfl (rg_m i1 (by decide)) (by decide) (by decide) (pm_a hA rfl)
  have P9 : LwZ L h9 := by
    obtain ⟨a, b, d, s⟩ := P
    have k : ∀ i, ¬ i = 6 → hI h9 L i = hI h L i := fun i ni => by rw [w9]; exact rI_o ni
    have kk : ∀ {a q : Nat} (i : Nat), ρ a = q → q ≠ 2 → hI h9 a i = hI h a i := fun {a q} i ra hq => by rw [w9]; exact rI_a (fun z => hq (by rw [← ra, z]; exact R.2.2.2.1))
    refine ⟨by rw [k 4 (by decide), k 3 (by decide)]; exact a, by rw [k 3 (by decide), w9, rI_s]; exact v1.2, fun bm bc em ec q hq => ?_, by rw [k 0 (by decide), k 1 (by decide), k 2 (by decide)]; exact s⟩
    have rm : ρ bm = 30 := rr T9 (thR T9 R.2.2.2.1 (i := 17) (k2 := 30) rfl (by decide)) em
    have rc : ρ bc = 31 := rr T9 (thR T9 R.2.2.2.1 (i := 18) (k2 := 31) rfl (by decide)) ec
    have em' : hR h L 17 = some bm := by rw [w9] at em; exact em
    have ec' : hR h L 18 = some bc := by rw [w9] at ec; exact ec
    rw [k 3 (by decide), kk q rc (by decide)]
    refine ⟨(d bm bc em' ec' q hq).1, fun i hi => ?_⟩
    rw [kk _ rm (by decide)]
    exact (d bm bc em' ec' q hq).2 i hi
  replace e := cl_s e
  obtain ⟨o10, e10, e⟩ := e
  rw [← Option.some.inj e]
  exact (lz_adv hF R (pmA_s hA rfl) T9 P9 e10).2
abbrev ONL : List (Nat × Nat) := [(2, 4), (2, 6), (2, 7), (2, 8), (2, 9), (2, 10), (2, 11), (2, 13), (3, 2), (3, 3), (3, 4), (3, 5)]
theorem lz_once {o : Int32 × Hp} (hF : 700000 ≤ F) (R : RZ ρ c x0 L) (hA : pmA c ONL) (T : TH ρ c h) (P : LwZ L h) (e : sX2_takeOnce F h x0 x1 = some o) : LwZ L o.2 := by
  have rL := R.2.2.2.1
  unfold sX2_takeOnce sX2_takeOnce_180 sX2_takeOnce_207 at e
  have ten : ∀ {v : Int32} {g : Hp}, (cl (hR h x0 1) fun r_7 => nm (wI h r_7 10 ((hI h r_7 10) ||| v)) fun h_8 => some ((1 : Int32), h_8)) = some o → LwZ L o.2 := fun {v g} e => by
    replace e := cl_s e
    obtain ⟨r7, e7, e⟩ := e
    rw [rz_l R T e7] at e
    rw [← Option.some.inj e]
    exact lz_w T rL (by decide) P
  replace e := br_s e
  rcases e with ⟨_, e⟩ | ⟨_, e⟩
  · replace e := cl_s e
    obtain ⟨o1, e1, e⟩ := e
    rw [← Option.some.inj (gd_s e).2]
    exact lz_royal hF R (pmA_s hA rfl) T P e1
  replace e := br_s e
  rcases e with ⟨_, e⟩ | ⟨_, e⟩
  · replace e := cl_s e
    obtain ⟨o1, e1, e⟩ := e
    rw [← Option.some.inj (gd_s e).2]
    exact lz_castle hF R (pmA_s hA rfl) T P e1
  replace e := br_s e
  rcases e with ⟨_, e⟩ | ⟨_, e⟩
  · exact ten (g := h) e
  replace e := br_s e
  rcases e with ⟨_, e⟩ | ⟨_, e⟩
  · exact ten (g := h) e
  replace e := br_s e
  rcases e with ⟨_, e⟩ | ⟨_, e⟩
  · exact ten (g := h) e
  replace e := br_s e
  rcases e with ⟨_, e⟩ | ⟨_, e⟩
  · replace e := cl_s e
    obtain ⟨o1, e1, e⟩ := e
    rw [← Option.some.inj (gd_s e).2]
    exact lz_k T rL (kzI (A := [(2, 10), (2, 11), (3, 2), (3, 3), (3, 4), (3, 5)]) T (pmA_s hA rfl) (zX2_takeBlast hF (cat_m R.1) (cat_m R.2.1) fs_a (th_in _ T) R.2.2.1) e1).2.2 P
  replace e := br_s e
  rcases e with ⟨_, e⟩ | ⟨_, e⟩
  · replace e := cl_s e
    obtain ⟨o1, e1, e⟩ := e
    rw [← Option.some.inj (gd_s e).2]
    exact lz_k T rL (kzI (A := [(2, 7), (3, 2), (3, 3), (3, 4), (3, 5)]) T (pmA_s hA rfl) (zX2_takeChecks hF (cat_m R.1) (cat_m R.2.1) fs_a (th_in _ T) R.2.2.1) e1).2.2 P
  replace e := br_s e
  rcases e with ⟨_, e⟩ | ⟨_, e⟩
  · replace e := cl_s e
    obtain ⟨o1, e1, e⟩ := e
    rw [← Option.some.inj (gd_s e).2]
    exact lz_k T rL (kzI (A := [(2, 13), (3, 2), (3, 3), (3, 4), (3, 5)]) T (pmA_s hA rfl) (zX2_takeHill hF (cat_m R.1) (cat_m R.2.1) fs_a (th_in _ T) R.2.2.1) e1).2.2 P
  have wol : ∀ {r : Nat} {o2 : Int32 × Hp} {j : Nat}, hR h x0 1 = some r → sX2_wonOrLost F h x0 = some o2 → j = 8 ∨ j = 9 → LwZ L (wI o2.2 r j o2.1) := fun {r o2 j} er e2 hj => by
    rw [rz_l R T er]
    obtain ⟨T2, _, K2⟩ := kzI (A := ADL) T (pmA_s hA rfl) (zX2_wonOrLost hF (cat_m R.1) fs_a (th_in _ T) R.2.2.1) e2
    exact lz_w T2 rL (by omega) (lz_k T rL K2 P)
  replace e := br_s e
  rcases e with ⟨_, e⟩ | ⟨_, e⟩
  · replace e := cl_s e
    obtain ⟨r, er, e⟩ := e
    replace e := cl_s e
    obtain ⟨o2, e2, e⟩ := e
    have W := wol er e2 (Or.inl rfl)
    replace e := nm_s e
    obtain ⟨h3, w3, e⟩ := e
    rw [← w3] at W
    replace e := cl_s e
    obtain ⟨r4, er4, e⟩ := e
    replace e := br_s e
    rcases e with ⟨_, e⟩ | ⟨_, e⟩
    · rw [← Option.some.inj (gd_s e).2]; exact W
    · rw [← Option.some.inj (gd_s e).2]; exact W
  · replace e := cl_s e
    obtain ⟨r, er, e⟩ := e
    replace e := cl_s e
    obtain ⟨o2, e2, e⟩ := e
    have W := wol er e2 (Or.inr rfl)
    replace e := nm_s e
    obtain ⟨h3, w3, e⟩ := e
    rw [← w3] at W
    replace e := cl_s e
    obtain ⟨r4, er4, e⟩ := e
    replace e := br_s e
    rcases e with ⟨_, e⟩ | ⟨_, e⟩
    · rw [← Option.some.inj (gd_s e).2]; exact W
    · rw [← Option.some.inj (gd_s e).2]; exact W
theorem lz_other {o : Int32 × Hp} (hF : 700000 ≤ F) (R : RZ ρ c x0 L) (hA : pmA c ((3, 6) :: ONL)) (T : TH ρ c h) (P : LwZ L h) (e : sX2_takeOther F h x0 = some o) : LwZ L o.2 := by
  have rL := R.2.2.2.1
  unfold sX2_takeOther sX2_takeOther_25 at e
  replace e := cl_s e
  obtain ⟨o1, e1, e⟩ := e
  obtain ⟨q1, i1⟩ := sat_e (zX2_onceWord hF R.1 T R.2.2.1) e1
  rw [q1] at e
  have go : ∀ {t : Int32}, sX2_takeOther_26 F h x0 o1.1 t = some o → LwZ L o.2 := fun {t} e => by
    unfold sX2_takeOther_26 sX2_takeOther_44 at e
    replace e := br_s e
    rcases e with ⟨_, e⟩ | ⟨_, e⟩
    · rw [← Option.some.inj e]; exact P
    replace e := br_s e
    rcases e with ⟨_, e⟩ | ⟨_, e⟩
    rotate_left
    · rw [← Option.some.inj e]; exact P
    replace e := br_s e
    rcases e with ⟨_, e⟩ | ⟨_, e⟩
    rotate_left
    · rw [← Option.some.inj e]; exact P
    replace e := nm_s e
    obtain ⟨h4, w4, e⟩ := e
    have i6 := thI T R.2.2.1 (k := 3) (i := 6) (lo := 0) (hi := 1023) rfl
    have T4 : TH ρ c h4 := by rw [w4]; exact th_wI T R.2.2.1 (k := 3) (lo := 0) (hi := 1023) rfl (rg_or (n := 10) i6 i1 (by decide)) (by decide) (by decide) (pm_a hA rfl)
    have P4 : LwZ L h4 := by rw [w4]; exact lz_w3 R.2.2.1 T rL P
    replace e := cl_s e
    obtain ⟨o5, e5, e⟩ := e
    obtain ⟨T5, P5⟩ := lz_adv hF R (pmA_s hA rfl) T4 P4 e5
    replace e := cl_s e
    obtain ⟨o6, e6, e⟩ := e
    rw [← Option.some.inj (gd_s e).2]
    exact lz_once hF R (pmA_s hA rfl) T5 P5 e6
  replace e := br_s e
  rcases e with ⟨_, e⟩ | ⟨_, e⟩
  · replace e := cl_s e
    obtain ⟨r3, e3, e⟩ := e
    replace e := br_s e
    rcases e with ⟨_, e⟩ | ⟨_, e⟩
    · exact go e
    · exact go e
  · exact go e
end
end
section
/-! becomes, man, board, the whole text: the law keeps to itself -/
theorem hR_wI {h : Hp} {a i b j : Nat} {v : Int32} : hR (wI h a i v) b j = hR h b j := rfl
theorem hR_wJ {h : Hp} {a i b j : Nat} {v : Int64} : hR (wJ h a i v) b j = hR h b j := rfl
theorem hN_wI {h : Hp} {a i b : Nat} {v : Int32} : hN (wI h a i v) b = hN h b := rfl
theorem hN_wJ {h : Hp} {a i b : Nat} {v : Int64} : hN (wJ h a i v) b = hN h b := rfl
section
variable {ρ : Nat → Nat} {c : Cm} {h o g : Hp} {x0 L F : Nat} {x1 x2 x3 : Int32}
abbrev BEL : List (Nat × Nat) := [(30, 999), (31, 999), (2, 5), (2, 12), (3, 2), (3, 3), (3, 4), (3, 5)]
theorem lz_b178 {o : Int32 × Hp} (R : RZ ρ c x0 L) (hA : pmA c BEL) (T : TH ρ c h) (i1 : Rg 0 11 x1) (P : LwZ L h) (e : sX2_takeBecomes_178 F h x0 x1 x2 = some o) : LwZ L o.2 := by
  have rL := R.2.2.2.1
  unfold sX2_takeBecomes_178 sX2_takeBecomes_217 at e
  replace e := cl_s e
  obtain ⟨r1, e1, e⟩ := e
  rw [rz_l R T e1] at e
  replace e := nm_s e
  obtain ⟨h2, w2, e⟩ := e
  have P2 : LwZ L h2 := by rw [w2]; exact lz_w T rL (by decide) P
  have R2 : ∀ a i, hR h2 a i = hR h a i := fun a i => by rw [w2]; rfl
  replace e := cl_s e
  obtain ⟨r3, e3, e⟩ := e
  rw [R2] at e3
  rw [rz_l R T e3] at e
  have fin : ∀ {v : Int32}, LwZ L (wI h2 L 5 v) := fun {v} => by
    -- only ints and references are read: TH is not needed
    have k : ∀ i, ¬ i = 5 → hI (wI h2 L 5 v) L i = hI h2 L i := fun i ni => rI_o ni
    obtain ⟨a, b, d, s⟩ := P2
    refine ⟨by rw [k 4 (by decide), k 3 (by decide)]; exact a, by rw [k 6 (by decide), k 3 (by decide)]; exact b, fun bm bc em ec q hq => ?_, by rw [k 0 (by decide), k 1 (by decide), k 2 (by decide)]; exact s⟩
    have em' : hR h L 17 = some bm := by rw [← R2]; exact em
    have ec' : hR h L 18 = some bc := by rw [← R2]; exact ec
    have rm : ρ bm = 30 := rr T (thR T rL (i := 17) (k2 := 30) rfl (by decide)) em'
    have rc : ρ bc = 31 := rr T (thR T rL (i := 18) (k2 := 31) rfl (by decide)) ec'
    rw [k 3 (by decide), rI_a (fun z => by rw [z, rL] at rc; exact absurd rc (by decide))]
    refine ⟨(d bm bc em ec q hq).1, fun i hi => ?_⟩
    rw [rI_a (fun z => by rw [z, rL] at rm; exact absurd rm (by decide))]
    exact (d bm bc em ec q hq).2 i hi
  replace e := cl_s e
  obtain ⟨r4, e4, e⟩ := e
  replace e := br_s e
  rcases e with ⟨_, e⟩ | ⟨_, e⟩
  · rw [← Option.some.inj e]; exact fin
  · replace e := cl_s e
    obtain ⟨r6, e6, e⟩ := e
    rw [← Option.some.inj e]; exact fin
theorem lz_b60 (hF : 700000 ≤ F) (R : RZ ρ c x0 L) (hA : pmA c BEL) (i1 : Rg 0 11 x1) : ∀ (f : Nat) {h : Hp} {o : Int32 × Hp} {x2 x3 : Int32}, TH ρ c h → LwZ L h → Rg 0 6 x3 → (∀ bm, hR h L 17 = some bm → ∀ i : Nat, (i : Int) < x3.toInt → 0 ≤ (hI h bm (6 * x1.toNatClampNeg + i)).toInt ∧ (hI h bm (6 * x1.toNatClampNeg + i)).toInt < (hI h L 3).toInt) → sX2_takeBecomes_60 F f h x0 x1 x2 x3 = some o → LwZ L o.2 := by
  have rL := R.2.2.2.1
  have n1 := nc_i i1.1
  intro f
  induction f with
  | zero => intro h o x2 x3 _ _ _ _ e; exact absurd e (by rw [sX2_takeBecomes_60]; exact fun z => nomatch z)
  | succ f ih =>
    intro h o x2 x3 T P i3 B e
    rw [sX2_takeBecomes_60] at e
    have b78 : ¬ (6 : Int32) ≤ x3 → sX2_takeBecomes_78 F (sX2_takeBecomes_60 F f) h x0 x1 x2 x3 = some o → LwZ L o.2 := fun n6 e => by
      have l6 : x3.toInt < 6 := by have := nle_i n6; have z6 : (6 : Int32).toInt = 6 := rfl; omega
      have i35 : Rg 0 5 x3 := ⟨i3.1, by omega⟩
      unfold sX2_takeBecomes_78 sX2_takeBecomes_108 sX2_takeBecomes_131 at e
      replace e := cl_s e
      obtain ⟨o1, e1, e⟩ := e
      obtain ⟨q1, v1⟩ := told_q hF R T e1
      rw [q1] at e
      replace e := br_s e
      rcases e with ⟨_, e⟩ | ⟨nn, e⟩
      · rw [← Option.some.inj e]; exact P
      have v1 := v1.resolve_left nn
      have m12 := thI T rL (k := 2) (i := 3) (lo := 0) (hi := 12) rfl
      have j1 : Rg 0 11 o1.1 := ⟨v1.1, by have := m12.2; omega⟩
      replace e := br_s e
      rcases e with ⟨_, e⟩ | ⟨_, e⟩
      · rw [← Option.some.inj e]; exact P
      replace e := cl_s e
      obtain ⟨r4, e4, e⟩ := e
      replace e := br_s e
      rcases e with ⟨_, e⟩ | ⟨_, e⟩
      · rw [← Option.some.inj e]; exact P
      replace e := cl_s e
      obtain ⟨r6, e6, e⟩ := e
      rw [rz_l R T e6] at e
      replace e := cl_s e
      obtain ⟨o7, e7, e⟩ := e
      rw [(sat_e (zX1_becomesOthers hF T rL (rg_m j1 (by decide))) e7).1] at e
      replace e := br_s e
      rcases e with ⟨_, e⟩ | ⟨_, e⟩
      rotate_left
      · rw [← Option.some.inj e]; exact P
      replace e := br_s e
      rcases e with ⟨_, e⟩ | ⟨_, e⟩
      rotate_left
      · rw [← Option.some.inj e]; exact P
      replace e := nm_s e
      obtain ⟨v10, _, e⟩ := e
      replace e := cl_s e
      obtain ⟨r11, e11, e⟩ := e
      rw [rz_l R T e11] at e
      replace e := cl_s e
      obtain ⟨bm, ebm, e⟩ := e
      have rm : ρ bm = 30 := rr T (thR T rL (i := 17) (k2 := 30) rfl (by decide)) ebm
      replace e := (gd_s e).2
      replace e := nm_s e
      obtain ⟨h14, w14, e⟩ := e
      have T14 : TH ρ c h14 := by rw [w14]; exact th_wI T rm (k := 30) (lo := 0) (hi := 11) rfl j1 (by decide) (by decide) (pm_a hA rfl)
      have R14 : ∀ a i, hR h14 a i = hR h a i := fun a i => by rw [w14]; rfl
      replace e := cl_s e
      obtain ⟨r15, e15, e⟩ := e
      rw [R14] at e15
      rw [rz_l R T e15] at e
      replace e := cl_s e
      obtain ⟨bc, ebc, e⟩ := e
      rw [R14] at ebc
      have rc : ρ bc = 31 := rr T (thR T rL (i := 18) (k2 := 31) rfl (by decide)) ebc
      replace e := (gd_s e).2
      replace e := nm_s e
      obtain ⟨h18, w18, e⟩ := e
      have i36 : Rg 0 6 (x3 + (1 : Int32)) := rg_add i35 (rg_b rfl : Rg 1 1 (1 : Int32)) (by decide)
      have t36 : (x3 + (1 : Int32)).toInt = x3.toInt + 1 := (nc_s i35 (by decide)).2
      have T18 : TH ρ c h18 := by rw [w18]; exact th_wI T14 rc (k := 31) (lo := 0) (hi := 6) rfl i36 (by decide) (by decide) (pm_a hA rfl)
      have n3 := nc_i i3.1
      have ix : ((x1 * (6 : Int32)) + x3).toNatClampNeg = 6 * x1.toNatClampNeg + x3.toNatClampNeg := by
        have m6 : Rg 0 66 (x1 * (6 : Int32)) := rg_mulc i1 (rg_b rfl : Rg 6 6 (6 : Int32)) (by decide)
        have e1 := ti_add m6 i35 (by decide)
        have e2 := ti_mulc i1 (rg_b rfl : Rg 6 6 (6 : Int32)) (by decide)
        have := nc_i (rg_add m6 i35 (by decide) : Rg 0 71 _).1
        omega
      have nmc : ¬ bm = bc := fun z => by rw [z, rc] at rm; exact absurd rm (by decide)
      have IL : ∀ i, hI h18 L i = hI h L i := fun i => by
        rw [w18, rI_a (fun z => by rw [z, rc] at rL; exact absurd rL (by decide)), w14, rI_a (fun z => by rw [z, rm] at rL; exact absurd rL (by decide))]
      have IM : ∀ j, hI h18 bm j = if j = 6 * x1.toNatClampNeg + x3.toNatClampNeg then o1.1 else hI h bm j := fun j => by
        rw [w18, rI_a nmc, w14, r_I, ix]
        by_cases z : j = 6 * x1.toNatClampNeg + x3.toNatClampNeg
        · rw [if_pos ⟨rfl, z⟩, if_pos z]
        · rw [if_neg (fun y => z y.2), if_neg z]
      have IC : ∀ k, hI h18 bc k = if k = x1.toNatClampNeg then x3 + (1 : Int32) else hI h bc k := fun k => by
        rw [w18, r_I]
        by_cases z : k = x1.toNatClampNeg
        · rw [if_pos ⟨rfl, z⟩, if_pos z]
        · rw [if_neg (fun y => z y.2), if_neg z, w14, rI_a (fun y => nmc y.symm)]
      have B18 : ∀ bm', hR h18 L 17 = some bm' → ∀ i : Nat, (i : Int) < (x3 + (1 : Int32)).toInt → 0 ≤ (hI h18 bm' (6 * x1.toNatClampNeg + i)).toInt ∧ (hI h18 bm' (6 * x1.toNatClampNeg + i)).toInt < (hI h18 L 3).toInt := fun bm' eb' i hi => by
        have eb2 : hR h L 17 = some bm' := by rw [w18, w14] at eb'; exact eb'
        have y : bm' = bm := r_eq ebm eb2
        subst y
        rw [IL, IM]
        by_cases z : 6 * x1.toNatClampNeg + i = 6 * x1.toNatClampNeg + x3.toNatClampNeg
        · rw [if_pos z]; exact v1
        · rw [if_neg z]; exact B bm' ebm i (by omega)
      have P18 : LwZ L h18 := by
        obtain ⟨a, b, d, s⟩ := P
        refine ⟨by rw [IL, IL]; exact a, by rw [IL, IL]; exact b, fun bm' bc' em' ec' k hk => ?_, by rw [IL, IL, IL]; exact s⟩
        have eb2 : hR h L 17 = some bm' := by rw [w18, w14] at em'; exact em'
        have y : bm' = bm := r_eq ebm eb2
        subst y
        have ec2 : hR h L 18 = some bc' := by rw [w18, w14] at ec'; exact ec'
        have y : bc' = bc := r_eq ebc ec2
        subst y
        rw [IC]
        by_cases z : k = x1.toNatClampNeg
        · rw [if_pos z]
          refine ⟨by rw [t36]; omega, fun i hi => ?_⟩
          rw [z]; exact B18 bm' em' i hi
        · rw [if_neg z]
          obtain ⟨d1, d2⟩ := d bm' bc' eb2 ec2 k hk
          refine ⟨d1, fun i hi => ?_⟩
          rw [IL, IM, if_neg (by omega)]
          exact d2 i hi
      replace e := cl_s e
      obtain ⟨o19, e19, e⟩ := e
      obtain ⟨T19, K19⟩ := kzV (A := ADL) T18 (pmA_s hA rfl) (zX2_advance hF (cat_m R.1) fs_a (th_in _ T18) R.2.2.1) e19
      have P19 := lz_k T18 rL K19 P18
      replace e := nm_s e
      obtain ⟨v20, w20, e⟩ := e
      rw [w20] at e
      refine ih T19 P19 i36 (fun bm' eb' i hi => ?_) e
      rw [kfR 17 K19 rL (by decide)] at eb'
      have rm' : ρ bm' = 30 := rr T18 (thR T18 rL (i := 17) (k2 := 30) rfl (by decide)) eb'
      rw [kfI _ K19 rm' (by decide), kfI 3 K19 rL (by decide)]
      exact B18 bm' eb' i hi
    replace e := br_s e
    rcases e with ⟨_, e⟩ | ⟨n6, e⟩
    · exact lz_b178 R hA T i1 P e
    replace e := br_s e
    rcases e with ⟨_, e⟩ | ⟨_, e⟩
    · exact b78 n6 e
    replace e := br_s e
    rcases e with ⟨_, e⟩ | ⟨_, e⟩
    · exact b78 n6 e
    · exact lz_b178 R hA T i1 P e
theorem lz_becomes {o : Int32 × Hp} (hF : 700000 ≤ F) (R : RZ ρ c x0 L) (hA : pmA c BEL) (T : TH ρ c h) (P : LwZ L h) (e : sX2_takeBecomes F h x0 = some o) : LwZ L o.2 := by
  have rL := R.2.2.2.1
  unfold sX2_takeBecomes sX2_takeBecomes_50 at e
  replace e := cl_s e
  obtain ⟨o1, e1, e⟩ := e
  obtain ⟨T1, P1⟩ := lz_adv hF R (pmA_s hA rfl) T P e1
  replace e := cl_s e
  obtain ⟨o2, e2, e⟩ := e
  obtain ⟨q2, v2⟩ := told_q hF R T1 e2
  rw [q2] at e
  replace e := br_s e
  rcases e with ⟨_, e⟩ | ⟨nn, e⟩
  · rw [← Option.some.inj e]; exact P1
  have v2 := v2.resolve_left nn
  have m12 := thI T1 rL (k := 2) (i := 3) (lo := 0) (hi := 12) rfl
  have j2 : Rg 0 11 o2.1 := ⟨v2.1, by have := m12.2; omega⟩
  replace e := cl_s e
  obtain ⟨r4, e4, e⟩ := e
  replace e := br_s e
  rcases e with ⟨_, e⟩ | ⟨_, e⟩
  · rw [← Option.some.inj e]; exact P1
  replace e := cl_s e
  obtain ⟨r6, e6, e⟩ := e
  rw [rz_l R T1 e6] at e
  replace e := cl_s e
  obtain ⟨o7, e7, e⟩ := e
  rw [(sat_e (zX1_becomesOthers hF T1 rL (rg_m j2 (by decide))) e7).1] at e
  replace e := br_s e
  rcases e with ⟨_, e⟩ | ⟨_, e⟩
  rotate_left
  · rw [← Option.some.inj e]; exact P1
  replace e := cl_s e
  obtain ⟨r9, e9, e⟩ := e
  replace e := br_s e
  rcases e with ⟨_, e⟩ | ⟨_, e⟩
  rotate_left
  · rw [← Option.some.inj e]; exact P1
  replace e := cl_s e
  obtain ⟨o11, e11, e⟩ := e
  obtain ⟨T11, P11⟩ := lz_adv hF R (pmA_s hA rfl) T1 P1 e11
  exact lz_b60 hF R hA j2 F T11 P11 (rg_b rfl) (fun bm _ i hi => absurd hi (by show ¬ (i : Int) < 0; omega)) e
abbrev MNL : List (Nat × Nat) := [(27, 999), (28, 999), (29, 999), (2, 3), (3, 2), (3, 3), (3, 4), (3, 5)]
theorem lz_m77 (hF : 700000 ≤ F) (R : RZ ρ c x0 L) (hA : pmA c MNL) (i2 : Rg 0 11 x2) : ∀ (f : Nat) {h : Hp} {o : Int32 × Hp} {x3 : Int32}, TH ρ c h → LwZ L h → 0 ≤ x3.toInt → sX2_takeMan_77 F f h x0 x2 x3 = some o → LwZ L o.2 := by
  have rL := R.2.2.2.1
  intro f
  induction f with
  | zero => intro h o x3 _ _ _ e; exact absurd e (by rw [sX2_takeMan_77]; exact fun z => nomatch z)
  | succ f ih =>
    intro h o x3 T P a3 e
    rw [sX2_takeMan_77] at e
    unfold sX2_takeMan_108 at e
    replace e := br_s e
    rcases e with ⟨_, e⟩ | ⟨n8, e⟩
    · rw [← Option.some.inj e]; exact P
    have l8 := nle_i n8
    have z8 : (8 : Int32).toInt = 8 := rfl
    have i3 : Rg 0 7 x3 := ⟨a3, by omega⟩
    replace e := cl_s e
    obtain ⟨o2, e2, e⟩ := e
    obtain ⟨T2, _, K2⟩ := kzI (A := [(28, 999), (29, 999), (3, 2), (3, 3), (3, 4), (3, 5)]) T (pmA_s hA rfl) (zX2_takeStep hF (cat_m R.1) (cat_m R.2.1) fs_a (th_in _ T) R.2.2.1 i2 i3) e2
    have P2 := lz_k T rL K2 P
    replace e := br_s e
    rcases e with ⟨_, e⟩ | ⟨_, e⟩
    · rw [← Option.some.inj e]; exact P2
    replace e := br_s e
    rcases e with ⟨_, e⟩ | ⟨_, e⟩
    rotate_left
    · rw [← Option.some.inj e]; exact P2
    replace e := br_s e
    rcases e with ⟨_, e⟩ | ⟨_, e⟩
    · rw [← Option.some.inj e]; exact P2
    replace e := cl_s e
    obtain ⟨o6, e6, e⟩ := e
    obtain ⟨T6, P6⟩ := lz_adv hF R (pmA_s hA rfl) T2 P2 e6
    replace e := nm_s e
    obtain ⟨v7, w7, e⟩ := e
    exact ih T6 P6 (by rw [w7, (nc_s i3 (by decide)).2]; omega) e
theorem lz_man {o : Int32 × Hp} (hF : 700000 ≤ F) (R : RZ ρ c x0 L) (hA : pmA c MNL) (T : TH ρ c h) (P : LwZ L h) (e : sX2_takeMan F h x0 = some o) : LwZ L o.2 := by
  have rL := R.2.2.2.1
  unfold sX2_takeMan sX2_takeMan_38 at e
  replace e := cl_s e
  obtain ⟨o1, e1, e⟩ := e
  obtain ⟨T1, P1⟩ := lz_adv hF R (pmA_s hA rfl) T P e1
  replace e := cl_s e
  obtain ⟨o2, e2, e⟩ := e
  obtain ⟨q2, i2⟩ := sat_e (zX2_oneLetter hF R.1 T1 R.2.2.1) e2
  rw [q2] at e
  replace e := br_s e
  rcases e with ⟨_, e⟩ | ⟨nn, e⟩
  · rw [← Option.some.inj e]; exact P1
  have j2 : Rg 0 255 o2.1 := rg_nlo nn i2 (rg_b rfl : Rg (-1) (-1) (-1 : Int32))
  replace e := cl_s e
  obtain ⟨r4, e4, e⟩ := e
  rw [rz_l R T1 e4] at e
  replace e := cl_s e
  obtain ⟨o5, e5, e⟩ := e
  rw [(sat_e (zX1_manOf hF T1 rL (rg_m j2 (by decide))) e5).1] at e
  replace e := br_s e
  rcases e with ⟨_, e⟩ | ⟨_, e⟩
  rotate_left
  · rw [← Option.some.inj e]; exact P1
  replace e := cl_s e
  obtain ⟨r7, e7, e⟩ := e
  rw [rz_l R T1 e7] at e
  replace e := br_s e
  rcases e with ⟨l12, e⟩ | ⟨_, e⟩
  rotate_left
  · rw [← Option.some.inj e]; exact P1
  have l12 := lt_i l12
  have z12 : (12 : Int32).toInt = 12 := rfl
  replace e := cl_s e
  obtain ⟨o9, e9, e⟩ := e
  obtain ⟨T9, K9⟩ := kzV (A := ADL) T1 (pmA_s hA rfl) (zX2_advance hF (cat_m R.1) fs_a (th_in _ T1) R.2.2.1) e9
  have P9 := lz_k T1 rL K9 P1
  have e3 : hI o9 L 3 = hI o1 L 3 := kfI 3 K9 rL (by decide)
  have m12 := thI T9 rL (k := 2) (i := 3) (lo := 0) (hi := 12) rfl
  have im : Rg 0 11 (hI o9 L 3) := ⟨m12.1, by rw [e3]; omega⟩
  replace e := cl_s e
  obtain ⟨r10, e10, e⟩ := e
  rw [rz_l R T9 e10] at e
  replace e := nm_s e
  obtain ⟨v11, w11, e⟩ := e
  have iv : Rg 0 11 v11 := by rw [w11]; exact im
  replace e := cl_s e
  obtain ⟨r12, e12, e⟩ := e
  rw [rz_l R T9 e12] at e
  replace e := cl_s e
  obtain ⟨lt, elt, e⟩ := e
  have rlt : ρ lt = 27 := rr T9 (thR T9 rL (i := 14) (k2 := 27) rfl (by decide)) elt
  replace e := (gd_s e).2
  replace e := nm_s e
  obtain ⟨h15, w15, e⟩ := e
  have T15 : TH ρ c h15 := by rw [w15]; exact th_wI T9 rlt (k := 27) (lo := 0) (hi := 255) rfl j2 (by decide) (by decide) (pm_a hA rfl)
  have R15 : ∀ a i, hR h15 a i = hR o9 a i := fun a i => by rw [w15]; rfl
  have I15 : ∀ {a q : Nat} (i : Nat), ρ a = q → q ≠ 27 → hI h15 a i = hI o9 a i := fun {a q} i ra hq => by rw [w15]; exact rI_a (fun z => hq (by rw [← ra, z]; exact rlt))
  replace e := cl_s e
  obtain ⟨r16, e16, e⟩ := e
  rw [R15] at e16
  rw [rz_l R T9 e16] at e
  replace e := nm_s e
  obtain ⟨h17, w17, e⟩ := e
  have t13 : (hI h15 L 3 + (1 : Int32)).toInt = (hI o9 L 3).toInt + 1 := by rw [I15 3 rL (by decide)]; exact (nc_s im (by decide)).2
  have i13 : Rg 0 12 (hI h15 L 3 + (1 : Int32)) := ⟨by rw [t13]; have := im.1; omega, by rw [t13]; have := im.2; omega⟩
  have T17 : TH ρ c h17 := by rw [w17]; exact th_wI T15 rL (k := 2) (i := 3) (lo := 0) (hi := 12) rfl i13 (by decide) (by decide) (pm_a hA rfl)
  have P17 : LwZ L h17 := by
    have k : ∀ i, ¬ i = 3 → hI h17 L i = hI o9 L i := fun i ni => by rw [w17, rI_o ni]; exact I15 i rL (by decide)
    have k3 : (hI h17 L 3).toInt = (hI o9 L 3).toInt + 1 := by rw [w17, rI_s]; exact t13
    obtain ⟨a, b, d, s⟩ := P9
    refine ⟨by rw [k 4 (by decide), k3]; omega, by rw [k 6 (by decide), k3]; omega, fun bm bc em ec q hq => ?_, by rw [k 0 (by decide), k 1 (by decide), k 2 (by decide)]; exact s⟩
    have em' : hR o9 L 17 = some bm := by rw [w17, w15] at em; exact em
    have ec' : hR o9 L 18 = some bc := by rw [w17, w15] at ec; exact ec
    have rm : ρ bm = 30 := rr T9 (thR T9 rL (i := 17) (k2 := 30) rfl (by decide)) em'
    have rc : ρ bc = 31 := rr T9 (thR T9 rL (i := 18) (k2 := 31) rfl (by decide)) ec'
    have kk : ∀ {a q : Nat} (i : Nat), ρ a = q → q ≠ 2 → q ≠ 27 → hI h17 a i = hI o9 a i := fun {a q} i ra hq hq2 => by rw [w17, rI_a (fun z => hq (by rw [← ra, z]; exact rL))]; exact I15 i ra hq2
    rw [k3, kk q rc (by decide) (by decide)]
    refine ⟨(d bm bc em' ec' q hq).1, fun i hi => ?_⟩
    rw [kk _ rm (by decide) (by decide)]
    have := (d bm bc em' ec' q hq).2 i hi
    exact ⟨this.1, by omega⟩
  exact lz_m77 hF R hA iv F T17 P17 (by decide) e
abbrev BRL : List (Nat × Nat) := [(32, 999), (33, 999), (2, 0), (2, 1), (2, 2), (3, 2), (3, 3), (3, 4), (3, 5)]
theorem lz_end {o : Int32 × Hp} (hF : 700000 ≤ F) (R : RZ ρ c x0 L) (hA : pmA c ADL) (T : TH ρ c h) (P : LwZ L h) (e : sX2_takeEnd F h x0 = some o) : TH ρ c o.2 ∧ LwZ L o.2 := by
  obtain ⟨T1, _, K1⟩ := kzI (A := ADL) T hA (zX2_takeEnd hF (cat_m R.1) fs_a (th_in _ T) R.2.2.1) e
  exact ⟨T1, lz_k T R.2.2.2.1 K1 P⟩
theorem lz_board {o : Int32 × Hp} (hF : 700000 ≤ F) (R : RZ ρ c x0 L) (hA : pmA c BRL) (T : TH ρ c h) (ga : GeoA ρ h) (P : LwZ L h) (e : sX2_takeBoard F h x0 = some o) : LwZ L o.2 := by
  have rL := R.2.2.2.1
  unfold sX2_takeBoard at e
  replace e := cl_s e
  obtain ⟨o1, e1, e⟩ := e
  rw [(sat_e (zX2_isWord hF R.1 T R.2.2.1) e1).1] at e
  replace e := br_s e
  rcases e with ⟨_, e⟩ | ⟨_, e⟩
  · rw [← Option.some.inj e]; exact P
  replace e := cl_s e
  obtain ⟨o3, e3, e⟩ := e
  obtain ⟨T3, K3⟩ := kzV (A := ADL) T (pmA_s hA rfl) (zX2_advance hF (cat_m R.1) fs_a (th_in _ T) R.2.2.1) e3
  have P3 := lz_k T rL K3 P
  have f3 := fr_u T (sat_e (zX2_advance hF (cat_m R.1) fs_a (th_in (fS ADL []) T) R.2.2.1) e3).2.2
  have ga3 : GeoA ρ o3 := ga_fr T f3 (fun _ => rfl) (fun _ => rfl) (fun _ => rfl) (fun _ => rfl) (fun _ _ => rfl) ga
  replace e := cl_s e
  obtain ⟨o4, e4, e⟩ := e
  obtain ⟨q4, _, n4⟩ := sat_e (zX2_isNumber (h := o3) (x0 := x0) hF (rg_b rfl : Rg 3 3 (3 : Int32)) (rg_b rfl : Rg 8 8 (8 : Int32))) e4
  rw [q4] at e
  replace e := br_s e
  rcases e with ⟨_, e⟩ | ⟨z4, e⟩
  · rw [← Option.some.inj e]; exact P3
  have i5 := n4 z4
  replace e := nm_s e
  obtain ⟨v6, w6, e⟩ := e
  replace e := cl_s e
  obtain ⟨o7, e7, e⟩ := e
  obtain ⟨T7, K7⟩ := kzV (A := ADL) T3 (pmA_s hA rfl) (zX2_advance hF (cat_m R.1) fs_a (th_in _ T3) R.2.2.1) e7
  have P7 := lz_k T3 rL K7 P3
  have f7 := fr_u T3 (sat_e (zX2_advance hF (cat_m R.1) fs_a (th_in (fS ADL []) T3) R.2.2.1) e7).2.2
  have ga7 : GeoA ρ o7 := ga_fr T3 f7 (fun _ => rfl) (fun _ => rfl) (fun _ => rfl) (fun _ => rfl) (fun _ _ => rfl) ga3
  replace e := cl_s e
  obtain ⟨o8, e8, e⟩ := e
  obtain ⟨q8, _, n8⟩ := sat_e (zX2_isNumber (h := o7) (x0 := x0) hF (rg_b rfl : Rg 3 3 (3 : Int32)) (rg_b rfl : Rg 8 8 (8 : Int32))) e8
  rw [q8] at e
  replace e := br_s e
  rcases e with ⟨_, e⟩ | ⟨z8, e⟩
  · rw [← Option.some.inj e]; exact P7
  have i8 := n8 z8
  replace e := cl_s e
  obtain ⟨r10, e10, e⟩ := e
  rw [rz_l R T7 e10] at e
  replace e := cl_s e
  obtain ⟨o11, e11, e⟩ := e
  have i6 : Rg 3 8 v6 := by rw [w6]; exact i5
  have hB : pmO c (cw c L) [(32, 999), (33, 999), (2, 0), (2, 1), (2, 2)] := pmO_a hA rfl
  have Z := sat_e (zX1_setBoard (c := cat c (fS [] [(cw c L, [(32, 999), (33, 999), (2, 0), (2, 1), (2, 2)])]) o7) hF (fs_o (.head _)) rfl (th_in _ T7) rL i6 i8 ga7) e11
  have T11 : TH ρ c o11 := th_out T7 (fs_sub pmA_n (fs_c hB fs_n)) Z.1
  have K11 : Kf ρ [(32, 999), (33, 999), (2, 0), (2, 1), (2, 2)] o7 o11 := kf_of (fr_u T7 Z.1.2.2) rfl
  have sq := setB_x T7 rL (rg_m i6 (by decide)) (rg_m i8 (by decide)) e11
  have P11 : LwZ L o11 := by
    obtain ⟨a, b, d, s⟩ := P7
    refine ⟨by rw [kfI 3 K11 rL (by decide), kfI 4 K11 rL (by decide)]; exact a, by rw [kfI 3 K11 rL (by decide), kfI 6 K11 rL (by decide)]; exact b, fun bm bc em ec k hk => ?_, sq⟩
    rw [kfI 3 K11 rL (by decide)]
    rw [kfR 17 K11 rL (by decide)] at em
    rw [kfR 18 K11 rL (by decide)] at ec
    have rm : ρ bm = 30 := rr T7 (thR T7 rL (i := 17) (k2 := 30) rfl (by decide)) em
    have rc : ρ bc = 31 := rr T7 (thR T7 rL (i := 18) (k2 := 31) rfl (by decide)) ec
    rw [kfI k K11 rc (by decide)]
    refine ⟨(d bm bc em ec k hk).1, fun i hi => ?_⟩
    rw [kfI _ K11 rm (by decide)]
    exact (d bm bc em ec k hk).2 i hi
  replace e := cl_s e
  obtain ⟨o12, e12, e⟩ := e
  obtain ⟨T12, P12⟩ := lz_adv hF R (pmA_s hA rfl) T11 P11 e12
  replace e := cl_s e
  obtain ⟨o13, e13, e⟩ := e
  rw [← Option.some.inj (gd_s e).2]
  exact (lz_end hF R (pmA_s hA rfl) T12 P12 e13).2
abbrev RDL : List (Nat × Nat) := [(27, 999), (28, 999), (29, 999), (30, 999), (31, 999), (2, 3), (2, 4), (2, 5), (2, 6), (2, 7), (2, 8), (2, 9), (2, 10), (2, 11), (2, 12), (2, 13), (3, 2), (3, 3), (3, 4), (3, 5), (3, 6)]
theorem lz_94 {K : Hp → Nat → Int32 → Int32 → Option (Int32 × Hp)} {o : Int32 × Hp} {t0 x4 : Int32} (hF : 700000 ≤ F) (R : RZ ρ c x0 L) (hA : pmA c ADL) (ih : ∀ {h : Hp} {v w : Int32}, TH ρ c h → LwZ L h → K h x0 v w = some o → LwZ L o.2) (T : TH ρ c h) (P : LwZ L h) (e : sX2_read_94 F K h x0 x4 t0 = some o) : LwZ L o.2 := by
  unfold sX2_read_94 sX2_read_110 sX2_read_111 at e
  replace e := br_s e
  rcases e with ⟨_, e⟩ | ⟨_, e⟩
  · replace e := nm_s e
    obtain ⟨_, _, e⟩ := e
    exact ih T P e
  replace e := cl_s e
  obtain ⟨o2, e2, e⟩ := e
  obtain ⟨T2, P2⟩ := lz_end hF R hA T P e2
  replace e := br_s e
  rcases e with ⟨_, e⟩ | ⟨_, e⟩
  · replace e := nm_s e
    obtain ⟨_, _, e⟩ := e
    exact ih T2 P2 e
  · replace e := nm_s e
    obtain ⟨_, _, e⟩ := e
    exact ih T2 P2 e
theorem lz_39 (hF : 700000 ≤ F) (R : RZ ρ c x0 L) (hA : pmA c RDL) : ∀ (f : Nat) {h : Hp} {o : Int32 × Hp} {x3 x4 : Int32}, TH ρ c h → LwZ L h → sX2_read_39 F f h x0 x3 x4 = some o → LwZ L o.2 := by
  have r0 := R.2.2.1
  intro f
  induction f with
  | zero => intro h o x3 x4 _ _ e; exact absurd e (by rw [sX2_read_39]; exact fun z => nomatch z)
  | succ f ih =>
    intro h o x3 x4 T P e
    rw [sX2_read_39] at e
    have fin : sX2_read_118 F h x0 x3 = some o → LwZ L o.2 := fun e => by
      unfold sX2_read_118 sX2_read_133 sX2_read_134 at e
      replace e := br_s e
      rcases e with ⟨_, e⟩ | ⟨_, e⟩
      · rw [← Option.some.inj (gd_s e).2]; exact P
      replace e := br_s e
      rcases e with ⟨_, e⟩ | ⟨_, e⟩
      · rw [← Option.some.inj (gd_s e).2]; exact P
      · rw [← Option.some.inj (gd_s e).2]; exact P
    replace e := br_s e
    rcases e with ⟨_, e⟩ | ⟨_, e⟩
    · exact fin e
    replace e := br_s e
    rcases e with ⟨_, e⟩ | ⟨_, e⟩
    · exact fin e
    replace e := br_s e
    rcases e with ⟨_, e⟩ | ⟨_, e⟩
    · exact fin e
    replace e := cl_s e
    obtain ⟨o4, e4, e⟩ := e
    rw [(sat_e (zX2_isWord hF R.1 T r0) e4).1] at e
    replace e := br_s e
    rcases e with ⟨_, e⟩ | ⟨_, e⟩
    · replace e := cl_s e
      obtain ⟨o6, e6, e⟩ := e
      rw [(sat_e (zX2_isWord hF R.1 T r0) e6).1] at e
      replace e := br_s e
      rcases e with ⟨_, e⟩ | ⟨_, e⟩
      · replace e := cl_s e
        obtain ⟨o8, e8, e⟩ := e
        have T8 := (sat_e (zX2_takeOther hF R.1 R.2.1 (pmA_s hA rfl) T r0) e8).1
        exact lz_94 hF R (pmA_s hA rfl) (fun T P e => ih T P e) T8 (lz_other hF R (pmA_s hA rfl) T P e8) e
      · replace e := cl_s e
        obtain ⟨o8, e8, e⟩ := e
        have T8 := (sat_e (zX2_takeBecomes hF R.1 R.2.1 (pmA_s hA rfl) T r0) e8).1
        exact lz_94 hF R (pmA_s hA rfl) (fun T P e => ih T P e) T8 (lz_becomes hF R (pmA_s hA rfl) T P e8) e
    · replace e := cl_s e
      obtain ⟨o8, e8, e⟩ := e
      have T8 := (sat_e (zX2_takeMan hF R.1 R.2.1 (pmA_s hA rfl) T r0) e8).1
      exact lz_94 hF R (pmA_s hA rfl) (fun T P e => ih T P e) T8 (lz_man hF R (pmA_s hA rfl) T P e8) e
/-- a law that is cleared -/
theorem lz_clear (T : TH ρ c h) (rL : ρ L = 2) (e : sX1_clear F h L = some o) : LwZ L o := by
  unfold sX1_clear at e
  replace e := nm_s e; obtain ⟨h1, w1, e⟩ := e
  replace e := nm_s e; obtain ⟨h2, w2, e⟩ := e
  replace e := nm_s e; obtain ⟨h3, w3, e⟩ := e
  replace e := nm_s e; obtain ⟨h4, w4, e⟩ := e
  replace e := nm_s e; obtain ⟨h5, w5, e⟩ := e
  replace e := nm_s e; obtain ⟨h6, w6, e⟩ := e
  replace e := nm_s e; obtain ⟨h7, w7, e⟩ := e
  replace e := nm_s e; obtain ⟨h8, w8, e⟩ := e
  replace e := nm_s e; obtain ⟨h9, w9, e⟩ := e
  replace e := nm_s e; obtain ⟨h10, w10, e⟩ := e
  replace e := nm_s e; obtain ⟨h11, w11, e⟩ := e
  replace e := nm_s e; obtain ⟨h12, w12, e⟩ := e
  replace e := nm_s e; obtain ⟨h13, w13, e⟩ := e
  replace e := nm_s e; obtain ⟨h14, w14, e⟩ := e
  have J14 : ∀ i, hI h14 L i = hI h13 L i := fun i => by rw [w14]; rfl
  have f4 : hI h14 L 4 = -1 := by rw [J14, w13, rI_s]
  have f6 : hI h14 L 6 = -1 := by rw [J14, w13, rI_o (by decide), w12, rI_o (by decide), w11, rI_s]
  have f0 : hI h14 L 0 = 0 := by rw [J14, w13, rI_o (by decide), w12, rI_o (by decide), w11, rI_o (by decide), w10, rI_s]
  have f1 : hI h14 L 1 = 0 := by rw [J14, w13, rI_o (by decide), w12, rI_o (by decide), w11, rI_o (by decide), w10, rI_o (by decide), w9, rI_s]
  have f2 : hI h14 L 2 = 0 := by rw [J14, w13, rI_o (by decide), w12, rI_o (by decide), w11, rI_o (by decide), w10, rI_o (by decide), w9, rI_o (by decide), w8, rI_s]
  have f3 : hI h14 L 3 = 0 := by rw [J14, w13, rI_o (by decide), w12, rI_o (by decide), w11, rI_o (by decide), w10, rI_o (by decide), w9, rI_o (by decide), w8, rI_o (by decide), w7, rI_s]
  have R14 : ∀ a i, hR h14 a i = hR h a i := fun a i => by rw [w14, hR_wJ, w13, hR_wI, w12, hR_wI, w11, hR_wI, w10, hR_wI, w9, hR_wI, w8, hR_wI, w7, hR_wI, w6, hR_wI, w5, hR_wI, w4, hR_wI, w3, hR_wI, w2, hR_wI, w1, hR_wI]
  have N14 : ∀ a, hN h14 a = hN h a := fun a => by rw [w14, hN_wJ, w13, hN_wI, w12, hN_wI, w11, hN_wI, w10, hN_wI, w9, hN_wI, w8, hN_wI, w7, hN_wI, w6, hN_wI, w5, hN_wI, w4, hN_wI, w3, hN_wI, w2, hN_wI, w1, hN_wI]
  clear w1 w2 w3 w4 w5 w6 w7 w8 w9 w10 w11 w12 w13 w14 J14
  replace e := cl_s e
  obtain ⟨r15, e15, e⟩ := e
  rw [R14] at e15
  have q15 : ρ r15 = 29 := rr T (thR T rL (i := 16) (k2 := 29) rfl (by decide)) e15
  replace e := cl_s e
  obtain ⟨o16, e16, e⟩ := e
  unfold sJ7_fill_53178 at e16
  have n15 : hN h14 r15 = 12 := by rw [N14]; exact thN T q15 (k := 29) (n := 12) rfl (by decide)
  have e16' : sJ7_fill_53178_5 F F h14 r15 (0 : Int32) (0 : Int32) (nI 12) = some o16 := by rw [← n15]; exact e16
  obtain ⟨⟨g16, m16⟩, k16, _, _⟩ := fI (by decide) F (by decide) e16'
  replace e := cl_s e
  obtain ⟨r17, e17, e⟩ := e
  rw [g16, R14] at e17
  have q17 : ρ r17 = 31 := rr T (thR T rL (i := 18) (k2 := 31) rfl (by decide)) e17
  replace e := cl_s e
  obtain ⟨o18, e18, e⟩ := e
  unfold sJ7_fill_53178 at e18
  have n17 : hN o16 r17 = 12 := by rw [m16, N14]; exact thN T q17 (k := 31) (n := 12) rfl (by decide)
  have e18' : sJ7_fill_53178_5 F F o16 r17 (0 : Int32) (0 : Int32) (nI 12) = some o18 := by rw [← n17]; exact e18
  obtain ⟨⟨g18, m18⟩, k18, _, v18⟩ := fI (by decide) F (by decide) e18'
  have z := Option.some.inj e
  subst z
  have IL : ∀ i, hI o18 L i = hI h14 L i := fun i => by
    rw [k18 L i (fun z => by rw [z, q17] at rL; exact absurd rL (by decide)), k16 L i (fun z => by rw [z, q15] at rL; exact absurd rL (by decide))]
  refine ⟨by rw [IL, IL, f4, f3]; decide, by rw [IL, IL, f6, f3]; decide, fun bm bc em ec k hk => ?_, by rw [IL, IL, IL, f0, f1, f2]; decide⟩
  rw [g18, g16, R14] at ec
  have y : bc = r17 := r_eq e17 ec
  subst y
  have v0 : hI o18 bc k = 0 := v18 k (by show (0 : Int) ≤ _; omega) hk
  rw [v0]
  exact ⟨by decide, fun i hi => absurd hi (by show ¬ (i : Int) < 0; omega)⟩
abbrev RFL : List (Nat × Nat) := [(27, 999), (28, 999), (29, 999), (30, 999), (31, 999), (32, 999), (33, 999), (2, 0), (2, 1), (2, 2), (2, 3), (2, 4), (2, 5), (2, 6), (2, 7), (2, 8), (2, 9), (2, 10), (2, 11), (2, 12), (2, 13), (3, 2), (3, 3), (3, 4), (3, 5), (3, 6)]
abbrev RGL : List (Nat × Nat) := (3, 0) :: (3, 1) :: RFL
theorem lz_rest {o : Int32 × Hp} (hF : 700000 ≤ F) (R : RZ ρ c x0 L) (hA : pmA c RFL) (T : TH ρ c h) (ga : GeoA ρ h) (e : (cl (hR h x0 1) fun r_3 => cl (sX1_clear F h r_3) fun o_4 => nm (wI o_4 x0 3 (0 : Int32)) fun h_5 => nm (wI h_5 x0 6 (0 : Int32)) fun h_6 => cl (sX2_advance F h_6 x0) fun o_7 => cl (sX2_takeBoard F o_7 x0) fun o_8 => sX2_read_39 F F o_8.2 x0 o_8.1 (0 : Int32)) = some o) : LwZ L o.2 ∧ TH ρ c o.2 ∧ GeoA ρ o.2 := by
  have rL := R.2.2.2.1
  have r0 := R.2.2.1
  replace e := cl_s e
  obtain ⟨r3, e3, e⟩ := e
  rw [rz_l R T e3] at e
  replace e := cl_s e
  obtain ⟨o4, e4, e⟩ := e
  have P4 := lz_clear T rL e4
  have Z4 := sat_e (zX1_clear (w_x0 := cw c L) hF (pmO_a hA rfl) rfl T rL ga) e4
  have T4 := Z4.1
  have ga4 := Z4.2
  replace e := nm_s e
  obtain ⟨h5, w5, e⟩ := e
  have T5 : TH ρ c h5 := by rw [w5]; exact th_wI T4 r0 (k := 3) (lo := 0) (hi := 1201) rfl (rg_m (rg_b rfl : Rg 0 0 (0 : Int32)) (by decide)) (by decide) (by decide) (pm_a hA rfl)
  have P5 : LwZ L h5 := by rw [w5]; exact lz_w3 r0 T4 rL P4
  have ga5 : GeoA ρ h5 := ga_fr T4 (fr1I (A := [(3, 3)]) r0 rfl w5) (fun _ => rfl) (fun _ => rfl) (fun _ => rfl) (fun _ => rfl) (fun _ _ => rfl) ga4
  replace e := nm_s e
  obtain ⟨h6, w6, e⟩ := e
  have T6 : TH ρ c h6 := by rw [w6]; exact th_wI T5 r0 (k := 3) (lo := 0) (hi := 1023) rfl (rg_m (rg_b rfl : Rg 0 0 (0 : Int32)) (by decide)) (by decide) (by decide) (pm_a hA rfl)
  have P6 : LwZ L h6 := by rw [w6]; exact lz_w3 r0 T5 rL P5
  have ga6 : GeoA ρ h6 := ga_fr T5 (fr1I (A := [(3, 6)]) r0 rfl w6) (fun _ => rfl) (fun _ => rfl) (fun _ => rfl) (fun _ => rfl) (fun _ _ => rfl) ga5
  replace e := cl_s e
  obtain ⟨o7, e7, e⟩ := e
  obtain ⟨T7, P7⟩ := lz_adv hF R (pmA_s hA rfl) T6 P6 e7
  have f7 := fr_u T6 (sat_e (zX2_advance hF (cat_m R.1) fs_a (th_in (fS ADL []) T6) r0) e7).2.2
  have ga7 : GeoA ρ o7 := ga_fr T6 f7 (fun _ => rfl) (fun _ => rfl) (fun _ => rfl) (fun _ => rfl) (fun _ _ => rfl) ga6
  replace e := cl_s e
  obtain ⟨o8, e8, e⟩ := e
  have P8 := lz_board hF R (pmA_s hA rfl) T7 ga7 P7 e8
  have Z8 := sat_e (zX2_takeBoard hF R.1 R.2.1 (pmA_s hA rfl) T7 r0 ga7) e8
  have T8 := Z8.1.1
  have Z := sat_e (zX2_read_39 hF R.1 R.2.1 (pmA_s hA rfl) F T8 r0 Z8.1.2 (rg_b rfl) Z8.2 (by show (1200 - (0 : Int)).toNat < F; omega)) e
  exact ⟨lz_39 hF R (pmA_s hA rfl) F T8 P8 e, Z.1.1, Z.2⟩
/-- the rest of reading, that it answers -/
theorem rest_z (hF : 700000 ≤ F) (R : RZ ρ c x0 L) (hA : pmA c RFL) (T : TH ρ c h) (ga : GeoA ρ h) : Sat (cl (hR h x0 1) fun r_3 => cl (sX1_clear F h r_3) fun o_4 => nm (wI o_4 x0 3 (0 : Int32)) fun h_5 => nm (wI h_5 x0 6 (0 : Int32)) fun h_6 => cl (sX2_advance F h_6 x0) fun o_7 => cl (sX2_takeBoard F o_7 x0) fun o_8 => sX2_read_39 F F o_8.2 x0 o_8.1 (0 : Int32)) (fun o => Rg 0 1 o.1) := by
  have r0 := R.2.2.1
  obtain ⟨r3, e3, q3⟩ := thM T r0 (i := 1) (j := 2) (k2 := 2) rfl (by decide) rfl (by decide) R.2.1
  refine s_ref e3 ?_
  refine s_cVq (zX1_clear hF (pmO_a hA rfl) rfl T q3 ga) (fun o4 T4 ga4 => ?_)
  refine s_hq (th_wI T4 r0 (k := 3) (lo := 0) (hi := 1201) rfl (rg_m (rg_b rfl : Rg 0 0 (0 : Int32)) (by decide)) (by decide) (by decide) (pm_a hA rfl)) (fun h5 T5 w5 => ?_)
  refine s_hq (th_wI T5 r0 (k := 3) (lo := 0) (hi := 1023) rfl (rg_m (rg_b rfl : Rg 0 0 (0 : Int32)) (by decide)) (by decide) (by decide) (pm_a hA rfl)) (fun h6 T6 w6 => ?_)
  have ga6 : GeoA ρ h6 := ga_fr T5 (fr1I (A := [(3, 6)]) r0 rfl w6) (fun _ => rfl) (fun _ => rfl) (fun _ => rfl) (fun _ => rfl) (fun _ _ => rfl) (ga_fr T4 (fr1I (A := [(3, 3)]) r0 rfl w5) (fun _ => rfl) (fun _ => rfl) (fun _ => rfl) (fun _ => rfl) (fun _ _ => rfl) ga4)
  refine s_cVf (S := fS ADL []) T6 (fs_sub (pmA_s hA rfl) fs_n) (zX2_advance hF (cat_m R.1) fs_a (th_in _ T6) r0) (fun o7 T7 f7 => ?_)
  have ga7 : GeoA ρ o7 := ga_fr T6 f7 (fun _ => rfl) (fun _ => rfl) (fun _ => rfl) (fun _ => rfl) (fun _ _ => rfl) ga6
  refine s_cIq (zX2_takeBoard hF R.1 R.2.1 (pmA_s hA rfl) T7 r0 ga7) (fun o8 T8 i8 ga8 => ?_)
  exact s_imp (zX2_read_39 hF R.1 R.2.1 (pmA_s hA rfl) F T8 r0 i8 (rg_b rfl) ga8 (by show (1200 - (0 : Int)).toNat < F; omega)) (fun o ho => ho.1.2)
end
end
section
/-! reading a law: what it leaves, and that the law keeps to itself -/
section
variable {ρ : Nat → Nat} {c : Cm} {h o g : Hp} {x0 x1 x2 L F v : Nat}
theorem rtS_f : pmA (cat c rtS h) RFL := fun w k i m => by
  show rtS k w i = true
  unfold mS at m
  rw [List.any_eq_true] at m
  obtain ⟨p, hp, hm⟩ := m
  rw [Bool.and_eq_true, Bool.or_eq_true, beq_iff_eq, beq_iff_eq, beq_iff_eq] at hm
  obtain ⟨hk, hi⟩ := hm
  rw [← hk]
  simp only [List.mem_cons, List.not_mem_nil, or_false] at hp
  rcases hp with z | z | z | z | z | z | z | z | z | z | z | z | z | z | z | z | z | z | z | z | z | z | z | z | z | z <;> (subst z; first | rfl | (rcases hi with y | y; exact absurd y (by decide); rw [← y]; rfl))
def rdS (v k w _i : Nat) : Bool := k == 3 || ((k == 2 || (decide (27 ≤ k) && decide (k ≤ 33))) && w == v)
theorem rdS_n {k w i : Nat} (s : rdS v k w i = false) : k ≠ 3 ∧ ¬ ((k = 2 ∨ (27 ≤ k ∧ k ≤ 33)) ∧ w = v) := by
  unfold rdS at s
  rw [Bool.or_eq_false_iff, beq_eq_false_iff_ne] at s
  refine ⟨s.1, fun ⟨a, b⟩ => ?_⟩
  have : ((k == 2 || (decide (27 ≤ k) && decide (k ≤ 33))) && w == v) = true := by
    rw [b, beq_self_eq_true, Bool.and_true]
    rcases a with z | ⟨z1, z2⟩
    · rw [z]; rfl
    · rw [decide_eq_true z1, decide_eq_true z2, Bool.and_true, Bool.or_true]
  rw [s.2] at this
  exact absurd this (by decide)
theorem read_r (hF : 700000 ≤ F) (hA : pmA c RGL) (T : TH ρ c h) (r0 : ρ x0 = 3) (r1 : ρ x1 = 10) (r2 : ρ x2 = 2) (w2 : cw c x2 = v) (gs : GeoS x2 h) : Sat (sX2_read F h x0 x1 x2) (fun o => TH ρ c o.2 ∧ Rg 0 1 o.1 ∧ LwZ x2 o.2 ∧ GeoS x2 o.2 ∧ Fr ρ (cat c (rdS v) h) h o.2) := by
  unfold sX2_read
  refine s_hq (th_wR T r0 (k := 3) (i := 0) (j := 1) (k2 := 10) rfl (by decide) rfl (by decide) r1 rfl nid_1 (by decide) (by decide) rfl rfl (fun z => absurd rfl z) (pm_a hA rfl)) (fun h1 T1 w1 => ?_)
  refine s_hq (th_wR T1 r0 (k := 3) (i := 1) (j := 2) (k2 := 2) rfl (by decide) rfl (by decide) r2 rfl nid_2 (by decide) (by decide) rfl rfl (fun z => absurd rfl z) (pm_a hA rfl)) (fun h2 T2 w2' => ?_)
  have one : ∀ a, ρ a = 3 → a = x0 := fun a ra => T.1.2.2.2.2.2.2.2.2 a x0 (by rw [ra, r0]) (Or.inl (by rw [ra]; rfl))
  have lw : ∀ a r, ρ a = 3 → hR h2 a 1 = some r → cw (nst (nst c 1) 2) r = v := fun a r ra er => by
    rw [one a ra, w2', r_R, if_pos ⟨rfl, rfl⟩] at er
    rw [← Option.some.inj er]; exact w2
  have T' := retype (v := v) T2 lw
  have k0 : rtp ρ (nst (nst c 1) 2) v x0 = 3 := (rtp_y (c := nst (nst c 1) 2) (Or.inl r0)).trans r0
  have k2 : rtp ρ (nst (nst c 1) 2) v x2 = 2 := (rtp_y (c := nst (nst c 1) 2) (Or.inr (Or.inr (Or.inr ⟨Or.inl r2, w2⟩)))).trans r2
  have law : ∀ a, rtp ρ (nst (nst c 1) 2) v a = 2 → a = x2 := fun a ra => by
    obtain ⟨q1, q2⟩ := rtp_k ra (by decide) (by decide)
    have wa : cw c a = v := by
      have := rcn_r q1 q2
      rcases this with z | z | z | ⟨_, z⟩
      · exact absurd z (by decide)
      · exact absurd z (by decide)
      · exact absurd z (by decide)
      · exact z
    exact T.1.2.2.2.2.2.2.2.2 a x2 (by rw [q1, r2]) (Or.inr ⟨Or.inr q1, by rw [wa, w2]⟩)
  have R : RZ (rtp ρ (nst (nst c 1) 2) v) (cat (nst (nst c 1) 2) rtS h2) x0 x2 := ⟨cat_m (nst_o nst_s), cat_m nst_s, k0, k2, law⟩
  have gs2 : GeoS x2 h2 := fun fo ef hc i hi => by
    have ef' : hR h x2 19 = some fo := by
      rw [w2', r_R, if_neg (ne_r r2 r0 (by decide)), w1, r_R, if_neg (ne_r r2 r0 (by decide))] at ef
      exact ef
    have k : ∀ a j, hI h2 a j = hI h a j := fun a j => by rw [w2', w1]; rfl
    rw [k, k, k] at hc
    rw [k]
    exact gs fo ef' hc i hi
  have ga2 : GeoA (rtp ρ (nst (nst c 1) 2) v) h2 := fun L rL => by rw [law L rL]; exact gs2
  have hA' : pmA (cat (nst (nst c 1) 2) rtS h2) RFL := rtS_f
  obtain ⟨o, e, i1⟩ := rest_z hF R hA' T' ga2
  obtain ⟨q1, q2, q3⟩ := lz_rest hF R hA' T' ga2 e
  have hs : ∀ k w i, rtS k w i = true → cPm (nst (nst c 1) 2) k w i = true := fun k w i m => by
    show cPm c k w i = true
    unfold rtS at m
    rw [Bool.or_eq_true, Bool.or_eq_true, Bool.and_eq_true, Bool.and_eq_true, Bool.and_eq_true, beq_iff_eq, beq_iff_eq, Bool.and_eq_true, decide_eq_true_eq, decide_eq_true_eq, decide_eq_true_eq, decide_eq_true_eq, decide_eq_true_eq] at m
    rcases m with (⟨a, b⟩ | ⟨a, b⟩) | ⟨a, b⟩
    · have : i = 2 ∨ i = 3 ∨ i = 4 ∨ i = 5 ∨ i = 6 := by omega
      rcases this with z | z | z | z | z <;> (rw [a, z]; exact hA w 3 _ rfl)
    · have : i = 0 ∨ i = 1 ∨ i = 2 ∨ i = 3 ∨ i = 4 ∨ i = 5 ∨ i = 6 ∨ i = 7 ∨ i = 8 ∨ i = 9 ∨ i = 10 ∨ i = 11 ∨ i = 12 ∨ i = 13 := by omega
      rcases this with z | z | z | z | z | z | z | z | z | z | z | z | z | z <;> (rw [a, z]; exact hA w 2 _ rfl)
    · have : k = 27 ∨ k = 28 ∨ k = 29 ∨ k = 30 ∨ k = 31 ∨ k = 32 ∨ k = 33 := by omega
      rcases this with z | z | z | z | z | z | z <;> (rw [z]; exact hA w _ i rfl)
  obtain ⟨To, same, sN⟩ := unretype T2 hs q2
  refine ⟨o, e, th_un (th_un To), i1, q1, q3 x2 k2, fun a i a0 as => ?_, fun a a0 => (sN a a0).trans (by rw [w2', w1]; rfl)⟩
  obtain ⟨a3, an⟩ := rdS_n (show rdS v (ρ a) (cw c a) i = false from as)
  obtain ⟨s1, s2, s3⟩ := same a i a0 (fun ⟨q, w⟩ => by
    rcases q with q | q | q | q
    · exact a3 q
    · rw [q] at w; exact absurd w (by simp [rtS])
    · rw [q] at w; exact absurd w (by simp [rtS])
    · exact an q)
  have nx : ¬ a = x0 := fun z => a3 (by rw [z]; exact r0)
  refine ⟨s1.trans (by rw [w2', w1]; rfl), s2.trans (by rw [w2', w1]; rfl), s3.trans ?_⟩
  rw [w2', r_R, if_neg (fun z => nx z.1), w1, r_R, if_neg (fun z => nx z.1)]
end
end
