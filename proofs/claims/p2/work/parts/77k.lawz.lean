/-! a law that is read keeps to itself: royal, castle, what men become are men that were told -/
theorem sS_r (A : List (Nat × Nat)) : sS A A = true := by
  unfold sS
  rw [List.all_eq_true]
  intro p hp
  rw [List.any_eq_true]
  exact ⟨p, hp, by rw [beq_self_eq_true, beq_self_eq_true, Bool.or_true]; rfl⟩
theorem rI_s {h : Hp} {a i : Nat} {v : Int32} : hI (wI h a i v) a i = v := by rw [r_I, if_pos ⟨rfl, rfl⟩]
theorem rI_o {h : Hp} {a b i j : Nat} {v : Int32} (n : ¬ i = j) : hI (wI h b j v) a i = hI h a i := by rw [r_I, if_neg (fun z => n z.2)]
theorem rI_a {h : Hp} {a b i j : Nat} {v : Int32} (n : ¬ a = b) : hI (wI h b j v) a i = hI h a i := by rw [r_I, if_neg (fun z => n z.1)]
abbrev ADL : List (Nat × Nat) := [(3, 2), (3, 3), (3, 4), (3, 5)]
section
variable {ρ : Nat → Nat} {c : Cm} {h o g : Hp} {x0 L F : Nat} {x1 x2 : Int32} {A : List (Nat × Nat)} {lo hi : Int}
theorem kzI {m : Option (Int32 × Hp)} {o : Int32 × Hp} (T : TH ρ c h) (hA : pmA c A) (Z : Sat m (ZI ρ (cat c (fS A []) h) lo hi)) (e : m = some o) : TH ρ c o.2 ∧ Rg lo hi o.1 ∧ Kf ρ A h o.2 := by
  have z := sat_e Z e
  exact ⟨th_out T (fs_sub hA fs_n) z.1, z.2, kf_of (fr_u T z.1.2.2) (by rw [sS_r]; rfl)⟩
theorem kzV {m : Option Hp} {o : Hp} (T : TH ρ c h) (hA : pmA c A) (Z : Sat m (ZV ρ (cat c (fS A []) h))) (e : m = some o) : TH ρ c o ∧ Kf ρ A h o := by
  have z := sat_e Z e
  exact ⟨th_out T (fs_sub hA fs_n) z, kf_of (fr_u T z.2.2) (by rw [sS_r]; rfl)⟩
def LwZ (L : Nat) (h : Hp) : Prop := (hI h L 4).toInt < (hI h L 3).toInt ∧ (hI h L 6).toInt < (hI h L 3).toInt ∧ (∀ bm bc, hR h L 17 = some bm → hR h L 18 = some bc → BcX bm bc (hI h L 3).toInt h) ∧ (hI h L 0).toInt * (hI h L 1).toInt = (hI h L 2).toInt
theorem lz_k {E : List (Nat × Nat)} (T : TH ρ c h) (rL : ρ L = 2) (K : Kf ρ E h o) (P : LwZ L h) (y0 : mS E 2 0 = false := by rfl) (y1 : mS E 2 1 = false := by rfl) (y2 : mS E 2 2 = false := by rfl) (y3 : mS E 2 3 = false := by rfl) (y4 : mS E 2 4 = false := by rfl) (y6 : mS E 2 6 = false := by rfl) (y17 : mS E 2 17 = false := by rfl) (y18 : mS E 2 18 = false := by rfl) (y30 : ∀ i, mS E 30 i = false := by intro _; rfl) (y31 : ∀ i, mS E 31 i = false := by intro _; rfl) : LwZ L o := by
  obtain ⟨a, b, d, s⟩ := P
  refine ⟨?_, ?_, fun bm bc em ec k hk => ?_, ?_⟩
  · rw [kfI 3 K rL (by decide) y3, kfI 4 K rL (by decide) y4]; exact a
  · rw [kfI 3 K rL (by decide) y3, kfI 6 K rL (by decide) y6]; exact b
  · rw [kfI 3 K rL (by decide) y3]
    rw [kfR 17 K rL (by decide) y17] at em
    rw [kfR 18 K rL (by decide) y18] at ec
    have rm : ρ bm = 30 := rr T (thR T rL (i := 17) (k2 := 30) rfl (by decide)) em
    have rc : ρ bc = 31 := rr T (thR T rL (i := 18) (k2 := 31) rfl (by decide)) ec
    rw [kfI k K rc (by decide) (y31 k)]
    refine ⟨(d bm bc em ec k hk).1, fun i hi => ?_⟩
    rw [kfI _ K rm (by decide) (y30 _)]
    exact (d bm bc em ec k hk).2 i hi
  · rw [kfI 0 K rL (by decide) y0, kfI 1 K rL (by decide) y1, kfI 2 K rL (by decide) y2]; exact s
/-- the law's own field is written, not one of those -/
theorem lz_w {j : Nat} {v : Int32} (T : TH ρ c h) (rL : ρ L = 2) (n : ¬ (j = 0 ∨ j = 1 ∨ j = 2 ∨ j = 3 ∨ j = 4 ∨ j = 6)) (P : LwZ L h) : LwZ L (wI h L j v) := by
  have k : ∀ i, i = 0 ∨ i = 1 ∨ i = 2 ∨ i = 3 ∨ i = 4 ∨ i = 6 → hI (wI h L j v) L i = hI h L i := fun i hi => rI_o (by intro z; rw [z] at hi; exact n hi)
  obtain ⟨a, b, d, s⟩ := P
  refine ⟨by rw [k 4 (by decide), k 3 (by decide)]; exact a, by rw [k 6 (by decide), k 3 (by decide)]; exact b, fun bm bc em ec q hq => ?_, by rw [k 0 (by decide), k 1 (by decide), k 2 (by decide)]; exact s⟩
  have rm : ρ bm = 30 := rr T (thR T rL (i := 17) (k2 := 30) rfl (by decide)) em
  have rc : ρ bc = 31 := rr T (thR T rL (i := 18) (k2 := 31) rfl (by decide)) ec
  rw [k 3 (by decide), rI_a (fun z => by rw [z, rL] at rc; exact absurd rc (by decide))]
  refine ⟨(d bm bc em ec q hq).1, fun i hi => ?_⟩
  rw [rI_a (fun z => by rw [z, rL] at rm; exact absurd rm (by decide))]
  exact (d bm bc em ec q hq).2 i hi
theorem lz_w3 {j : Nat} {v : Int32} (r0 : ρ x0 = 3) (T : TH ρ c h) (rL : ρ L = 2) (P : LwZ L h) : LwZ L (wI h x0 j v) := by
  have k : ∀ {a q : Nat} (i : Nat), ρ a = q → q ≠ 3 → hI (wI h x0 j v) a i = hI h a i := fun {a q} i ra hq => rI_a (fun z => hq (by rw [← ra, z]; exact r0))
  obtain ⟨a, b, d, s⟩ := P
  refine ⟨by rw [k 4 rL (by decide), k 3 rL (by decide)]; exact a, by rw [k 6 rL (by decide), k 3 rL (by decide)]; exact b, fun bm bc em ec q hq => ?_, by rw [k 0 rL (by decide), k 1 rL (by decide), k 2 rL (by decide)]; exact s⟩
  have rm : ρ bm = 30 := rr T (thR T rL (i := 17) (k2 := 30) rfl (by decide)) em
  have rc : ρ bc = 31 := rr T (thR T rL (i := 18) (k2 := 31) rfl (by decide)) ec
  rw [k 3 rL (by decide), k q rc (by decide)]
  refine ⟨(d bm bc em ec q hq).1, fun i hi => ?_⟩
  rw [k _ rm (by decide)]
  exact (d bm bc em ec q hq).2 i hi
/-- what a reader of one law stands on -/
def RZ (ρ : Nat → Nat) (c : Cm) (x0 L : Nat) : Prop := c.2.1 1 = true ∧ c.2.1 2 = true ∧ ρ x0 = 3 ∧ ρ L = 2 ∧ ∀ a, ρ a = 2 → a = L
theorem rz_l {r : Nat} (R : RZ ρ c x0 L) (T : TH ρ c h) (e : hR h x0 1 = some r) : r = L := R.2.2.2.2 r (rr T (thM T R.2.2.1 (i := 1) (j := 2) (k2 := 2) rfl (by decide) rfl (by decide) R.2.1) e)
theorem lz_adv (hF : 700000 ≤ F) (R : RZ ρ c x0 L) (hA : pmA c ADL) (T : TH ρ c h) (P : LwZ L h) (e : sX2_advance F h x0 = some o) : TH ρ c o ∧ LwZ L o := by
  obtain ⟨T1, K1⟩ := kzV (A := ADL) T hA (zX2_advance hF (cat_m R.1) fs_a (th_in _ T) R.2.2.1) e
  exact ⟨T1, lz_k T R.2.2.2.1 K1 P⟩
theorem told_q {o : Int32 × Hp} (hF : 700000 ≤ F) (R : RZ ρ c x0 L) (T : TH ρ c h) (e : sX2_toldMan F h x0 = some o) : o.2 = h ∧ (o.1 = (-1 : Int32) ∨ (0 ≤ o.1.toInt ∧ o.1.toInt < (hI h L 3).toInt)) := by
  unfold sX2_toldMan sX2_toldMan_22 at e
  replace e := cl_s e
  obtain ⟨o1, e1, e⟩ := e
  rw [(sat_e (zX2_oneLetter hF R.1 T R.2.2.1) e1).1] at e
  replace e := br_s e
  rcases e with ⟨_, e⟩ | ⟨_, e⟩
  · rw [← Option.some.inj e]; exact ⟨rfl, Or.inl rfl⟩
  replace e := cl_s e
  obtain ⟨r3, e3, e⟩ := e
  have y3 := rz_l R T e3
  rw [y3] at e
  replace e := cl_s e
  obtain ⟨o4, e4, e⟩ := e
  rw [← Option.some.inj e]
  unfold sX1_manOf at e4
  exact man_2 F (by decide) e4
theorem lz_royal {o : Int32 × Hp} (hF : 700000 ≤ F) (R : RZ ρ c x0 L) (hA : pmA c ((2, 4) :: ADL)) (T : TH ρ c h) (P : LwZ L h) (e : sX2_takeRoyal F h x0 = some o) : LwZ L o.2 := by
  unfold sX2_takeRoyal sX2_takeRoyal_35 at e
  replace e := cl_s e
  obtain ⟨o1, e1, e⟩ := e
  obtain ⟨q1, v1⟩ := told_q hF R T e1
  rw [q1] at e
  replace e := br_s e
  rcases e with ⟨_, e⟩ | ⟨n1, e⟩
  · rw [← Option.some.inj e]; exact P
  have v1 := v1.resolve_left n1
  have m12 := thI T R.2.2.2.1 (k := 2) (i := 3) (lo := 0) (hi := 12) rfl
  have i1 : Rg 0 11 o1.1 := ⟨v1.1, by have := m12.2; omega⟩
  replace e := cl_s e
  obtain ⟨r3, e3, e⟩ := e
  rw [rz_l R T e3] at e
  replace e := cl_s e
  obtain ⟨o4, e4, e⟩ := e
  rw [(sat_e (zX1_becomesOthers hF T R.2.2.2.1 (rg_m i1 (by decide))) e4).1] at e
  replace e := br_s e
  rcases e with ⟨_, e⟩ | ⟨_, e⟩
  rotate_left
  · rw [← Option.some.inj e]; exact P
  replace e := cl_s e
  obtain ⟨r6, e6, e⟩ := e
  replace e := br_s e
  rcases e with ⟨_, e⟩ | ⟨_, e⟩
  rotate_left
  · rw [← Option.some.inj e]; exact P
  replace e := cl_s e
  obtain ⟨r8, e8, e⟩ := e
  rw [rz_l R T e8] at e
  replace e := nm_s e
  obtain ⟨h9, w9, e⟩ := e
  have T9 : TH ρ c h9 := by rw [w9]; exact th_wI T R.2.2.2.1 (k := 2) (lo := -1) (hi := 11) rfl (rg_m i1 (by decide)) (by decide) (by decide) (pm_a hA rfl)
  have P9 : LwZ L h9 := by
    obtain ⟨a, b, d, s⟩ := P
    have k : ∀ i, ¬ i = 4 → hI h9 L i = hI h L i := fun i ni => by rw [w9]; exact rI_o ni
    have kk : ∀ {a q : Nat} (i : Nat), ρ a = q → q ≠ 2 → hI h9 a i = hI h a i := fun {a q} i ra hq => by rw [w9]; exact rI_a (fun z => hq (by rw [← ra, z]; exact R.2.2.2.1))
    refine ⟨by rw [k 3 (by decide), w9, rI_s]; exact v1.2, by rw [k 6 (by decide), k 3 (by decide)]; exact b, fun bm bc em ec q hq => ?_, by rw [k 0 (by decide), k 1 (by decide), k 2 (by decide)]; exact s⟩
    have rm : ρ bm = 30 := rr T9 (thR T9 R.2.2.2.1 (i := 17) (k2 := 30) rfl (by decide)) em
    have rc : ρ bc = 31 := rr T9 (thR T9 R.2.2.2.1 (i := 18) (k2 := 31) rfl (by decide)) ec
    have em' : hR h L 17 = some bm := by rw [w9] at em; exact em
    have ec' : hR h L 18 = some bc := by rw [w9] at ec; exact ec
    rw [k 3 (by decide), kk q rc (by decide)]
    refine ⟨(d bm bc em' ec' q hq).1, fun i hi => ?_⟩
    rw [kk _ rm (by decide)]
    exact (d bm bc em' ec' q hq).2 i hi
  replace e := cl_s e
  obtain ⟨o10, e10, e⟩ := e
  rw [← Option.some.inj e]
  exact (lz_adv hF R (pmA_s hA rfl) T9 P9 e10).2
theorem lz_castle {o : Int32 × Hp} (hF : 700000 ≤ F) (R : RZ ρ c x0 L) (hA : pmA c ((2, 6) :: ADL)) (T : TH ρ c h) (P : LwZ L h) (e : sX2_takeCastle F h x0 = some o) : LwZ L o.2 := by
  unfold sX2_takeCastle sX2_takeCastle_21 at e
  replace e := cl_s e
  obtain ⟨o1, e1, e⟩ := e
  obtain ⟨q1, v1⟩ := told_q hF R T e1
  rw [q1] at e
  replace e := br_s e
  rcases e with ⟨_, e⟩ | ⟨n1, e⟩
  · rw [← Option.some.inj e]; exact P
  have v1 := v1.resolve_left n1
  have m12 := thI T R.2.2.2.1 (k := 2) (i := 3) (lo := 0) (hi := 12) rfl
  have i1 : Rg 0 11 o1.1 := ⟨v1.1, by have := m12.2; omega⟩
  replace e := cl_s e
  obtain ⟨r3, e3, e⟩ := e
  replace e := br_s e
  rcases e with ⟨_, e⟩ | ⟨_, e⟩
  · rw [← Option.some.inj e]; exact P
  replace e := cl_s e
  obtain ⟨r8, e8, e⟩ := e
  rw [rz_l R T e8] at e
  replace e := nm_s e
  obtain ⟨h9, w9, e⟩ := e
  have T9 : TH ρ c h9 := by rw [w9]; exact th_wI T R.2.2.2.1 (k := 2) (lo := -1) (hi := 11) rfl (rg_m i1 (by decide)) (by decide) (by decide) (pm_a hA rfl)
  have P9 : LwZ L h9 := by
    obtain ⟨a, b, d, s⟩ := P
    have k : ∀ i, ¬ i = 6 → hI h9 L i = hI h L i := fun i ni => by rw [w9]; exact rI_o ni
    have kk : ∀ {a q : Nat} (i : Nat), ρ a = q → q ≠ 2 → hI h9 a i = hI h a i := fun {a q} i ra hq => by rw [w9]; exact rI_a (fun z => hq (by rw [← ra, z]; exact R.2.2.2.1))
    refine ⟨by rw [k 4 (by decide), k 3 (by decide)]; exact a, by rw [k 3 (by decide), w9, rI_s]; exact v1.2, fun bm bc em ec q hq => ?_, by rw [k 0 (by decide), k 1 (by decide), k 2 (by decide)]; exact s⟩
    have rm : ρ bm = 30 := rr T9 (thR T9 R.2.2.2.1 (i := 17) (k2 := 30) rfl (by decide)) em
    have rc : ρ bc = 31 := rr T9 (thR T9 R.2.2.2.1 (i := 18) (k2 := 31) rfl (by decide)) ec
    have em' : hR h L 17 = some bm := by rw [w9] at em; exact em
    have ec' : hR h L 18 = some bc := by rw [w9] at ec; exact ec
    rw [k 3 (by decide), kk q rc (by decide)]
    refine ⟨(d bm bc em' ec' q hq).1, fun i hi => ?_⟩
    rw [kk _ rm (by decide)]
    exact (d bm bc em' ec' q hq).2 i hi
  replace e := cl_s e
  obtain ⟨o10, e10, e⟩ := e
  rw [← Option.some.inj e]
  exact (lz_adv hF R (pmA_s hA rfl) T9 P9 e10).2
abbrev ONL : List (Nat × Nat) := [(2, 4), (2, 6), (2, 7), (2, 8), (2, 9), (2, 10), (2, 11), (2, 13), (3, 2), (3, 3), (3, 4), (3, 5)]
theorem lz_once {o : Int32 × Hp} (hF : 700000 ≤ F) (R : RZ ρ c x0 L) (hA : pmA c ONL) (T : TH ρ c h) (P : LwZ L h) (e : sX2_takeOnce F h x0 x1 = some o) : LwZ L o.2 := by
  have rL := R.2.2.2.1
  unfold sX2_takeOnce sX2_takeOnce_180 sX2_takeOnce_207 at e
  have ten : ∀ {v : Int32} {g : Hp}, (cl (hR h x0 1) fun r_7 => nm (wI h r_7 10 ((hI h r_7 10) ||| v)) fun h_8 => some ((1 : Int32), h_8)) = some o → LwZ L o.2 := fun {v g} e => by
    replace e := cl_s e
    obtain ⟨r7, e7, e⟩ := e
    rw [rz_l R T e7] at e
    rw [← Option.some.inj e]
    exact lz_w T rL (by decide) P
  replace e := br_s e
  rcases e with ⟨_, e⟩ | ⟨_, e⟩
  · replace e := cl_s e
    obtain ⟨o1, e1, e⟩ := e
    rw [← Option.some.inj (gd_s e).2]
    exact lz_royal hF R (pmA_s hA rfl) T P e1
  replace e := br_s e
  rcases e with ⟨_, e⟩ | ⟨_, e⟩
  · replace e := cl_s e
    obtain ⟨o1, e1, e⟩ := e
    rw [← Option.some.inj (gd_s e).2]
    exact lz_castle hF R (pmA_s hA rfl) T P e1
  replace e := br_s e
  rcases e with ⟨_, e⟩ | ⟨_, e⟩
  · exact ten (g := h) e
  replace e := br_s e
  rcases e with ⟨_, e⟩ | ⟨_, e⟩
  · exact ten (g := h) e
  replace e := br_s e
  rcases e with ⟨_, e⟩ | ⟨_, e⟩
  · exact ten (g := h) e
  replace e := br_s e
  rcases e with ⟨_, e⟩ | ⟨_, e⟩
  · replace e := cl_s e
    obtain ⟨o1, e1, e⟩ := e
    rw [← Option.some.inj (gd_s e).2]
    exact lz_k T rL (kzI (A := [(2, 10), (2, 11), (3, 2), (3, 3), (3, 4), (3, 5)]) T (pmA_s hA rfl) (zX2_takeBlast hF (cat_m R.1) (cat_m R.2.1) fs_a (th_in _ T) R.2.2.1) e1).2.2 P
  replace e := br_s e
  rcases e with ⟨_, e⟩ | ⟨_, e⟩
  · replace e := cl_s e
    obtain ⟨o1, e1, e⟩ := e
    rw [← Option.some.inj (gd_s e).2]
    exact lz_k T rL (kzI (A := [(2, 7), (3, 2), (3, 3), (3, 4), (3, 5)]) T (pmA_s hA rfl) (zX2_takeChecks hF (cat_m R.1) (cat_m R.2.1) fs_a (th_in _ T) R.2.2.1) e1).2.2 P
  replace e := br_s e
  rcases e with ⟨_, e⟩ | ⟨_, e⟩
  · replace e := cl_s e
    obtain ⟨o1, e1, e⟩ := e
    rw [← Option.some.inj (gd_s e).2]
    exact lz_k T rL (kzI (A := [(2, 13), (3, 2), (3, 3), (3, 4), (3, 5)]) T (pmA_s hA rfl) (zX2_takeHill hF (cat_m R.1) (cat_m R.2.1) fs_a (th_in _ T) R.2.2.1) e1).2.2 P
  have wol : ∀ {r : Nat} {o2 : Int32 × Hp} {j : Nat}, hR h x0 1 = some r → sX2_wonOrLost F h x0 = some o2 → j = 8 ∨ j = 9 → LwZ L (wI o2.2 r j o2.1) := fun {r o2 j} er e2 hj => by
    rw [rz_l R T er]
    obtain ⟨T2, _, K2⟩ := kzI (A := ADL) T (pmA_s hA rfl) (zX2_wonOrLost hF (cat_m R.1) fs_a (th_in _ T) R.2.2.1) e2
    exact lz_w T2 rL (by omega) (lz_k T rL K2 P)
  replace e := br_s e
  rcases e with ⟨_, e⟩ | ⟨_, e⟩
  · replace e := cl_s e
    obtain ⟨r, er, e⟩ := e
    replace e := cl_s e
    obtain ⟨o2, e2, e⟩ := e
    have W := wol er e2 (Or.inl rfl)
    replace e := nm_s e
    obtain ⟨h3, w3, e⟩ := e
    rw [← w3] at W
    replace e := cl_s e
    obtain ⟨r4, er4, e⟩ := e
    replace e := br_s e
    rcases e with ⟨_, e⟩ | ⟨_, e⟩
    · rw [← Option.some.inj (gd_s e).2]; exact W
    · rw [← Option.some.inj (gd_s e).2]; exact W
  · replace e := cl_s e
    obtain ⟨r, er, e⟩ := e
    replace e := cl_s e
    obtain ⟨o2, e2, e⟩ := e
    have W := wol er e2 (Or.inr rfl)
    replace e := nm_s e
    obtain ⟨h3, w3, e⟩ := e
    rw [← w3] at W
    replace e := cl_s e
    obtain ⟨r4, er4, e⟩ := e
    replace e := br_s e
    rcases e with ⟨_, e⟩ | ⟨_, e⟩
    · rw [← Option.some.inj (gd_s e).2]; exact W
    · rw [← Option.some.inj (gd_s e).2]; exact W
theorem lz_other {o : Int32 × Hp} (hF : 700000 ≤ F) (R : RZ ρ c x0 L) (hA : pmA c ((3, 6) :: ONL)) (T : TH ρ c h) (P : LwZ L h) (e : sX2_takeOther F h x0 = some o) : LwZ L o.2 := by
  have rL := R.2.2.2.1
  unfold sX2_takeOther sX2_takeOther_25 at e
  replace e := cl_s e
  obtain ⟨o1, e1, e⟩ := e
  obtain ⟨q1, i1⟩ := sat_e (zX2_onceWord hF R.1 T R.2.2.1) e1
  rw [q1] at e
  have go : ∀ {t : Int32}, sX2_takeOther_26 F h x0 o1.1 t = some o → LwZ L o.2 := fun {t} e => by
    unfold sX2_takeOther_26 sX2_takeOther_44 at e
    replace e := br_s e
    rcases e with ⟨_, e⟩ | ⟨_, e⟩
    · rw [← Option.some.inj e]; exact P
    replace e := br_s e
    rcases e with ⟨_, e⟩ | ⟨_, e⟩
    rotate_left
    · rw [← Option.some.inj e]; exact P
    replace e := br_s e
    rcases e with ⟨_, e⟩ | ⟨_, e⟩
    rotate_left
    · rw [← Option.some.inj e]; exact P
    replace e := nm_s e
    obtain ⟨h4, w4, e⟩ := e
    have i6 := thI T R.2.2.1 (k := 3) (i := 6) (lo := 0) (hi := 1023) rfl
    have T4 : TH ρ c h4 := by rw [w4]; exact th_wI T R.2.2.1 (k := 3) (lo := 0) (hi := 1023) rfl (rg_or (n := 10) i6 i1 (by decide)) (by decide) (by decide) (pm_a hA rfl)
    have P4 : LwZ L h4 := by rw [w4]; exact lz_w3 R.2.2.1 T rL P
    replace e := cl_s e
    obtain ⟨o5, e5, e⟩ := e
    obtain ⟨T5, P5⟩ := lz_adv hF R (pmA_s hA rfl) T4 P4 e5
    replace e := cl_s e
    obtain ⟨o6, e6, e⟩ := e
    rw [← Option.some.inj (gd_s e).2]
    exact lz_once hF R (pmA_s hA rfl) T5 P5 e6
  replace e := br_s e
  rcases e with ⟨_, e⟩ | ⟨_, e⟩
  · replace e := cl_s e
    obtain ⟨r3, e3, e⟩ := e
    replace e := br_s e
    rcases e with ⟨_, e⟩ | ⟨_, e⟩
    · exact go e
    · exact go e
  · exact go e
end
