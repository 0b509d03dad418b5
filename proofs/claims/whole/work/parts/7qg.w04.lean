section
/-! the class forgets its problem with all places -/
/-- no problem is kept, or one of a place not come to yet -/
def PFg (n c : Nat) (h : Hp) : Prop := (hI h (n + 76) 14 = 0 ∧ hI h (n + 76) 15 = 0) ∨ ((c : Int) ≤ (hI h (n + 76) 16).toInt ∧ (hI h (n + 76) 16).toInt < 60)
section
variable {n F : Nat} {g h : Hp} {σ : Sy} {L : Nat → Nat → Int} {pb : Option Pb}
theorem pfg_c (O : PbO σ pb) (C : CPb n h L pb) : PFg n 0 h := by
  cases pb with
  | none => exact Or.inl C
  | some q =>
    obtain ⟨p, P, K, G, N⟩ := q
    have := C.1
    have := O.1
    exact Or.inr ⟨by omega, by omega⟩
theorem pfg_f {c : Nat} {o : Hp} (q : ∀ i, hI o (n + 76) i = hI h (n + 76) i) (A : PFg n c h) : PFg n c o := by
  unfold PFg
  rw [q 14, q 15, q 16]
  exact A
theorem fgp_10 : ∀ (f : Nat) {h o : Hp} {x1 : Int32} {c : Nat}, DyK n g h → x1.toInt = (c : Int) → c ≤ 60 → PFg n c h → sX11_forgetAll_10 F f h n x1 = some o → hI o (n + 76) 14 = 0 ∧ hI o (n + 76) 15 = 0 := by
  have z60 : (60 : Int32).toInt = 60 := rfl
  have z1 : (1 : Int32).toInt = 1 := rfl
  intro f
  induction f with
  | zero => intro h o x1 c _ _ _ _ e; exact absurd e (by rw [sX11_forgetAll_10]; exact fun z => nomatch z)
  | succ f ih =>
    intro h o x1 c k i1 c60 A e
    rw [sX11_forgetAll_10] at e
    rcases br_s e with ⟨c1, e⟩ | ⟨c1, e⟩
    · have c1 := le_i c1
      replace e := ce_e (dk_e (a := 0) (f := 9) (b := 48) k (by decide +kernel)) e
      replace e := nx_e e
      replace e := ce_e (dk_e (a := 0) (f := 10) (b := 62) (dk_wI k) (by decide +kernel)) e
      replace e := nx_e e
      rw [so_e e]
      have B := A.resolve_right (fun z => by omega)
      exact ⟨by rw [rI_a (by omega), rI_a (by omega)]; exact B.1, by rw [rI_a (by omega), rI_a (by omega)]; exact B.2⟩
    have c1 := nle_i c1
    replace e := ce_e (dk_e (a := 0) (f := 14) (b := 149) k (by decide +kernel)) e
    replace e := gg_e e
    obtain ⟨h8, w8, e⟩ := nm_s e
    have k8 : DyK n g h8 := by rw [w8]; exact dk_wI k
    have A8 : PFg n c h8 := pfg_f (fun i => by rw [w8, rI_a (by omega)]) A
    replace e := ce_e (dk_e (a := 0) (f := 11) (b := 76) k8 (by decide +kernel)) e
    obtain ⟨o10, e10, e⟩ := cl_s e
    have q10 : DyK n g o10 ∧ PFg n (c + 1) o10 := by
      unfold sX4_forget sX4_forget_23 at e10
      rcases br_s e10 with ⟨y, e10⟩ | ⟨y, e10⟩
      · iterate 3 replace e10 := nx_e e10
        rw [so_e e10]
        exact ⟨dk_wI (dk_wI (dk_wI k8)), Or.inl ⟨by rw [rI_o (by decide), rI_s], by rw [rI_s]⟩⟩
      · rw [so_e e10]
        refine ⟨k8, A8.imp id (fun z => ⟨?_, z.2⟩)⟩
        have : ¬ (hI h8 (n + 76) 16).toInt = x1.toInt := fun w => y (Int32.toInt_inj.mp w)
        have := z.1
        omega
    replace e := nx_e e
    exact ih (c := c + 1) q10.1 (by rw [ta (by omega), z1, i1]; omega) (by omega) q10.2 e
theorem fgp_x {o : Hp} (k : DyK n g h) (A : PFg n 0 h) (e : sX11_forgetAll F h n = some o) : hI o (n + 76) 14 = 0 ∧ hI o (n + 76) 15 = 0 := by
  unfold sX11_forgetAll at e
  replace e := ce_e (dk_e (a := 0) (f := 17) (b := 152) k (by decide +kernel)) e
  obtain ⟨o2, e2, e⟩ := cl_s e
  have l8 : hN h (n + 152) = 8 := ln_d k.1 (a := 152) (w := 8) (by decide)
  have k2 := (wt_J7_fill_53178 (dx_0 k) e2).1.1
  unfold sJ7_fill_53178 at e2
  replace e2 := nx_e e2
  rw [l8] at e2
  obtain ⟨_, f3, _⟩ := fI (n := 8) (by decide) F (show (0 : Int) ≤ (0 : Int32).toInt by decide) e2
  exact fgp_10 (c := 0) F k2 rfl (by decide) (pfg_f (fun i => f3 (n + 76) i (by omega)) A) e
end
end
section
/-! BEFORE, pure: both descriptions are one -/
section
variable {L : Nat → Nat → Int} {M M' : Nat → Int}
theorem led_e {j s t : Nat} {sd k : Int} (H : LOk L) (sL : (s : Int) < L 0 0 * L 1 0) (e : ∀ q, q < 64 → M' q = M q) (l : Led L M j sd s t k) : Led L M' j sd s t k := by
  have sq := sq_64 H
  have k1 := l.1.2.1
  refine ⟨l.1, ?_⟩
  rw [← l.2]
  refine cnp_c _ (fun i i1 i2 => ?_)
  have on := pth_on H sL l.1 (i := (i : Int)) (by omega) (by omega)
  rw [e _ (by omega)]
theorem att_e {b : Int} {q : Nat} (H : LOk L) (e : ∀ q, q < 64 → M' q = M q) (A : AttP L M b q) : AttP L M' b q := by
  have sq := sq_64 H
  obtain ⟨s, i, k, sL, m0, es, hi, fl, ld⟩ := A
  have es' := e s (by omega)
  exact ⟨s, i, k, sL, by rw [es']; exact m0, by rw [es']; exact es, by rw [es']; exact hi, by rw [es']; exact fl, by rw [es']; exact led_e H sL e ld⟩
theorem ryh_e {d : Nat} (H : LOk L) (e : ∀ q, q < 64 → M' q = M q) (A : RyH L M d) : RyH L M' d := by
  obtain ⟨s, s64, r0, m, a⟩ := A
  exact ⟨s, s64, r0, by rw [e s s64]; exact m, att_e H e a⟩
theorem rye_e {d : Nat} (e : ∀ q, q < 64 → M' q = M q) (A : RyE L M d) : RyE L M' d := by
  obtain ⟨s, s64, r0, m⟩ := A
  exact ⟨s, s64, r0, by rw [e s s64]; exact m⟩
end
/-- a least number -/
theorem min_ex {p : Nat → Prop} (h : ∃ j, p j) : ∃ j, p j ∧ ∀ j', p j' → j ≤ j' := by
  obtain ⟨j, hj⟩ := h
  induction j using Nat.strongRecOn with
  | ind j ih =>
    by_cases c : ∃ i, i < j ∧ p i
    · obtain ⟨i, hi, pi⟩ := c
      exact ih i hi pi
    · exact ⟨j, hj, fun j' hj' => Nat.le_of_not_lt (fun l => c ⟨j', l, hj'⟩)⟩
theorem ldf_x {D : Nat → Nat → Int → Prop} {t : Nat} (h : ∃ j k, D j t k) : ∃ q, ldF D t = some q := by
  obtain ⟨j, ⟨k, d⟩, m⟩ := min_ex h
  have ex : ∃ p, IsF D t p := ⟨(j, k), d, fun j' k' d' => m j' ⟨k', d'⟩⟩
  exact ⟨_, by unfold ldF; exact dif_pos ex⟩
/-- the position before: s left, t come to, the man, the man taken (15: none) -/
def gsP (B : Pz) (s t m a : Nat) : Pz := (updM (updM B.1 t (if a = 15 then 0 else cdV a (1 - (pzS B : Int)))) s (cdV m (pzS B)), pzS B, (fun _ => false), 0, pzQ B, (fun _ => 0), (fun _ => 0), 0)
def BfO (L : Nat → Nat → Int) (B : Pz) (s t m : Nat) : Prop := (s < 64 ∧ (s : Int) < L 0 0 * L 1 0 ∧ B.1 s = 0) ∧ (t < 64 ∧ 0 < B.1 t ∧ (B.1 t - 1) % 2 = (pzS B : Int)) ∧ ((m : Int) < L 2 0 ∧ (m = mnO (B.1 t) ∨ (rkF L t (pzS B) = L 1 0 ∧ ∃ k : Nat, (k : Int) < L 81 m ∧ L 80 (6 * m + k) = ((mnO (B.1 t) : Nat) : Int))))
def BfA (L : Nat → Nat → Int) (a : Nat) : Prop := a = 15 ∨ (a : Int) < L 2 0
def BfS (L : Nat → Nat → Int) (B : Pz) : Prop := ¬ RyH L B.1 (pzS B) ∧ (L 17 0 = 0 ∨ ¬ RyH L B.1 (1 - pzS B))
def BfI (L : Nat → Nat → Int) (B : Pz) (s t m a : Nat) : Prop := wrN L (gsP B s t m a) = 0 ∧ ¬ 0 < (er1 L (gsP B s t m a)).1 ∧ (¬ a = 15 ∨ L 16 0 = 0 ∨ ∃ v, (lgL L (gsP B s t m a))[0]? = some v ∧ v.2.2.2.2.1 = -1)
def BfW (L : Nat → Nat → Int) (B : Pz) (s t m a : Nat) : Prop := ∃ (i : Nat) (k : Int), (i : Int) < L 74 m ∧ fbt (L 75 (8 * m + i)) (if a = 15 then 1 else 0) = false ∧ Led L B.1 (8 * m + i) (pzS B) s t k
/-- as the class looks for them -/
def BfC (L : Nat → Nat → Int) (B : Pz) (s t m a : Nat) : Prop := BfO L B s t m ∧ (BfA L a ∧ ¬ (a : Int) = L 10 0) ∧ BfW L B s t m a ∧ BfS L B ∧ BfI L B s t m a
def BfL (L : Nat → Nat → Int) (B : Pz) (s t m a : Nat) : Prop := wrN L (gsP B s t m a) = 0 ∧ ∃ v, v ∈ lgL L (gsP B s t m a) ∧ v.2.2.2.2.2.1 < 2 ∧ ∀ q : Nat, (q : Int) < L 0 0 * L 1 0 → (zAll L (gsP B s t m a) v).1 q = B.1 q
/-- as the reference does -/
def BfR (L : Nat → Nat → Int) (B : Pz) (s t m a : Nat) : Prop := BfO L B s t m ∧ BfA L a ∧ (∃ j k, ldD L (gsP B s t m a).1 (ovP (gsP B s t m a)) false (pzS B) m s j t k) ∧ BfL L B s t m a
section
variable {L : Nat → Nat → Int} {B : Pz} {s t m a : Nat}
theorem gs_s : (gsP B s t m a).1 s = cdV m (pzS B) := by
  show (if s = s then _ else _) = _
  rw [if_pos rfl]
theorem gs_t (n : ¬ s = t) : (gsP B s t m a).1 t = (if a = 15 then 0 else cdV a (1 - (pzS B : Int))) := by
  show (if t = s then _ else if t = t then _ else _) = _
  rw [if_neg (fun z => n z.symm), if_pos rfl]
theorem gs_o {q : Nat} (n : ¬ q = s) (n' : ¬ q = t) : (gsP B s t m a).1 q = B.1 q := by
  show (if q = s then _ else if q = t then _ else _) = _
  rw [if_neg n, if_neg n']
theorem bf_ne (O : BfO L B s t m) : ¬ s = t := fun z => by
  have a := O.1.2.2
  have b := O.2.1.2.1
  rw [z] at a
  omega
theorem gs_ov {q : Nat} : ¬ ovP (gsP B s t m a) q := fun ⟨i, i1, i2, _⟩ => by
  have i2 : i < 0 := i2
  omega
theorem bfo_t (O : BfO L B s t m) : B.1 t = cdV ((mnO (B.1 t) : Nat) : Int) (pzS B) := own_v O.2.1.2.1 O.2.1.2.2
theorem gs_rd (H : LOk L) (HM : MOk L B.1) (S2 : pzS B < 2) (O : BfO L B s t m) (A : BfA L a) : PzRd L (gsP B s t m a) := by
  have sq := sq_64 H
  have L2 := H.2.2.1
  have tL := ((HM t O.2.1.1).2 O.2.1.2.1).1
  refine ⟨⟨mok_u (mok_u HM ?_) (Or.inr ⟨?_, ?_, O.1.2.1⟩), S2, Or.inl rfl, fun d _ => ⟨Int.le_refl _, show (0 : Int) ≤ 16 by decide⟩, fun d _ => ⟨Int.le_refl _, show (0 : Int) ≤ 9 by decide⟩⟩, fun q _ z => absurd (show false = true from z) (by decide), fun d _ _ => rfl, Int.le_refl _, show (0 : Int) ≤ 200 by decide⟩
  · by_cases c : a = 15
    · rw [if_pos c]; exact Or.inl rfl
    · rw [if_neg c]
      have := A.resolve_left c
      unfold cdV
      exact Or.inr ⟨by omega, by omega, tL⟩
  · unfold cdV; omega
  · have := O.2.2.1
    unfold cdV; omega
/-- squares gone over are the same -/
theorem led_g {j : Nat} {k : Int} (H : LOk L) (J : StR L j) (O : BfO L B s t m) : Led L (gsP B s t m a).1 j (pzS B) s t k ↔ Led L B.1 j (pzS B) s t k := by
  have go : ∀ {M M' : Nat → Int}, (∀ q, ¬ q = s → ¬ q = t → M' q = M q) → Led L M j (pzS B) s t k → Led L M' j (pzS B) s t k := fun {M M'} e l => by
    have k1 := l.1.2.1
    obtain ⟨d, _, _, _, st, sub⟩ := rch_st l.1.2
    refine ⟨l.1, ?_⟩
    rw [← l.2]
    refine cnp_c _ (fun i i1 i2 => ?_)
    have on := pth_on H O.1.2.1 l.1 (i := (i : Int)) (by omega) (by omega)
    have ne := ps_ne (s := (s : Int)) (t := (t : Int)) (k := k) (st := ((t : Int) - s) / k) (i := i) (by rw [st]; exact sub) (fun z => bf_ne O (by omega)) i1 (by omega)
    rw [e _ (fun z => ne.2 (by omega)) (fun z => ne.1 (by omega))]
  exact ⟨go (fun q a b => (gs_o a b).symm), go (fun q a b => gs_o a b)⟩
theorem gs_mn (S2 : pzS B < 2) : mnO (cdV (m : Int) (pzS B : Int)) = m ∧ (cdV (m : Int) (pzS B : Int) - 1) % 2 = (pzS B : Int) ∧ 0 < cdV (m : Int) (pzS B : Int) := by
  unfold mnO cdV
  omega
theorem wr_63 {P : Pz} (w0 : wrN L P = 0) : ¬ F3p L P ∧ ¬ RyH L P.1 (1 - pzS P) := by
  unfold wrN at w0
  by_cases c2 : prB' (F2p L P) = true
  · rw [if_pos c2] at w0; exact absurd w0 (by decide)
  rw [if_neg c2] at w0
  unfold wr3 at w0
  by_cases c3 : prB' (F3p L P) = true
  · rw [if_pos c3] at w0; exact absurd w0 (by decide)
  rw [if_neg c3] at w0
  unfold wr4 at w0
  by_cases c4 : prB' (F4p L P) = true
  · rw [if_pos c4] at w0; exact absurd w0 (by decide)
  rw [if_neg c4] at w0
  unfold wr5 at w0
  by_cases c5 : prB' (F5p L P) = true
  · rw [if_pos c5] at w0; exact absurd w0 (by decide)
  rw [if_neg c5] at w0
  unfold wr6 at w0
  by_cases c6 : prB' (RyH L P.1 (1 - pzS P)) = true
  · rw [if_pos c6] at w0; exact absurd w0 (by decide)
  exact ⟨fun z => c3 (prb_e.mpr z), fun z => c6 (prb_e.mpr z)⟩
/-- a ROYAL man of the side that moves: before and behind -/
theorem gs_ry (H : LOk L) (K : LawK L) (S2 : pzS B < 2) (O : BfO L B s t m) : RyE L (gsP B s t m a).1 (pzS B) ↔ RyE L B.1 (pzS B) := by
  have bt := bfo_t O
  have ne := bf_ne O
  have sm : ∀ {r : Nat}, (r : Int) = L 10 0 → m = r → m = mnO (B.1 t) := fun {r} er em => by
    rcases O.2.2.2 with z | ⟨_, k, hk, _⟩
    · exact z
    · have := K.2.2.2.2 (by omega)
      rw [em] at hk
      rw [show (L 10 0).toNat = r by omega] at this
      omega
  have ms : ∀ {r : Nat}, (r : Int) = L 10 0 → mnO (B.1 t) = r → m = r := fun {r} er em => by
    rcases O.2.2.2 with z | ⟨_, k, hk, ek⟩
    · omega
    · have m12 : m < 12 := by
        have := H.2.2.1
        have := O.2.2.1
        omega
      have := ((K.1 m m12).2 k hk).2
      rw [ek] at this
      omega
  constructor
  · intro ⟨q, q64, r0, eq⟩
    by_cases c : q = s
    · rw [c, gs_s] at eq
      unfold cdV at eq
      have em := sm (r := (L 10 0).toNat) (by omega) (by omega)
      rw [← em] at bt
      exact ⟨t, O.2.1.1, r0, by rw [bt]; unfold cdV; omega⟩
    · by_cases c' : q = t
      · rw [c', gs_t ne] at eq
        by_cases y : a = 15
        · rw [if_pos y] at eq; omega
        · rw [if_neg y] at eq; unfold cdV at eq; omega
      · rw [gs_o c c'] at eq
        exact ⟨q, q64, r0, eq⟩
  · intro ⟨q, q64, r0, eq⟩
    by_cases c' : q = t
    · rw [c', bt] at eq
      unfold cdV at eq
      have em := ms (r := (L 10 0).toNat) (by omega) (by omega)
      exact ⟨s, O.1.1, r0, by rw [gs_s]; unfold cdV; omega⟩
    · have c : ¬ q = s := fun z => by
        rw [z, O.1.2.2] at eq
        omega
      exact ⟨q, q64, r0, by rw [gs_o c c']; exact eq⟩
/-- the move that is taken back -/
theorem gs_mk {v : MvT} (H : LOk L) (K : LawK L) (nb : L 18 0 = 0) (Og : PzOk L (gsP B s t m a)) (O : BfO L B s t m) (hv : v ∈ moP L (gsP B s t m a)) (v1 : v.1 = (s : Int)) (v2 : v.2.1 = (t : Int)) (v6 : v.2.2.2.2.2.1 = 0) (vn : nwV (pzS B) v = B.1 t) : ∀ q, q < 64 → mkM L (gsP B s t m a) v q = B.1 q := by
  intro q q64
  have G := mo_g H K Og hv
  have ne := bf_ne O
  unfold mkM
  rw [if_pos (Or.inl nb), zmen_e H G q q64]
  unfold shM
  rw [if_neg (by omega)]
  unfold mdM
  rw [if_neg (by omega), if_neg (by omega), v1, v2]
  show (if q = ((t : Int)).toNat then _ else if q = ((s : Int)).toNat then _ else _) = _
  rw [show ((t : Int)).toNat = t by omega, show ((s : Int)).toNat = s by omega]
  by_cases c : q = t
  · rw [if_pos c, c]; exact vn
  · rw [if_neg c]
    by_cases c' : q = s
    · rw [if_pos c', c']; exact O.1.2.2.symm
    · rw [if_neg c']; exact gs_o c' c
theorem mem_mo {s t : Nat} {q : Nat × Int} {P : Pz} {v : MvT} (s64 : s < 64) (t64 : t < 64) (m0 : 0 < P.1 s) (es : (P.1 s - 1) % 2 = (pzS P : Int)) (el : ldF (ldD L P.1 (ovP P) true (pzS P) (mnO (P.1 s)) s) t = some q) (hv : v ∈ mvL L P.1 (pzQ P 0) (pzS P) (mnO (P.1 s)) s t q.1 q.2 (prB' (ByT L (ovP P) true q.1 t))) : v ∈ moP L P := by
  unfold moP moA
  refine List.mem_append.mpr (Or.inl (List.mem_flatMap.mpr ⟨s, List.mem_range.mpr s64, ?_⟩))
  unfold moF
  rw [if_pos ⟨m0, es⟩]
  refine List.mem_flatMap.mpr ⟨t, List.mem_range.mpr t64, ?_⟩
  unfold moS
  refine List.mem_append.mpr (Or.inl ?_)
  rw [sta_some el]
  exact hv
theorem bf_rc (H : LOk L) (K : LawK L) (HM : MOk L B.1) (S2 : pzS B < 2) (nb : L 18 0 = 0) (R : BfR L B s t m a) : BfC L B s t m a := by
  obtain ⟨O, A, ⟨j, k, i, hi, ej, ld, g⟩, w0, v, hv, kd, em⟩ := R
  have sq := sq_64 H
  have L2 := H.2.2.1
  have ne := bf_ne O
  have Og := wr_ok H K (gs_rd H HM S2 O A) w0
  have J : StR L j := by rw [ej]; exact (H.2.2.2 _ O.2.2.1).2 i hi
  have gmn := gs_mn (B := B) (m := m) S2
  have r1 := K.2.1
  -- the STEP
  have fl : fbt (L 75 (8 * m + i)) (if a = 15 then 1 else 0) = false ∧ (¬ a = 15 → fbt (L 75 (8 * m + i)) 0 = false) := by
    rw [← ej]
    rcases g with g | ⟨g1, _, g3⟩ | ⟨g1, g2⟩
    · exact absurd g.1 (by decide)
    · have na : ¬ a = 15 := fun z => by rw [gs_t ne, if_pos z] at g1; omega
      rw [if_neg na]
      exact ⟨g3, fun _ => g3⟩
    · have na : a = 15 := Classical.byContradiction fun z => g1 (by rw [gs_t ne, if_neg z]; unfold cdV; omega)
      rw [if_pos na]
      exact ⟨g2, fun z => absurd na z⟩
  have ldm : Led L B.1 (8 * m + i) (pzS B) s t k := by rw [← ej]; exact (led_g H J O).mp ld
  -- no ROYAL man is taken
  have nr : ¬ (a : Int) = L 10 0 := fun z => by
    have na : ¬ a = 15 := by omega
    refine (wr_63 w0).2 ⟨t, O.2.1.1, by omega, ?_, ?_⟩
    · rw [gs_t ne, if_neg na]
      show cdV (a : Int) (1 - (pzS B : Int)) = 1 + 2 * L 10 0 + ((1 - pzS B : Nat) : Int)
      unfold cdV; omega
    · have c1 : (1 : Int) - ((1 - pzS (gsP B s t m a) : Nat) : Int) = (pzS B : Int) := by
        show (1 : Int) - ((1 - pzS B : Nat) : Int) = (pzS B : Int)
        omega
      rw [c1]
      refine ⟨s, i, k, O.1.2.1, ?_, ?_, ?_, ?_, ?_⟩
      · rw [gs_s]; exact gmn.2.2
      · rw [gs_s]; exact gmn.2.1
      · rw [gs_s, gmn.1]; exact hi
      · rw [gs_s, gmn.1]; exact fl.2 na
      · rw [gs_s, gmn.1, ← ej]; exact ld
  obtain ⟨sf, hm, ne1⟩ := lg_sf hv
  have G := mo_g H K Og hm
  have mk : ∀ q, q < 64 → mkM L (gsP B s t m a) v q = B.1 q := fun q q64 => by
    by_cases c : (q : Int) < L 0 0 * L 1 0
    · rw [← zall_m]; exact em q c
    · have x := (mkm_ok H K Og G).1 q q64
      have y := HM q q64
      have : ¬ 0 < mkM L (gsP B s t m a) v q := fun z => c (x.2 z).1
      have : ¬ 0 < B.1 q := fun z => c (y.2 z).1
      omega
  have mk' : ∀ q, q < 64 → B.1 q = mkM L (gsP B s t m a) v q := fun q hq => (mk q hq).symm
  -- it is the move from s to t
  have kk := mvgd_k G
  have sm : ∀ q, q < 64 → mkM L (gsP B s t m a) v q = shM (gsP B s t m a).1 (pzQ B 0) (L 12 0) (pzS B) v q := fun q q64 => by
    unfold mkM
    rw [if_pos (Or.inl nb)]
    exact zmen_e H G q q64
  have k1 : ¬ v.2.2.2.2.2.1 = 1 := fun z => by
    have := (G.2.2.2.2.1 z).1
    have : 1 < 0 := this
    omega
  have k0 : v.2.2.2.2.2.1 = 0 := by omega
  obtain ⟨sL, sv⟩ := mvgd_s G (by omega)
  have vne := G.2.2.2.2.2.2.2.2 (by omega)
  have tL := G.1.1
  have sh : ∀ q, shM (gsP B s t m a).1 (pzQ B 0) (L 12 0) (pzS B) v q = (if q = v.2.1.toNat then nwV (pzS B) v else if q = v.1.toNat then 0 else (gsP B s t m a).1 q) := fun q => by
    unfold shM
    rw [if_neg (show ¬ v.2.2.2.2.2.1 = 3 by omega)]
    unfold mdM
    rw [if_neg (show ¬ v.2.2.2.2.2.1 = 2 by omega), if_neg (show ¬ v.2.2.2.2.2.1 = 1 by omega)]
    rfl
  have es : v.1.toNat = s := by
    have x := mk v.1.toNat (by omega)
    rw [sm _ (by omega), sh, if_neg (by omega), if_pos rfl] at x
    by_cases c : v.1.toNat = s
    · exact c
    · by_cases c' : v.1.toNat = t
      · have := O.2.1.2.1
        rw [c'] at x
        omega
      · rw [gs_o c c', ← x] at sv
        have : cdV v.2.2.1 (pzS B : Int) = 0 := sv.symm
        have mg := G.1.2.1
        unfold cdV at this
        omega
  have et : v.2.1.toNat = t := Classical.byContradiction fun c => by
    have x := mk t O.2.1.1
    rw [sm _ O.2.1.1, sh, if_neg (fun z => c z.symm), if_neg (by omega), gs_t ne, bfo_t O] at x
    by_cases y : a = 15
    · rw [if_pos y] at x; unfold cdV at x; omega
    · rw [if_neg y] at x; unfold cdV at x; omega
  refine ⟨O, ⟨A, nr⟩, ⟨i, k, hi, fl.1, ldm⟩, ⟨fun y => ?_, ?_⟩, w0, ne1, ?_⟩
  · have re : RyE L B.1 (pzS B) := Classical.byContradiction fun z => ryh_n z y
    have re' := (gs_ry (a := a) H K S2 O).mpr re
    rcases (sf.1 re').2 with ⟨⟨r, r64, r0, er⟩, z⟩ | z
    · refine z ⟨r, r64, r0, ?_⟩
      rw [mk r r64, ← er]
      have er : (gsP B s t m a).1 r = 1 + 2 * L 10 0 + ((1 - pzS B : Nat) : Int) := er
      have c : ¬ r = s := fun z => by rw [z, gs_s] at er; unfold cdV at er; omega
      have c' : ¬ r = t := fun z => by
        rw [z, gs_t ne] at er
        by_cases y : a = 15
        · rw [if_pos y] at er; omega
        · rw [if_neg y] at er; unfold cdV at er; exact nr (by omega)
      exact (gs_o c c').symm
    · exact z (ryh_e H mk y)
  · rcases sf.2 with z | z
    · exact Or.inl z
    · exact Or.inr (fun y => z (ryh_e H mk y))
  · by_cases c : a = 15
    · by_cases c2 : L 16 0 = 0
      · exact Or.inr (Or.inl c2)
      · refine Or.inr (Or.inr ?_)
        have vt : v.2.2.2.2.1 = -1 := by
          rw [(G.2.2.2.1 k0).1, et, gs_t ne, if_pos c]
          exact if_neg (by decide)
        have hv' := hv
        unfold lgL at hv' ⊢
        rw [if_neg ne1] at hv' ⊢
        unfold mustF at hv' ⊢
        by_cases c3 : ¬ L 16 0 = 0 ∧ ((moP L (gsP B s t m a)).filter (sfB L (gsP B s t m a))).any tkB = true
        · rw [if_pos c3] at hv'
          have y := (List.mem_filter.mp hv').2
          unfold tkB at y
          rw [vt] at y
          exact absurd y (by decide)
        · rw [if_neg c3] at hv' ⊢
          have nz := fun z => c3 ⟨c2, z⟩
          cases e : (moP L (gsP B s t m a)).filter (sfB L (gsP B s t m a)) with
          | nil => rw [e] at hv'; exact absurd hv' (by simp)
          | cons u w =>
            refine ⟨u, rfl, Classical.byContradiction fun y => nz ?_⟩
            rw [e, List.any_cons, show tkB u = true from by unfold tkB; simpa using y]
            rfl
    · exact Or.inl c
theorem bf_cr (H : LOk L) (K : LawK L) (HM : MOk L B.1) (S2 : pzS B < 2) (F3 : ¬ F3p L B) (nb : L 18 0 = 0) (R : BfC L B s t m a) : BfR L B s t m a := by
  obtain ⟨O, ⟨A, nr⟩, ⟨i, k, hi, fl, ldm⟩, ⟨nh, ny⟩, w0, ne1, mu⟩ := R
  have sq := sq_64 H
  have L2 := H.2.2.1
  have ne := bf_ne O
  have bt := bfo_t O
  have Og := wr_ok H K (gs_rd H HM S2 O A) w0
  have J : StR L (8 * m + i) := (H.2.2.2 _ O.2.2.1).2 i hi
  have gmn := gs_mn (B := B) (m := m) S2
  have ld := (led_g (a := a) H J O).mpr ldm
  have gd : GdT L (gsP B s t m a).1 (pzS B) (8 * m + i) t := by
    by_cases c : a = 15
    · rw [if_pos c] at fl
      exact Or.inr ⟨by rw [gs_t ne, if_pos c]; omega, fl⟩
    · rw [if_neg c] at fl
      refine Or.inl ⟨?_, ?_, fl⟩
      · rw [gs_t ne, if_neg c]; unfold cdV; omega
      · rw [gs_t ne, if_neg c]; unfold cdV; omega
  refine ⟨O, A, ⟨8 * m + i, k, i, hi, rfl, ld, Or.inr gd⟩, w0, ?_⟩
  have g0 : 0 < (gsP B s t m a).1 s := by rw [gs_s]; exact gmn.2.2
  have g1 : ((gsP B s t m a).1 s - 1) % 2 = (pzS (gsP B s t m a) : Int) := by rw [gs_s]; exact gmn.2.1
  have g2 : mnO ((gsP B s t m a).1 s) = m := by rw [gs_s]; exact gmn.1
  obtain ⟨q, eq⟩ := ldf_x (D := ldD L (gsP B s t m a).1 (ovP (gsP B s t m a)) true (pzS (gsP B s t m a)) (mnO ((gsP B s t m a).1 s)) s) (t := t) ⟨8 * m + i, k, i, by rw [g2]; exact hi, by rw [g2], ld, Or.inr gd⟩
  have by0 : prB' (ByT L (ovP (gsP B s t m a)) true q.1 t) = false := prb_f.mpr (fun z => gs_ov z.2.2)
  -- which move
  have F3a' : ¬ (0 < L 81 (mnO (B.1 t)) ∧ rkF L t (pzS B) = L 1 0) := fun z => F3 ⟨t, O.2.1.1, O.2.1.2.1, z.1, by rw [O.2.1.2.2]; exact z.2⟩
  have ex : ∃ v, v ∈ mvL L (gsP B s t m a).1 (pzQ (gsP B s t m a) 0) (pzS (gsP B s t m a)) (mnO ((gsP B s t m a).1 s)) s t q.1 q.2 (prB' (ByT L (ovP (gsP B s t m a)) true q.1 t)) ∧ nwV (pzS B) v = B.1 t := by
    rw [g2]
    unfold mvL
    by_cases c : 0 < L 81 m ∧ rkF L t (pzS (gsP B s t m a)) = L 1 0 ∧ ¬ (¬ L 18 0 = 0 ∧ ¬ tkV (gsP B s t m a).1 (pzQ (gsP B s t m a) 0) t (prB' (ByT L (ovP (gsP B s t m a)) true q.1 t)) = -1)
    · rw [if_pos c]
      rcases O.2.2.2 with z | ⟨_, x, hx, ex⟩
      · exact absurd ⟨by rw [← z]; exact c.1, c.2.1⟩ F3a'
      · refine ⟨_, List.mem_map.mpr ⟨x, List.mem_range.mpr (by omega), rfl⟩, ?_⟩
        show cdV (if L 80 (6 * m + x) = -1 then _ else L 80 (6 * m + x)) (pzS B) = B.1 t
        rw [if_neg (by rw [ex]; omega), ex]
        exact bt.symm
    · rw [if_neg c]
      refine ⟨_, List.mem_singleton.mpr rfl, ?_⟩
      show cdV (if (-1 : Int) = -1 then (m : Int) else _) (pzS B) = B.1 t
      rw [if_pos rfl]
      rcases O.2.2.2 with z | ⟨z, x, hx, _⟩
      · rw [z]; exact bt.symm
      · exact absurd ⟨by omega, z, fun y => y.1 nb⟩ c
  obtain ⟨v, hv, vn⟩ := ex
  have hm : v ∈ moP L (gsP B s t m a) := mem_mo O.1.1 O.2.1.1 g0 g1 eq hv
  obtain ⟨⟨v1, v2, v3, v4, v5, v6⟩, _⟩ := mvl_i hv
  rw [by0, if_neg (by decide)] at v5
  have mk := gs_mk H K nb Og O hm v1 v2 v5 vn
  have mk' : ∀ q, q < 64 → B.1 q = mkM L (gsP B s t m a) v q := fun q hq => (mk q hq).symm
  have sf : sfP L (gsP B s t m a) v := by
    refine ⟨fun re => ⟨rye_e mk ((gs_ry H K S2 O).mp re), Or.inr (fun y => nh (ryh_e H mk' y))⟩, ?_⟩
    rcases ny with z | z
    · exact Or.inl z
    · exact Or.inr (fun y => z (ryh_e H mk' y))
  refine ⟨v, ?_, by omega, fun q hq => by rw [zall_m]; exact mk q (by omega)⟩
  have hf : v ∈ (moP L (gsP B s t m a)).filter (sfB L (gsP B s t m a)) := List.mem_filter.mpr ⟨hm, prb_e.mpr sf⟩
  unfold lgL
  rw [if_neg ne1]
  unfold mustF
  by_cases c3 : ¬ L 16 0 = 0 ∧ ((moP L (gsP B s t m a)).filter (sfB L (gsP B s t m a))).any tkB = true
  · rw [if_pos c3]
    by_cases c : a = 15
    · rcases mu with z | z | ⟨u, eu, tu⟩
      · exact absurd c z
      · exact absurd z c3.1
      · unfold lgL at eu
        rw [if_neg ne1] at eu
        unfold mustF at eu
        rw [if_pos c3] at eu
        have y := (List.mem_filter.mp (List.mem_of_getElem? eu)).2
        unfold tkB at y
        rw [tu] at y
        exact absurd y (by decide)
    · refine List.mem_filter.mpr ⟨hf, ?_⟩
      unfold tkB
      rw [v4, by0]
      unfold tkV
      rw [if_neg (by decide), if_pos (by rw [gs_t ne, if_neg c]; unfold cdV; omega)]
      simp only [Bool.not_eq_eq_eq_not, Bool.not_true, decide_eq_false_iff_not]
      omega
  · rw [if_neg c3]; exact hf
theorem bf_eq (H : LOk L) (K : LawK L) (HM : MOk L B.1) (S2 : pzS B < 2) (F3 : ¬ F3p L B) (nb : L 18 0 = 0) : BfC L B s t m a ↔ BfR L B s t m a := ⟨bf_cr H K HM S2 F3 nb, bf_rc H K HM S2 nb⟩
end
end
section
/-! texts of two boards: which comes first -/
def LexLt (l l' : List Int) : Prop := ∃ (i : Nat) (x y : Int), (∀ j : Nat, j < i → l[j]? = l'[j]?) ∧ l[i]? = some x ∧ l'[i]? = some y ∧ x < y
section
variable {l l' l'' : List Int}
theorem lex_i : ¬ LexLt l l := fun ⟨i, x, y, _, a, b, c⟩ => by
  rw [a] at b
  have := Option.some.inj b
  omega
theorem lex_t (A : LexLt l l') (B : LexLt l' l'') : LexLt l l'' := by
  obtain ⟨i, x, y, a1, a2, a3, a4⟩ := A
  obtain ⟨j, u, w, b1, b2, b3, b4⟩ := B
  rcases Nat.lt_trichotomy i j with c | c | c
  · exact ⟨i, x, y, fun k hk => (a1 k hk).trans (b1 k (by omega)), a2, (b1 i c).symm.trans a3, a4⟩
  · rw [← c] at b1 b2 b3
    rw [a3] at b2
    have := Option.some.inj b2
    exact ⟨i, x, w, fun k hk => (a1 k hk).trans (b1 k hk), a2, b3, by omega⟩
  · exact ⟨j, u, w, fun k hk => (a1 k (by omega)).trans (b1 k hk), (a1 j c).trans b2, b3, b4⟩
theorem lex_a (A : LexLt l l') : ¬ LexLt l' l := fun B => lex_i (lex_t A B)
theorem lex_h {x y : Int} (h : x < y) : LexLt (x :: l) (y :: l') := ⟨0, x, y, fun j hj => absurd hj (Nat.not_lt_zero _), rfl, rfl, h⟩
theorem lex_p (p : List Int) (A : LexLt l l') : LexLt (p ++ l) (p ++ l') := by
  obtain ⟨i, x, y, a1, a2, a3, a4⟩ := A
  refine ⟨p.length + i, x, y, fun j hj => ?_, ?_, ?_, a4⟩
  · by_cases c : j < p.length
    · rw [List.getElem?_append_left c, List.getElem?_append_left c]
    · rw [List.getElem?_append_right (by omega), List.getElem?_append_right (by omega)]
      exact a1 _ (by omega)
  · rw [List.getElem?_append_right (by omega), show p.length + i - p.length = i by omega]; exact a2
  · rw [List.getElem?_append_right (by omega), show p.length + i - p.length = i by omega]; exact a3
end
section
variable {L : Nat → Nat → Int} {P Q : Pz} {S : Nat → Bool} {r : Nat}
theorem rkt_s {f : Nat} : rkT L P S r (f + 1) = if S (r * (L 0 0).toNat + f) = true ∧ P.1 (r * (L 0 0).toNat + f) = 0 then ((rkT L P S r f).1 + 1, (rkT L P S r f).2) else (0, (rkT L P S r f).2 ++ emT (rkT L P S r f).1 ++ [chT L P S (r * (L 0 0).toNat + f)]) := rfl
theorem rkt_pre : ∀ d f, ∃ w, (rkT L P S r (f + d)).2 = (rkT L P S r f).2 ++ w := by
  intro d
  induction d with
  | zero => intro f; exact ⟨[], by rw [List.append_nil]; rfl⟩
  | succ d ih =>
    intro f
    obtain ⟨w, e⟩ := ih f
    rw [show f + (d + 1) = (f + d) + 1 by omega, rkt_s]
    split
    · exact ⟨w, e⟩
    · refine ⟨w ++ emT (rkT L P S r (f + d)).1 ++ [chT L P S (r * (L 0 0).toNat + (f + d))], ?_⟩
      show (rkT L P S r (f + d)).2 ++ _ ++ _ = _
      rw [e]
      simp only [List.append_assoc]
theorem rkt_man {f F : Nat} (hf : f < F) (n : ¬ (S (r * (L 0 0).toNat + f) = true ∧ P.1 (r * (L 0 0).toNat + f) = 0)) : ∃ w, (rkT L P S r F).2 ++ emT (rkT L P S r F).1 = (rkT L P S r f).2 ++ (emT (rkT L P S r f).1 ++ chT L P S (r * (L 0 0).toNat + f) :: w) := by
  obtain ⟨w, e⟩ := rkt_pre (L := L) (P := P) (S := S) (r := r) (F - (f + 1)) (f + 1)
  rw [show f + 1 + (F - (f + 1)) = F by omega, rkt_s, if_neg n] at e
  refine ⟨w ++ emT (rkT L P S r F).1, ?_⟩
  rw [e]
  simp only [List.append_assoc, List.cons_append, List.nil_append]
theorem rkt_em {F : Nat} : ∀ d g, g + d = F → 0 < (rkT L P S r g).1 → ∃ (c : Nat) (w : List Int), (rkT L P S r F).2 ++ emT (rkT L P S r F).1 = (rkT L P S r g).2 ++ (48 + (c : Int)) :: w ∧ (rkT L P S r g).1 ≤ c ∧ c ≤ F := by
  intro d
  induction d with
  | zero =>
    intro g e h
    rw [Nat.add_zero] at e
    rw [e] at h ⊢
    refine ⟨(rkT L P S r F).1, [], ?_, Nat.le_refl _, rkt_le F⟩
    unfold emT
    rw [if_pos h]
  | succ d ih =>
    intro g e h
    by_cases c : S (r * (L 0 0).toNat + g) = true ∧ P.1 (r * (L 0 0).toNat + g) = 0
    · have s : rkT L P S r (g + 1) = ((rkT L P S r g).1 + 1, (rkT L P S r g).2) := by rw [rkt_s, if_pos c]
      obtain ⟨c', w, a1, a2, a3⟩ := ih (g + 1) (by omega) (by rw [s]; exact Nat.succ_pos _)
      rw [s] at a1 a2
      have a2 : (rkT L P S r g).1 + 1 ≤ c' := a2
      exact ⟨c', w, a1, by omega, a3⟩
    · obtain ⟨w, a⟩ := rkt_man (L := L) (P := P) (S := S) (r := r) (f := g) (F := F) (by omega) c
      have b := rkt_le (L := L) (P := P) (S := S) (r := r) g
      refine ⟨(rkT L P S r g).1, chT L P S (r * (L 0 0).toNat + g) :: w, ?_, Nat.le_refl _, by omega⟩
      rw [a]
      have em : emT (rkT L P S r g).1 = [48 + ((rkT L P S r g).1 : Int)] := by unfold emT; rw [if_pos h]
      rw [em]
      rfl
theorem rkt_c : ∀ f, (∀ g, g < f → P.1 (r * (L 0 0).toNat + g) = Q.1 (r * (L 0 0).toNat + g)) → rkT L P S r f = rkT L Q S r f := by
  intro f
  induction f with
  | zero => intro _; rfl
  | succ f ih =>
    intro h
    rw [rkt_s, rkt_s, ih (fun g hg => h g (by omega)), h f (by omega)]
    unfold chT
    rw [h f (by omega)]
theorem rke_c (h : ∀ g, g < (L 0 0).toNat → P.1 (r * (L 0 0).toNat + g) = Q.1 (r * (L 0 0).toNat + g)) : rkE L P S r = rkE L Q S r := by
  unfold rkE
  rw [rkt_c _ h]
theorem mnt_c : ∀ d r, (∀ x g, r ≤ x → x < r + d → g < (L 0 0).toNat → P.1 (x * (L 0 0).toNat + g) = Q.1 (x * (L 0 0).toNat + g)) → ∃ U, mnT L P S (r + d) = U ++ mnT L P S r ∧ mnT L Q S (r + d) = U ++ mnT L Q S r := by
  intro d
  induction d with
  | zero => intro r _; exact ⟨[], rfl, rfl⟩
  | succ d ih =>
    intro r h
    obtain ⟨U, a, b⟩ := ih r (fun x g x1 x2 hg => h x g x1 (by omega) hg)
    have e := rke_c (L := L) (P := P) (Q := Q) (S := S) (r := r + d) (fun g hg => h _ g (by omega) (by omega) hg)
    refine ⟨rkE L P S (r + d) ++ U, ?_, ?_⟩
    · show rkE L P S (r + d) ++ mnT L P S (r + d) = _
      rw [a, List.append_assoc]
    · show rkE L Q S (r + d) ++ mnT L Q S (r + d) = _
      rw [b, e, List.append_assoc]
theorem rkt_z {f : Nat} : 0 < (rkT L P (fun _ => true) r f).1 ↔ (0 < f ∧ P.1 (r * (L 0 0).toNat + f - 1) = 0) := by
  cases f with
  | zero => exact ⟨fun z => absurd z (Nat.lt_irrefl _), fun z => absurd z.1 (Nat.lt_irrefl _)⟩
  | succ f =>
    rw [rkt_s, show r * (L 0 0).toNat + (f + 1) - 1 = r * (L 0 0).toNat + f by omega]
    by_cases c : P.1 (r * (L 0 0).toNat + f) = 0
    · rw [if_pos ⟨rfl, c⟩]
      exact ⟨fun _ => ⟨Nat.succ_pos _, c⟩, fun _ => Nat.succ_pos _⟩
    · rw [if_neg (fun z => c z.2)]
      exact ⟨fun z => absurd z (Nat.lt_irrefl _), fun z => absurd z.2 c⟩
theorem wrt_m : ∃ w, wrTx L P = mnT L P (fun _ => true) (L 1 0).toNat ++ w := by
  unfold wrTx
  simp only [List.append_assoc]
  exact ⟨_, rfl⟩
/-- letters -/
theorem ltp_b {v : Int} (T : LtO L) (v0 : 0 < v) (v1 : v ≤ 2 * L 2 0) : 65 ≤ ltP L v := by
  have := T (mnO v) (mno_lt v0 v1).1
  unfold ltP
  split <;> omega
theorem ltp_i {v v' : Int} (T : LtO L) (D : LtD L) (v0 : 0 < v) (v1 : v ≤ 2 * L 2 0) (w0 : 0 < v') (w1 : v' ≤ 2 * L 2 0) (e : ltP L v = ltP L v') : v = v' := by
  have a := mno_lt (L := L) v0 v1
  have b := mno_lt (L := L) w0 w1
  have ta := T (mnO v) a.1
  have tb := T (mnO v') b.1
  have same : L 73 (mnO v) = L 73 (mnO v') → mnO v = mnO v' := fun z => by
    rcases Nat.lt_trichotomy (mnO v) (mnO v') with c | c | c
    · exact absurd z.symm (D.1 _ _ b.1 c)
    · exact c
    · exact absurd z (D.1 _ _ a.1 c)
  unfold ltP at e
  split at e
  · split at e
    · have := same (by omega)
      omega
    · omega
  · split at e
    · omega
    · have := same (by omega)
      omega
/-- the first difference tells -/
theorem tx_lt {f : Nat} (H : LOk L) (T : LtO L) (MP : MOk L P.1) (MQ : MOk L Q.1) (hr : (r : Int) < L 1 0) (hf : (f : Int) < L 0 0) (up : ∀ x g, r < x → (x : Int) < L 1 0 → g < (L 0 0).toNat → P.1 (x * (L 0 0).toNat + g) = Q.1 (x * (L 0 0).toNat + g)) (lf : ∀ g, g < f → P.1 (r * (L 0 0).toNat + g) = Q.1 (r * (L 0 0).toNat + g)) (q64 : r * (L 0 0).toNat + f < 64) (dec : (0 < P.1 (r * (L 0 0).toNat + f) ∧ 0 < Q.1 (r * (L 0 0).toNat + f) ∧ ltP L (P.1 (r * (L 0 0).toNat + f)) < ltP L (Q.1 (r * (L 0 0).toNat + f))) ∨ (0 < P.1 (r * (L 0 0).toNat + f) ∧ Q.1 (r * (L 0 0).toNat + f) = 0 ∧ (0 < f ∧ P.1 (r * (L 0 0).toNat + f - 1) = 0)) ∨ (P.1 (r * (L 0 0).toNat + f) = 0 ∧ 0 < Q.1 (r * (L 0 0).toNat + f) ∧ ¬ (0 < f ∧ P.1 (r * (L 0 0).toNat + f - 1) = 0))) : LexLt (wrTx L P) (wrTx L Q) := by
  obtain ⟨wP, eP⟩ := wrt_m (L := L) (P := P)
  obtain ⟨wQ, eQ⟩ := wrt_m (L := L) (P := Q)
  obtain ⟨U, uP, uQ⟩ := mnt_c (L := L) (P := P) (Q := Q) (S := fun _ => true) ((L 1 0).toNat - (r + 1)) (r + 1) (fun x g x1 x2 hg => up x g (by omega) (by omega) hg)
  rw [show r + 1 + ((L 1 0).toNat - (r + 1)) = (L 1 0).toNat by omega] at uP uQ
  rw [eP, eQ, uP, uQ, List.append_assoc, List.append_assoc]
  refine lex_p U ?_
  have F8 := H.1
  have fF : f < (L 0 0).toNat := by omega
  show LexLt ((((rkT L P (fun _ => true) r (L 0 0).toNat).2 ++ emT (rkT L P (fun _ => true) r (L 0 0).toNat).1 ++ _) ++ _) ++ wP) ((((rkT L Q (fun _ => true) r (L 0 0).toNat).2 ++ emT (rkT L Q (fun _ => true) r (L 0 0).toNat).1 ++ _) ++ _) ++ wQ)
  have same := rkt_c (L := L) (P := P) (Q := Q) (S := fun _ => true) (r := r) f lf
  have z := rkt_z (L := L) (P := P) (r := r) (f := f)
  rcases dec with ⟨p0, q0, lt⟩ | ⟨p0, q0, pe⟩ | ⟨p0, q0, pe⟩
  · obtain ⟨w1, a1⟩ := rkt_man (L := L) (P := P) (S := fun _ => true) (r := r) fF (fun y => by omega)
    obtain ⟨w2, a2⟩ := rkt_man (L := L) (P := Q) (S := fun _ => true) (r := r) fF (fun y => by omega)
    rw [a1, a2, ← same]
    simp only [List.append_assoc, List.cons_append]
    exact lex_p _ (lex_p _ (lex_h lt))
  · obtain ⟨w1, a1⟩ := rkt_man (L := L) (P := P) (S := fun _ => true) (r := r) fF (fun y => by omega)
    have sQ : rkT L Q (fun _ => true) r (f + 1) = ((rkT L Q (fun _ => true) r f).1 + 1, (rkT L Q (fun _ => true) r f).2) := by rw [rkt_s, if_pos ⟨rfl, q0⟩]
    obtain ⟨c, w2, a2, a3, _⟩ := rkt_em (L := L) (P := Q) (S := fun _ => true) (r := r) (F := (L 0 0).toNat) ((L 0 0).toNat - (f + 1)) (f + 1) (by omega) (by rw [sQ]; exact Nat.succ_pos _)
    rw [sQ] at a2 a3
    have a3 : (rkT L Q (fun _ => true) r f).1 + 1 ≤ c := a3
    have zp := z.mpr pe
    have em : emT (rkT L P (fun _ => true) r f).1 = [48 + ((rkT L P (fun _ => true) r f).1 : Int)] := by unfold emT; rw [if_pos zp]
    rw [a1, a2, em, same]
    rw [same] at zp
    simp only [List.append_assoc, List.cons_append]
    exact lex_p _ (lex_h (by omega))
  · obtain ⟨w2, a2⟩ := rkt_man (L := L) (P := Q) (S := fun _ => true) (r := r) fF (fun y => by omega)
    have sP : rkT L P (fun _ => true) r (f + 1) = ((rkT L P (fun _ => true) r f).1 + 1, (rkT L P (fun _ => true) r f).2) := by rw [rkt_s, if_pos ⟨rfl, p0⟩]
    obtain ⟨c, w1, a1, a3, a4⟩ := rkt_em (L := L) (P := P) (S := fun _ => true) (r := r) (F := (L 0 0).toNat) ((L 0 0).toNat - (f + 1)) (f + 1) (by omega) (by rw [sP]; exact Nat.succ_pos _)
    rw [sP] at a1
    have zp : (rkT L P (fun _ => true) r f).1 = 0 := by
      have : ¬ 0 < (rkT L P (fun _ => true) r f).1 := fun y => pe (z.mp y)
      omega
    have em : emT (rkT L Q (fun _ => true) r f).1 = [] := by rw [← same, zp]; rfl
    have lb := ltp_b T q0 ((MQ _ q64).2 q0).2
    rw [a1, a2, em, same]
    simp only [List.append_assoc, List.cons_append, List.nil_append]
    refine lex_p _ (lex_h ?_)
    show 48 + (c : Int) < ltP L (Q.1 (r * (L 0 0).toNat + f))
    omega
end
/-- the square that is written first -/
def WFi (L : Nat → Nat → Int) (q q' : Nat) : Prop := (q' : Int) / L 0 0 < (q : Int) / L 0 0 ∨ ((q : Int) / L 0 0 = (q' : Int) / L 0 0 ∧ q < q')
/-- where two boards differ first -/
def FsD (L : Nat → Nat → Int) (P Q : Pz) (q : Nat) : Prop := q < 64 ∧ ¬ P.1 q = Q.1 q ∧ ∀ q', q' < 64 → ¬ P.1 q' = Q.1 q' → q' = q ∨ WFi L q q'
/-- which text comes first, by that square -/
def CfD (L : Nat → Nat → Int) (P Q : Pz) (q : Nat) : Prop := (0 < P.1 q ∧ 0 < Q.1 q ∧ ltP L (P.1 q) < ltP L (Q.1 q)) ∨ (0 < P.1 q ∧ Q.1 q = 0 ∧ (0 < (q : Int) % L 0 0 ∧ P.1 (q - 1) = 0)) ∨ (P.1 q = 0 ∧ 0 < Q.1 q ∧ ¬ (0 < (q : Int) % L 0 0 ∧ P.1 (q - 1) = 0))
theorem cf_lt {L : Nat → Nat → Int} {P Q : Pz} {q : Nat} (H : LOk L) (T : LtO L) (MP : MOk L P.1) (MQ : MOk L Q.1) (D : FsD L P Q q) (C : CfD L P Q q) : LexLt (wrTx L P) (wrTx L Q) := by
  obtain ⟨q64, dq, fd⟩ := D
  have F8 := H.1
  have R8 := H.2.1
  have qL : (q : Int) < L 0 0 * L 1 0 := by
    have p := MP q q64
    have u := MQ q q64
    by_cases c : 0 < P.1 q
    · exact (p.2 c).1
    · by_cases c' : 0 < Q.1 q
      · exact (u.2 c').1
      · omega
  obtain ⟨Fn, eF⟩ : ∃ Fn : Nat, L 0 0 = (Fn : Int) := ⟨(L 0 0).toNat, by omega⟩
  have tF : (L 0 0).toNat = Fn := by omega
  have F0 : 0 < Fn := by omega
  have di : (q : Int) / L 0 0 = ((q / Fn : Nat) : Int) := by rw [eF]; rfl
  have mi : (q : Int) % L 0 0 = ((q % Fn : Nat) : Int) := by rw [eF]; rfl
  have dm : q / Fn * Fn + q % Fn = q := by rw [Nat.mul_comm]; exact Nat.div_add_mod q Fn
  have ml := Nat.mod_lt q F0
  have rk : ((q / Fn : Nat) : Int) < L 1 0 := by
    obtain ⟨Rn, eR⟩ : ∃ Rn : Nat, L 1 0 = (Rn : Int) := ⟨(L 1 0).toNat, by omega⟩
    rw [eF, eR] at qL
    rw [eR]
    have : q < Rn * Fn := by rw [Nat.mul_comm]; exact Int.ofNat_lt.mp (by rw [Int.natCast_mul]; exact qL)
    exact Int.ofNat_lt.mpr (Nat.div_lt_of_lt_mul (by rw [Nat.mul_comm]; exact this))
  have dv : ∀ x g, g < Fn → (x * Fn + g) / Fn = x := fun x g hg => by
    rw [Nat.mul_comm, Nat.mul_add_div F0, Nat.div_eq_of_lt hg, Nat.add_zero]
  have eqs : ∀ x g, g < Fn → (q / Fn < x ∨ (x = q / Fn ∧ g < q % Fn)) → (x : Int) < L 1 0 → P.1 (x * Fn + g) = Q.1 (x * Fn + g) := fun x g hg hx xL => by
    have x64 : x * Fn + g < 64 := by
      have x8 : x ≤ 7 := by omega
      have f8 : Fn ≤ 8 := by omega
      have := Nat.mul_le_mul x8 f8
      have := Nat.mul_le_mul x8 (Nat.le_refl Fn)
      omega
    refine Classical.byContradiction fun c => ?_
    rcases fd _ x64 c with z | z | ⟨z1, z2⟩
    · have a1 := dv x g hg
      rw [z] at a1
      rcases hx with y | ⟨y1, y2⟩
      · omega
      · rw [← a1] at z
        omega
    · rw [di, eF, show ((x * Fn + g : Nat) : Int) / (Fn : Int) = (((x * Fn + g) / Fn : Nat) : Int) from rfl, dv x g hg] at z
      omega
    · rw [di, eF, show ((x * Fn + g : Nat) : Int) / (Fn : Int) = (((x * Fn + g) / Fn : Nat) : Int) from rfl, dv x g hg] at z1
      rcases hx with y | ⟨y1, y2⟩
      · omega
      · rw [y1] at z2
        omega
  have qe : q / Fn * (L 0 0).toNat + q % Fn = q := by rw [tF]; exact dm
  refine tx_lt (r := q / Fn) (f := q % Fn) H T MP MQ rk (by rw [eF]; omega) (fun x g x1 x2 hg => ?_) (fun g hg => ?_) (by rw [qe]; exact q64) ?_
  · rw [tF] at hg ⊢
    exact eqs x g hg (Or.inl x1) x2
  · rw [tF]
    exact eqs _ g (by omega) (Or.inr ⟨rfl, hg⟩) rk
  · rw [qe]
    unfold CfD at C
    rw [mi] at C
    rcases C with z | ⟨z1, z2, z3⟩ | ⟨z1, z2, z3⟩
    · exact Or.inl z
    · exact Or.inr (Or.inl ⟨z1, z2, by omega, z3.2⟩)
    · exact Or.inr (Or.inr ⟨z1, z2, fun y => z3 ⟨by omega, y.2⟩⟩)
theorem fsd_s {L : Nat → Nat → Int} {P Q : Pz} {q : Nat} (D : FsD L P Q q) : FsD L Q P q := ⟨D.1, fun z => D.2.1 z.symm, fun q' h' n => D.2.2 q' h' (fun z => n z.symm)⟩
/-- one of both comes first -/
theorem cf_or {L : Nat → Nat → Int} {P Q : Pz} {q : Nat} (H : LOk L) (T : LtO L) (LD : LtD L) (MP : MOk L P.1) (MQ : MOk L Q.1) (D : FsD L P Q q) (n : ¬ CfD L P Q q) : CfD L Q P q := by
  obtain ⟨q64, dq, fd⟩ := D
  have p := MP q q64
  have u := MQ q q64
  have F8 := H.1
  have bef : (0 < (q : Int) % L 0 0) → P.1 (q - 1) = Q.1 (q - 1) := fun z => Classical.byContradiction fun c => by
    have q0 : 0 < q := by
      by_cases y : q = 0
      · rw [y] at z
        have : ((0 : Nat) : Int) % L 0 0 = 0 := Int.zero_emod _
        omega
      · omega
    have c1 : ((q - 1 : Nat) : Int) = (q : Int) - 1 := by omega
    have : L 0 0 = 3 ∨ L 0 0 = 4 ∨ L 0 0 = 5 ∨ L 0 0 = 6 ∨ L 0 0 = 7 ∨ L 0 0 = 8 := by omega
    rcases fd (q - 1) (by omega) c with y | y | y
    · omega
    · rw [c1] at y
      rcases this with x | x | x | x | x | x <;> rw [x] at y z <;> omega
    · omega
  unfold CfD at n ⊢
  by_cases c : 0 < P.1 q
  · by_cases c' : 0 < Q.1 q
    · refine Or.inl ⟨c', c, ?_⟩
      have ne : ¬ ltP L (P.1 q) = ltP L (Q.1 q) := fun z => dq (ltp_i T LD c (p.2 c).2 c' (u.2 c').2 z)
      have nl : ¬ ltP L (P.1 q) < ltP L (Q.1 q) := fun z => n (Or.inl ⟨c, c', z⟩)
      omega
    · refine Or.inr (Or.inr ⟨by omega, c, fun z => n (Or.inr (Or.inl ⟨c, by omega, z.1, by rw [bef z.1]; exact z.2⟩))⟩)
  · by_cases c' : 0 < Q.1 q
    · refine Or.inr (Or.inl ⟨c', by omega, ?_⟩)
      refine Classical.byContradiction fun z => n (Or.inr (Or.inr ⟨by omega, c', fun y => z ⟨y.1, by rw [← bef y.1]; exact y.2⟩⟩))
    · omega
end
section
/-! BEFORE: codes, their order, rows of them -/
abbrev Cd := Nat × Nat × Nat × Nat
def cdI (c : Cd) : Int := (c.1 : Int) + 64 * (c.2.1 : Int) + 4096 * (c.2.2.1 : Int) + 65536 * (c.2.2.2 : Int)
abbrev cdP (B : Pz) (c : Cd) : Pz := gsP B c.1 c.2.1 c.2.2.1 c.2.2.2
def CdK (L : Nat → Nat → Int) (B : Pz) (c : Cd) : Prop := BfO L B c.1 c.2.1 c.2.2.1 ∧ BfA L c.2.2.2
def CdLt (L : Nat → Nat → Int) (B : Pz) (c c' : Cd) : Prop := LexLt (wrTx L (cdP B c)) (wrTx L (cdP B c'))
section
variable {L : Nat → Nat → Int} {B : Pz} {c c' : Cd}
theorem cd_mok (H : LOk L) (HM : MOk L B.1) (S2 : pzS B < 2) (K : CdK L B c) : MOk L (cdP B c).1 := (gs_rd H HM S2 K.1 K.2).1.1
theorem cd_diff {q : Nat} (d : ¬ (cdP B c).1 q = (cdP B c').1 q) : q = c.1 ∨ q = c.2.1 ∨ q = c'.1 ∨ q = c'.2.1 := by
  refine Classical.byContradiction fun z => d ?_
  have n1 : ¬ q = c.1 := fun y => z (Or.inl y)
  have n2 : ¬ q = c.2.1 := fun y => z (Or.inr (Or.inl y))
  have n3 : ¬ q = c'.1 := fun y => z (Or.inr (Or.inr (Or.inl y)))
  have n4 : ¬ q = c'.2.1 := fun y => z (Or.inr (Or.inr (Or.inr y)))
  rw [gs_o n1 n2, gs_o n3 n4]
theorem cdk_ne (H : LOk L) (S2 : pzS B < 2) (K : CdK L B c) (K' : CdK L B c') (n : ¬ c = c') : ∃ q, q < 64 ∧ ¬ (cdP B c).1 q = (cdP B c').1 q := by
  have L2 := H.2.2.1
  have ne := bf_ne K.1
  have ne' := bf_ne K'.1
  have o := K.1.1
  have o' := K'.1.1
  have t := K.1.2.1
  have t' := K'.1.2.1
  have bt := bfo_t K.1
  by_cases e1 : c.1 = c'.1
  · by_cases e2 : c.2.1 = c'.2.1
    · by_cases e3 : c.2.2.1 = c'.2.2.1
      · refine ⟨c.2.1, t.1, fun z => n ?_⟩
        rw [gs_t ne, e2, gs_t (by rw [← e2]; rw [← e1]; exact ne)] at z
        have a := K.2
        have a' := K'.2
        have e4 : c.2.2.2 = c'.2.2.2 := by
          by_cases y : c.2.2.2 = 15
          · rw [if_pos y] at z
            by_cases y' : c'.2.2.2 = 15
            · omega
            · rw [if_neg y'] at z
              unfold cdV at z
              omega
          · rw [if_neg y] at z
            by_cases y' : c'.2.2.2 = 15
            · rw [if_pos y'] at z
              unfold cdV at z
              omega
            · rw [if_neg y'] at z
              unfold cdV at z
              omega
        exact Prod.ext e1 (Prod.ext e2 (Prod.ext e3 e4))
      · refine ⟨c.1, o.1, fun z => e3 ?_⟩
        rw [gs_s, e1, gs_s] at z
        unfold cdV at z
        omega
    · refine ⟨c.2.1, t.1, fun z => ?_⟩
      rw [gs_t ne, gs_o (by rw [← e1]; exact fun y => ne y.symm) e2, bt] at z
      by_cases y : c.2.2.2 = 15
      · rw [if_pos y] at z; unfold cdV at z; omega
      · rw [if_neg y] at z; unfold cdV at z; omega
  · refine ⟨c.1, o.1, fun z => ?_⟩
    have n2 : ¬ c.1 = c'.2.1 := fun y => by
      have := o.2.2
      rw [y] at this
      omega
    rw [gs_s, gs_o e1 n2, o.2.2] at z
    unfold cdV at z
    omega
theorem fsd_ex {P Q : Pz} (H : LOk L) (h : ∃ q, q < 64 ∧ ¬ P.1 q = Q.1 q) : ∃ q, FsD L P Q q := by
  have F8 := H.1
  have rk : ∀ q : Nat, q < 64 → 0 ≤ (q : Int) / L 0 0 ∧ (q : Int) / L 0 0 ≤ 63 := fun q hq => by
    have : L 0 0 = 3 ∨ L 0 0 = 4 ∨ L 0 0 = 5 ∨ L 0 0 = 6 ∨ L 0 0 = 7 ∨ L 0 0 = 8 := by omega
    rcases this with x | x | x | x | x | x <;> rw [x] <;> omega
  obtain ⟨k, ⟨q, q64, dq, ek⟩, mn⟩ := min_ex (p := fun k => ∃ q, q < 64 ∧ ¬ P.1 q = Q.1 q ∧ k = ((63 - (q : Int) / L 0 0) * 64 + q).toNat) (by
    obtain ⟨q, a, b⟩ := h
    exact ⟨_, q, a, b, rfl⟩)
  refine ⟨q, q64, dq, fun q' h' d' => ?_⟩
  have m := mn _ ⟨q', h', d', rfl⟩
  rw [ek] at m
  have r1 := rk q q64
  have r2 := rk q' h'
  unfold WFi
  omega
theorem cd_tot (H : LOk L) (T : LtO L) (D : LtD L) (HM : MOk L B.1) (S2 : pzS B < 2) (K : CdK L B c) (K' : CdK L B c') (n : ¬ c = c') : CdLt L B c c' ∨ CdLt L B c' c := by
  obtain ⟨q, fd⟩ := fsd_ex H (cdk_ne H S2 K K' n)
  have m := cd_mok H HM S2 K
  have m' := cd_mok H HM S2 K'
  by_cases y : CfD L (cdP B c) (cdP B c') q
  · exact Or.inl (cf_lt H T m m' fd y)
  · exact Or.inr (cf_lt H T m' m (fsd_s fd) (cf_or H T D m m' fd y))
end
/-! rows in order -/
def SqS (R : Cd → Cd → Prop) (N : Nat) (f : Nat → Cd) : Prop := ∀ i j, i < j → j < N → R (f i) (f j)
def insF (f : Nat → Cd) (lo : Nat) (c : Cd) : Nat → Cd := fun k => if k < lo then f k else if k = lo then c else f (k - 1)
section
variable {R : Cd → Cd → Prop} {N N' : Nat} {f f' : Nat → Cd} {c : Cd}
theorem ins_l {lo k : Nat} (h : k < lo) : insF f lo c k = f k := if_pos h
theorem ins_e {lo : Nat} : insF f lo c lo = c := by
  unfold insF
  rw [if_neg (Nat.lt_irrefl _), if_pos rfl]
theorem ins_g {lo k : Nat} (h : lo < k) : insF f lo c k = f (k - 1) := by
  unfold insF
  rw [if_neg (by omega), if_neg (by omega)]
theorem sq_ins {lo : Nat} (S : SqS R N f) (l : lo ≤ N) (a : ∀ k, k < lo → R (f k) c) (b : ∀ k, lo ≤ k → k < N → R c (f k)) : SqS R (N + 1) (insF f lo c) := by
  intro i j ij jN
  rcases Nat.lt_trichotomy i lo with x | x | x
  · rw [ins_l x]
    rcases Nat.lt_trichotomy j lo with y | y | y
    · rw [ins_l y]; exact S i j ij (by omega)
    · rw [y, ins_e]; exact a i x
    · rw [ins_g y]; exact S i (j - 1) (by omega) (by omega)
  · rw [x, ins_e, ins_g (by omega)]
    exact b (j - 1) (by omega) (by omega)
  · rw [ins_g x, ins_g (by omega)]
    exact S (i - 1) (j - 1) (by omega) (by omega)
theorem ins_m {lo : Nat} {x : Cd} (l : lo ≤ N) : (∃ k, k < N + 1 ∧ insF f lo c k = x) ↔ (x = c ∨ ∃ k, k < N ∧ f k = x) := by
  constructor
  · intro ⟨k, hk, e⟩
    rcases Nat.lt_trichotomy k lo with y | y | y
    · rw [ins_l y] at e; exact Or.inr ⟨k, by omega, e⟩
    · rw [y, ins_e] at e; exact Or.inl e.symm
    · rw [ins_g y] at e; exact Or.inr ⟨k - 1, by omega, e⟩
  · intro z
    rcases z with z | ⟨k, hk, e⟩
    · exact ⟨lo, by omega, by rw [ins_e]; exact z.symm⟩
    · by_cases y : k < lo
      · exact ⟨k, by omega, by rw [ins_l y]; exact e⟩
      · exact ⟨k + 1, by omega, by rw [ins_g (by omega)]; exact e⟩
theorem sqs_pos (tr : ∀ {x y z}, R x y → R y z → R x z) (tot : ∀ k, k < N → R (f k) c ∨ R c (f k)) : ∀ M, M ≤ N → SqS R N f → ∃ lo, lo ≤ M ∧ (∀ k, k < lo → R (f k) c) ∧ ∀ k, lo ≤ k → k < M → R c (f k) := by
  intro M
  induction M with
  | zero => intro _ _; exact ⟨0, Nat.le_refl _, fun k hk => absurd hk (Nat.not_lt_zero _), fun k _ hk => absurd hk (Nat.not_lt_zero _)⟩
  | succ M ih =>
    intro hM S
    obtain ⟨lo, l, a, b⟩ := ih (by omega) S
    by_cases y : lo = M
    · rcases tot M (by omega) with z | z
      · refine ⟨M + 1, Nat.le_refl _, fun k hk => ?_, fun k hk hk' => by omega⟩
        by_cases w : k = M
        · rw [w]; exact z
        · exact a k (by omega)
      · refine ⟨M, by omega, fun k hk => a k (by omega), fun k hk hk' => ?_⟩
        rw [show k = M by omega]; exact z
    · refine ⟨lo, by omega, a, fun k hk hk' => ?_⟩
      by_cases w : k = M
      · rw [w]; exact tr (b lo (Nat.le_refl _) (by omega)) (S lo M (by omega) (by omega))
      · exact b k hk (by omega)
theorem sq_le (ir : ∀ x, ¬ R x x) (tr : ∀ {x y z}, R x y → R y z → R x z) (S : SqS R N f) (S' : SqS R N' f') (m : ∀ k, k < N → ∃ i, i < N' ∧ f' i = f k) : N ≤ N' := by
  have key : ∀ k i, k < N → i < N' → f' i = f k → k ≤ i := by
    intro k
    induction k with
    | zero => intro i _ _ _; exact Nat.zero_le _
    | succ k ih =>
      intro i hk hi e
      obtain ⟨j, hj, ej⟩ := m k (by omega)
      have := ih j (by omega) hj ej
      have r := S k (k + 1) (by omega) hk
      rw [← ej, ← e] at r
      rcases Nat.lt_trichotomy j i with y | y | y
      · omega
      · rw [y] at r; exact absurd r (ir _)
      · exact absurd (tr r (S' i j y hj)) (ir _)
  by_cases z : N = 0
  · omega
  · obtain ⟨i, hi, e⟩ := m (N - 1) (by omega)
    have := key (N - 1) i (by omega) hi e
    omega
theorem sq_uni (ir : ∀ x, ¬ R x x) (tr : ∀ {x y z}, R x y → R y z → R x z) (S : SqS R N f) (S' : SqS R N' f') (m : ∀ x, (∃ k, k < N ∧ f k = x) ↔ ∃ k, k < N' ∧ f' k = x) : N = N' ∧ ∀ k, k < N → f k = f' k := by
  have l1 := sq_le ir tr S S' (fun k hk => (m (f k)).mp ⟨k, hk, rfl⟩)
  have l2 := sq_le ir tr S' S (fun k hk => (m (f' k)).mpr ⟨k, hk, rfl⟩)
  refine ⟨by omega, fun k => ?_⟩
  induction k using Nat.strongRecOn with
  | ind k ih =>
    intro hk
    obtain ⟨i, hi, ei⟩ := (m (f k)).mp ⟨k, hk, rfl⟩
    obtain ⟨j, hj, ej⟩ := (m (f' k)).mpr ⟨k, by omega, rfl⟩
    have ik : ¬ i < k := fun y => by
      have := ih i y (by omega)
      have r := S i k y hk
      rw [this, ei] at r
      exact ir _ r
    have jk : ¬ j < k := fun y => by
      have := ih j y (by omega)
      have r := S' j k y (by omega)
      rw [← this, ej] at r
      exact ir _ r
    by_cases y : i = k
    · rw [← ei, y]
    · by_cases w : j = k
      · rw [← ej, w]
      · have r1 := S' k i (by omega) hi
        have r2 := S k j (by omega) hj
        rw [ei] at r1
        rw [ej] at r2
        exact absurd (tr r1 r2) (ir _)
end
/-- a row of what was found, out of the codes that were tried -/
def SqM (L : Nat → Nat → Int) (B : Pz) (Bf Pr : Cd → Prop) (N : Nat) (f : Nat → Cd) : Prop := SqS (CdLt L B) N f ∧ ∀ c, (∃ k, k < N ∧ f k = c) ↔ (Pr c ∧ Bf c)
def OvB (L : Nat → Nat → Int) (B : Pz) (Bf : Cd → Prop) : Prop := ∃ f, SqS (CdLt L B) 3001 f ∧ ∀ k, k < 3001 → Bf (f k)
section
variable {L : Nat → Nat → Int} {B : Pz} {Bf Bf' Pr Pr' : Cd → Prop} {N N' : Nat} {f f' : Nat → Cd} {c : Cd}
theorem cdl_i (x : Cd) : ¬ CdLt L B x x := lex_i
theorem cdl_t {x y z : Cd} (a : CdLt L B x y) (b : CdLt L B y z) : CdLt L B x z := lex_t a b
theorem sqm_w (S : SqM L B Bf Pr N f) (a : ∀ x, Pr x → Pr' x) (b : ∀ x, Pr' x → Bf x → Pr x) : SqM L B Bf Pr' N f := ⟨S.1, fun x => by
  rw [S.2 x]
  exact ⟨fun z => ⟨a x z.1, z.2⟩, fun z => ⟨b x z.1 z.2, z.2⟩⟩⟩
theorem sqm_add {lo : Nat} (S : SqM L B Bf Pr N f) (bc : Bf c) (l : lo ≤ N) (a : ∀ k, k < lo → CdLt L B (f k) c) (b : ∀ k, lo ≤ k → k < N → CdLt L B c (f k)) : SqM L B Bf (fun x => Pr x ∨ x = c) (N + 1) (insF f lo c) := ⟨sq_ins S.1 l a b, fun x => by
  rw [ins_m l, S.2 x]
  constructor
  · intro z
    rcases z with z | z
    · rw [z]; exact ⟨Or.inr rfl, bc⟩
    · exact ⟨Or.inl z.1, z.2⟩
  · intro ⟨z, y⟩
    rcases z with z | z
    · exact Or.inr ⟨z, y⟩
    · exact Or.inl z⟩
theorem sqm_skip (S : SqM L B Bf Pr N f) (n : ¬ Bf c) : SqM L B Bf (fun x => Pr x ∨ x = c) N f := sqm_w S (fun _ z => Or.inl z) (fun x z y => by
  rcases z with z | z
  · exact z
  · rw [z] at y; exact absurd y n)
theorem sqm_n (S : SqM L B Bf Pr N f) (np : ¬ Pr c) {k : Nat} (hk : k < N) : ¬ f k = c := fun z => np ((S.2 c).mp ⟨k, hk, z⟩).1
theorem sqm_f (S : SqM L B Bf Pr N f) {k : Nat} (hk : k < N) : Bf (f k) := ((S.2 (f k)).mp ⟨k, hk, rfl⟩).2
theorem sqm_tot (H : LOk L) (T : LtO L) (D : LtD L) (HM : MOk L B.1) (S2 : pzS B < 2) (bk : ∀ x, Bf x → CdK L B x) (S : SqM L B Bf Pr N f) (np : ¬ Pr c) (bc : Bf c) : ∀ k, k < N → CdLt L B (f k) c ∨ CdLt L B c (f k) := fun _ hk => cd_tot H T D HM S2 (bk _ (sqm_f S hk)) (bk _ bc) (sqm_n S np hk)
theorem ovb_of (H : LOk L) (T : LtO L) (D : LtD L) (HM : MOk L B.1) (S2 : pzS B < 2) (bk : ∀ x, Bf x → CdK L B x) (S : SqM L B Bf Pr 3000 f) (np : ¬ Pr c) (bc : Bf c) : OvB L B Bf := by
  obtain ⟨lo, l, a, b⟩ := sqs_pos (R := CdLt L B) (fun x y => cdl_t x y) (sqm_tot H T D HM S2 bk S np bc) 3000 (Nat.le_refl _) S.1
  have y := sqm_add S bc l a b
  exact ⟨_, y.1, fun k hk => sqm_f y hk⟩
/-- both find the same -/
theorem bf_same (eq : ∀ x, Bf x ↔ Bf' x) (S : SqM L B Bf (fun _ => True) N f) (S' : SqM L B Bf' (fun _ => True) N' f') : N = N' ∧ ∀ k, k < N → f k = f' k := sq_uni cdl_i (fun x y => cdl_t x y) S.1 S'.1 (fun x => by
  rw [S.2 x, S'.2 x, eq x])
theorem bf_over (eq : ∀ x, Bf x ↔ Bf' x) (S : SqM L B Bf (fun _ => True) N f) (O : OvB L B Bf') : 3001 ≤ N := by
  obtain ⟨g, s, m⟩ := O
  exact sq_le cdl_i (fun x y => cdl_t x y) s S.1 (fun k hk => (S.2 _).mpr ⟨trivial, (eq _).mpr (m k hk)⟩)
end
end
