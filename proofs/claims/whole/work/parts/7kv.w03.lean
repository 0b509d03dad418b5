section
/-! positions that are SAME: the class -/
def swT (k : Nat) : Nat := if k = 4 then 310 else if k = 310 then 4 else if k = 34 then 311 else if k = 311 then 34 else if k = 35 then 312 else if k = 312 then 35 else if k = 36 then 313 else if k = 313 then 36 else if k = 37 then 314 else if k = 314 then 37 else if k = 38 then 315 else if k = 315 then 38 else k
/-- another position of the class in the place of the first -/
def vT (V : Nat → Nat) : Nat → Nat := fun k => V (swT k)
set_option maxRecDepth 20000 in
theorem swt_in : ∀ a, a ∈ vql → swT a ∈ vql := by decide
theorem swt_sw (a : Nat) : swT (swT a) = a := by
  by_cases h : a ∈ [4, 310, 34, 311, 35, 312, 36, 313, 37, 314, 38, 315]
  · have all : ∀ x, x ∈ [4, 310, 34, 311, 35, 312, 36, 313, 37, 314, 38, 315] → swT (swT x) = x := by decide
    exact all a h
  · have e : swT a = a := by
      simp at h
      unfold swT
      repeat' split
      all_goals omega
    rw [e, e]
section
variable {V : Nat → Nat} {h o g : Hp} {Ls : List (Nat × Nat)}
theorem vd_t (D : VD V) : VD (vT V) := fun a ha b hb n e => D (swT a) (swt_in a ha) (swT b) (swt_in b hb) (fun z => n (by rw [← swt_sw a, z, swt_sw])) e
theorem fv_t1 (A : FrV (vT V) (wl Ls) h o) : FrV V (wl (Ls.map fun p => (swT p.1, p.2))) h o :=
  ⟨A.1, fun a i n => A.2 a i (fun k wk e => n (swT k) (by
    obtain ⟨j, m, z⟩ := wl_m wk
    exact wl_i (j := j) (List.mem_map.mpr ⟨(k, j), m, rfl⟩) z) e)⟩
theorem fv_t2 (A : FrV V (wl Ls) h o) : FrV (vT V) (wl (Ls.map fun p => (swT p.1, p.2))) h o :=
  ⟨A.1, fun a i n => A.2 a i (fun k wk e => n (swT k) (by
    obtain ⟨j, m, z⟩ := wl_m wk
    exact wl_i (j := j) (List.mem_map.mpr ⟨(k, j), m, rfl⟩) z) (by
      show a = V (swT (swT k))
      rw [swt_sw]; exact e))⟩
end
theorem dig_eq : ∀ (n x y : Nat), x < 2 ^ (5 * n) → y < 2 ^ (5 * n) → (∀ m, m < n → x / 2 ^ (5 * m) % 32 = y / 2 ^ (5 * m) % 32) → x = y := fun n => by
  induction n with
  | zero => intro x y h h' _; simp at h h'; omega
  | succ n ih =>
    intro x y h h' d
    have d0 := d 0 (by omega)
    rw [Nat.mul_zero, Nat.pow_zero, Nat.div_one, Nat.div_one] at d0
    rw [show 5 * (n + 1) = 5 * n + 5 by omega, Nat.pow_add] at h h'
    have := ih (x / 32) (y / 32) (Nat.div_lt_of_lt_mul (by rw [Nat.mul_comm]; exact h)) (Nat.div_lt_of_lt_mul (by rw [Nat.mul_comm]; exact h')) (fun m hm => by
      have e := d (m + 1) (by omega)
      rw [show 5 * (m + 1) = 5 + 5 * m by omega, Nat.pow_add, ← Nat.div_div_eq_div_mul, ← Nat.div_div_eq_div_mul] at e
      exact e)
    omega
theorem hd_ext {x y : Int64} (A : HdB x) (B : HdB y) : x = y ↔ ∀ m, m < 12 → hv x m = hv y m := by
  constructor
  · intro e m _; rw [e]
  · intro z
    have : x.toBitVec.toNat = y.toBitVec.toNat := dig_eq 12 _ _ A B (fun m hm => z m hm)
    exact Int64.toBitVec_inj.mp (BitVec.eq_of_toNat_eq this)
theorem pw_ext {x y : Int64} {n m : Nat} {q r : Nat → Nat} (A : Pw x n q) (B : Pw y m r) : x = y ↔ (n = m ∧ ∀ i, i < n → q i = r i) := by
  obtain ⟨a1, a2, a3⟩ := A
  obtain ⟨b1, b2, b3⟩ := B
  constructor
  · intro e
    rw [e] at a3
    have nm : n = m := by omega
    have pk : pkS q n = pkS r m := by omega
    refine ⟨nm, fun i hi => ?_⟩
    have d1 := pks_dig n a2 i hi
    have d2 := pks_dig m b2 i (by omega)
    rw [pk] at d1
    omega
  · rintro ⟨e, z⟩
    have : x.toBitVec.toNat = y.toBitVec.toNat := by
      rw [a3, b3, ← e, pks_c n z]
    exact Int64.toBitVec_inj.mp (BitVec.eq_of_toNat_eq this)
section
variable {F : Nat} {V : Nat → Nat} {L : Nat → Nat → Int} {h : Hp} {P Q : Pz} {o : Int32 × Hp}
theorem mc_28 {ms : List MvT} (R : CLs V h ms) (w2 : hR h (V 6) 2 = some (V 47)) {x2 : Int32} (e2 : x2.toInt = (ms.length : Int)) : ∀ (f : Nat) {x3 : Int32} {n : Nat}, x3.toInt = (n : Int) → n ≤ ms.length → (∀ i, i < n → ∀ v, ms[i]? = some v → ¬ v.2.2.2.2.2.1 = 1) → sX5_mayCatch_28 F f h (V 6) x2 x3 = some o → o.2 = h ∧ ((o.1 = 0 ∧ ¬ ∃ v, v ∈ ms ∧ v.2.2.2.2.2.1 = 1) ∨ (o.1 = 1 ∧ ∃ v, v ∈ ms ∧ v.2.2.2.2.2.1 = 1)) := by
  have z1 : (1 : Int32).toInt = 1 := rfl
  have mx : x2.toInt ≤ 2147483647 := Int32.toInt_le _
  intro f
  induction f with
  | zero => intro x3 n _ _ _ e; exact absurd e (by rw [sX5_mayCatch_28]; exact fun z => nomatch z)
  | succ f ih =>
    intro x3 n e3 nl al e
    rw [sX5_mayCatch_28] at e
    rcases br_s e with ⟨l, e⟩ | ⟨l, e⟩
    · have l := le_i l
      rw [e2, e3] at l
      rw [so_e e]
      refine ⟨rfl, Or.inl ⟨rfl, fun ⟨v, m, k⟩ => ?_⟩⟩
      obtain ⟨i, hi, ei⟩ := List.mem_iff_getElem.mp m
      exact al i (by omega) v (by rw [List.getElem?_eq_getElem hi, ei]) k
    have l := nle_i l
    rw [e2, e3] at l
    have c3 : x3.toNatClampNeg = n := by have := nc_i (x := x3) (by omega); omega
    replace e := ce_e w2 e
    replace e := gg_e e
    rw [c3] at e
    obtain ⟨v, ev, mv⟩ := R.2 n (by omega)
    replace e := cl_s e; obtain ⟨o4, eo4, e⟩ := e
    obtain ⟨_, _, _, _, _, f5, _⟩ := pk_fd mv
    unfold sX5_kindOf at eo4
    have w4 : o4.2 = h := by rw [so_e eo4]
    have r4 : o4.1.toInt = v.2.2.2.2.2.1 := by rw [so_e eo4]; exact f5
    rw [w4] at e
    rcases br_s e with ⟨c, e⟩ | ⟨c, e⟩
    · rw [so_e e]
      refine ⟨rfl, Or.inr ⟨rfl, v, List.mem_of_getElem? ev, ?_⟩⟩
      rw [← r4, c, z1]
    · refine ih (n := n + 1) (by rw [ta (by rw [z1]; omega), z1, e3]; omega) (by omega) (fun i hi v' ev' => ?_) (nx_e e)
      by_cases q : i = n
      · rw [q, ev] at ev'
        rw [← Option.some.inj ev']
        exact fun z => c (Int32.toInt_inj.mp (by rw [r4, z, z1]))
      · exact al i (by omega) v' ev'
/-- what a class's position keeps while moves are collected -/
def KpCo (V : Nat → Nat) (h g : Hp) : Prop := g = h ∨ (FrV V (wl wcq) (bgH V h) g ∧ hN g (V 47) = hN h (V 47))
theorem mc_c (D : VD V) (H : LOk L) (K : LawK L) (O : PzOk L P) (C : CcB V h L P) (w2 : hR h (V 6) 2 = some (V 47)) (e : sX5_mayCatch F h (V 6) (V 4) = some o) : KpCo V h o.2 ∧ ((o.1 = 0 ∧ ¬ Cch L P) ∨ (o.1 = 1 ∧ Cch L P)) := by
  have z0 : (0 : Int32).toInt = 0 := rfl
  have pw := pw_z C.2.2.1.2.2.2.2.1.1
  unfold sX5_mayCatch sX5_mayCatch_25 at e
  rcases br_s e with ⟨c, e⟩ | ⟨c, e⟩
  · rw [c_zero, pw] at c
    have nc : ¬ Cch L P := fun z => by have := cch_n H K O z; omega
    cases F with
    | zero => exact absurd e (by rw [sX5_mayCatch_28]; exact fun z => nomatch z)
    | succ f =>
      rw [sX5_mayCatch_28] at e
      replace e := bp_e (by decide) e
      rw [so_e e]
      exact ⟨Or.inl rfl, Or.inl ⟨rfl, nc⟩⟩
  replace e := ce_e w2 e
  replace e := cl_s e; obtain ⟨o3, eo3, e⟩ := e
  obtain ⟨A, ln, R, len⟩ := co_all D H K O C eo3
  have w2' : hR o3.2 (V 6) 2 = some (V 47) := by
    rw [A.1, bg_o (fun z => by omega)]; exact w2
  obtain ⟨w, r⟩ := mc_28 R w2' len F (n := 0) rfl (Nat.zero_le _) (fun i hi => absurd hi (Nat.not_lt_zero _)) e
  rw [w]
  exact ⟨Or.inr ⟨A, ln⟩, r⟩
theorem cpp_b (D : VD V) {ro : Int} (C : CpP V h ro P) {g : Hp} (W : ∀ k i, k ∈ [4, 34, 35, 36, 37, 38] → hR g (V k) i = hR h (V k) i) (a : ∀ x i, hI g x i = hI h x i) (b : ∀ x i, hJ g x i = hJ h x i) : CpP V g ro P := by
  obtain ⟨⟨v1, v2, v3, v4, v5⟩, ⟨p1, p2, p3, p4⟩, c, d, e, ⟨f1, f2⟩, i, j⟩ := C
  refine ⟨⟨by rw [W 4 0 (by decide)]; exact v1, by rw [W 4 1 (by decide)]; exact v2, by rw [W 4 2 (by decide)]; exact v3, by rw [W 4 3 (by decide)]; exact v4, by rw [W 4 4 (by decide)]; exact v5⟩, ⟨fun s hs => by rw [a]; exact p1 s hs, fun d' hd => by rw [b]; exact p2 d' hd, fun d' hd => by rw [a]; exact p3 d' hd, p4⟩, by rw [a]; exact c, fun q hq => by rw [b]; exact d q hq, by rw [b, b]; exact e, ⟨fun s hs => by rw [b]; exact f1 s hs, fun d' hd => by rw [b]; exact f2 d' hd⟩, fun d' hd => by rw [a]; exact i d' hd, by rw [a]; exact j⟩
/-- what two positions need -/
def AlW (V : Nat → Nat) (h : Hp) (L : Nat → Nat → Int) (P Q : Pz) : Prop := CcB V h L P ∧ CpP (vT V) h (L 10 0) Q ∧ hR h (V 6) 2 = some (V 47)
theorem alw_k (D : VD V) {g : Hp} (W : AlW V h L P Q) (k : KpCo V h g) : AlW V g L P Q := by
  rcases k with z | ⟨A, ln⟩
  · rw [z]; exact W
  obtain ⟨C, C2, w2⟩ := W
  have C1 := ccw_q D (ccb_w D C) A (by rw [ln]; rfl)
  have B : CpP (vT V) (bgH V h) (L 10 0) Q := cpp_b (V := vT V) (vd_t D) C2 (fun k i hk => bg_o (fun z => by
    have all : ∀ k, k ∈ [4, 34, 35, 36, 37, 38] → swT k ∈ vql ∧ ¬ swT k = 6 := by decide
    exact D (swT k) (all k hk).1 6 (by decide) (all k hk).2 z.1)) (fun _ _ => rfl) (fun _ _ => rfl)
  refine ⟨⟨C1.1, C1.2.1, C1.2.2.1, C1.2.2.2.1.2.2, C1.2.2.2.2.1, C1.2.2.2.2.2⟩, cpp_f (V := vT V) (vd_t D) B (fv_t2 A) (by decide), ?_⟩
  rw [A.1, bg_o (fun z => by omega)]; exact w2
/-- the other position in the place of the first -/
theorem alw_s (W : AlW V h L P Q) : CcB (vT V) h L Q := by
  obtain ⟨⟨⟨a1, a2, a3, a4⟩, c2, c3, c4, c5, c6⟩, C2, w2⟩ := W
  exact ⟨⟨a1, a2, wyt_v rfl rfl rfl rfl rfl a3, a4⟩, c2, C2, c4, c5, c6⟩
def AlR (V : Nat → Nat) (h : Hp) (L : Nat → Nat → Int) (P Q : Pz) (o : Int32 × Hp) : Prop := (∃ g, KpCo V h g ∧ KpCo (vT V) g o.2) ∧ ((o.1 = 0 ∧ ¬ SamP L P Q) ∨ (o.1 = 1 ∧ SamP L P Q))
theorem al_0 {P Q : Pz} (n : ¬ SamP L P Q) (e : some ((0 : Int32), h) = some o) : AlR V h L P Q o := by
  rw [so_e e]
  exact ⟨⟨h, Or.inl rfl, Or.inl rfl⟩, Or.inl ⟨rfl, n⟩⟩
theorem al_89 (D : VD V) (H : LOk L) (K : LawK L) (O : PzOk L P) (O' : PzOk L Q) (W : AlW V h L P Q) (sa : SamA P Q) (sh : ∀ d, d < 24 → pzH P d = pzH Q d) : ∀ (f : Nat) {x3 : Int32} {n : Nat}, x3.toInt = (n : Int) → (n : Int) ≤ L 0 0 * L 1 0 → (∀ s, s < n → P.1 s = Q.1 s) → sX5_areAlike_89 F f h (V 6) (V 4) (vT V 4) x3 = some o → AlR V h L P Q o := by
  have z1 : (1 : Int32).toInt = 1 := rfl
  have sq := sq_64 H
  have l2 := W.1.2.1.1.2.2.1
  have w0 := W.1.1.1.1
  have C1 := W.1.2.2.1
  have C2 := W.2.1
  intro f
  induction f with
  | zero => intro x3 n _ _ _ e; exact absurd e (by rw [sX5_areAlike_89]; exact fun z => nomatch z)
  | succ f ih =>
    intro x3 n e3 nl al e
    rw [sX5_areAlike_89] at e
    replace e := ce_e w0 e
    rcases br_s e with ⟨l, e⟩ | ⟨l, e⟩
    · have l := le_i l
      rw [l2, e3] at l
      have sb : SamB P Q := ⟨sa, fun s hs => by
        by_cases c : s < n
        · exact al s c
        · have u := O.1 s hs
          have u' := O'.1 s hs
          have : ¬ 0 < P.1 s := fun z => by have := (u.2 z).1; omega
          have : ¬ 0 < Q.1 s := fun z => by have := (u'.2 z).1; omega
          omega, sh⟩
      have pe := pw_ext C1.2.2.2.2.1.1 C2.2.2.2.2.1.1
      unfold sX5_areAlike_151 sX5_areAlike_155 sX5_areAlike_156 at e
      rcases br_s e with ⟨c, e⟩ | ⟨c, e⟩
      · have c := pe.mp (lg_eq.mp c)
        rw [so_e (gg_e e)]
        exact ⟨⟨h, Or.inl rfl, Or.inl rfl⟩, Or.inr ⟨rfl, sb, Or.inl c⟩⟩
      have c : ¬ PasE P Q := fun z => c (lg_eq.mpr (pe.mpr z))
      replace e := cl_s e; obtain ⟨o4, eo4, e⟩ := e
      obtain ⟨k4, r4⟩ := mc_c D H K O W.1 W.2.2 eo4
      rcases r4 with ⟨q, r⟩ | ⟨q, r⟩
      rotate_left
      · rw [so_e (gg_e (bn_e (by rw [q]; decide) e))]
        refine ⟨⟨o4.2, k4, Or.inl rfl⟩, Or.inl ⟨rfl, fun z => ?_⟩⟩
        rcases z.2 with y | y
        · exact c y
        · exact y.1 r
      replace e := bp_e q e
      replace e := cl_s e; obtain ⟨o6, eo6, e⟩ := e
      have W4 := alw_k D W k4
      obtain ⟨k6, r6⟩ := mc_c (V := vT V) (vd_t D) H K O' (alw_s W4) W4.2.2 eo6
      rcases r6 with ⟨q', r'⟩ | ⟨q', r'⟩
      · rw [so_e (gg_e (bp_e q' e))]
        exact ⟨⟨o4.2, k4, k6⟩, Or.inr ⟨rfl, sb, Or.inr ⟨r, r'⟩⟩⟩
      · rw [so_e (gg_e (bn_e (by rw [q']; decide) e))]
        refine ⟨⟨o4.2, k4, k6⟩, Or.inl ⟨rfl, fun z => ?_⟩⟩
        rcases z.2 with y | y
        · exact c y
        · exact y.2 r'
    have l := nle_i l
    rw [l2, e3] at l
    have c3 : x3.toNatClampNeg = n := by have := nc_i (x := x3) (by omega); omega
    have q1 := C1.2.1.1 n (by omega)
    have q2 := C2.2.1.1 n (by omega)
    replace e := ce_e C1.1.1 e
    replace e := gg_e e
    replace e := ce_e C2.1.1 e
    replace e := gg_e e
    rcases br_s e with ⟨c, e⟩ | ⟨c, e⟩ <;> rw [c3] at c
    · refine ih (n := n + 1) (by rw [ta (by rw [z1]; omega), z1, e3]; omega) (by omega) (fun s hs => ?_) (nx_e e)
      by_cases z : s = n
      · rw [c] at q1
        rw [z]
        omega
      · exact al s (by omega)
    · refine al_0 (fun z => c (Int32.toInt_inj.mp ?_)) e
      rw [q1, q2, z.1.2.1 n (by omega)]
theorem al_27 (D : VD V) (H : LOk L) (K : LawK L) (O : PzOk L P) (O' : PzOk L Q) (W : AlW V h L P Q) (s1 : pzS P = pzS Q) (r1 : ∀ q, q < 64 → pzR P q = pzR Q q) : ∀ (f : Nat) {x3 : Int32} {n : Nat}, x3.toInt = (n : Int) → n ≤ 2 → (∀ d, d < n → pzC P d = pzC Q d ∧ ∀ m, m < 12 → pzH P (2 * m + d) = pzH Q (2 * m + d)) → sX5_areAlike_27 F f h (V 6) (V 4) (vT V 4) x3 = some o → AlR V h L P Q o := by
  have z1 : (1 : Int32).toInt = 1 := rfl
  have z2 : (2 : Int32).toInt = 2 := rfl
  have sq := sq_64 H
  have C1 := W.1.2.2.1
  have C2 := W.2.1
  intro f
  induction f with
  | zero => intro x3 n _ _ _ e; exact absurd e (by rw [sX5_areAlike_27]; exact fun z => nomatch z)
  | succ f ih =>
    intro x3 n e3 nl al e
    rw [sX5_areAlike_27] at e
    unfold sX5_areAlike_79 at e
    rcases br_s e with ⟨l, e⟩ | ⟨l, e⟩
    · have l := le_i l
      rw [z2, e3] at l
      refine al_89 D H K O O' W ⟨s1, r1, fun d hd => (al d (by omega)).1⟩ (fun d hd => ?_) F (n := 0) rfl (by omega) (fun s hs => absurd hs (Nat.not_lt_zero _)) e
      have := (al (d % 2) (by omega)).2 (d / 2) (by omega)
      rw [show 2 * (d / 2) + d % 2 = d by omega] at this
      exact this
    have l := nle_i l
    rw [z2, e3] at l
    have c3 : x3.toNatClampNeg = n := by have := nc_i (x := x3) (by omega); omega
    replace e := ce_e C1.1.2.1 e
    replace e := gg_e e
    replace e := ce_e C2.1.2.1 e
    replace e := gg_e e
    rcases br_s e with ⟨a, e⟩ | ⟨a, e⟩ <;> rw [c3, lg_eq] at a
    rotate_left
    · refine al_0 (fun z => a (j_ext.mpr (fun q hq => ?_))) e
      have b1 := C1.2.1.2.1 n (by omega) q hq
      have b2 := C2.2.1.2.1 n (by omega) q hq
      rw [z.1.2.1 q hq] at b1
      exact Bool.eq_iff_iff.mpr (b1.trans b2.symm)
    have h1 := C1.2.2.2.2.2.1
    have h2 := C2.2.2.2.2.2.1
    have he := hd_ext (h1.1 n (by omega)) (h2.1 n (by omega))
    have hp : ∀ m, m < 12 → ((hv (hJ h (V 37) n) m : Nat) : Int) = pzH P (2 * m + n) ∧ ((hv (hJ h (vT V 37) n) m : Nat) : Int) = pzH Q (2 * m + n) := fun m hm => by
      have e1 := h1.2 (2 * m + n) (by omega)
      have e2 := h2.2 (2 * m + n) (by omega)
      rw [show (2 * m + n) % 2 = n by omega, show (2 * m + n) / 2 = m by omega] at e1 e2
      exact ⟨e1, e2⟩
    replace e := ce_e C1.1.2.2.2.1 e
    replace e := gg_e e
    replace e := ce_e C2.1.2.2.2.1 e
    replace e := gg_e e
    rcases br_s e with ⟨b, e⟩ | ⟨b, e⟩ <;> rw [c3, lg_eq, he] at b
    rotate_left
    · refine al_0 (fun z => b (fun m hm => ?_)) e
      have := hp m hm
      have := z.1.2.2 (2 * m + n) (by omega)
      omega
    have q1 := C1.2.2.2.2.2.2.1 n (by omega)
    have q2 := C2.2.2.2.2.2.2.1 n (by omega)
    replace e := ce_e C1.1.2.2.2.2 e
    replace e := gg_e e
    replace e := ce_e C2.1.2.2.2.2 e
    replace e := gg_e e
    rcases br_s e with ⟨c, e⟩ | ⟨c, e⟩ <;> rw [c3] at c
    rotate_left
    · refine al_0 (fun z => c (Int32.toInt_inj.mp ?_)) e
      rw [q1, q2, z.1.1.2.2 n (by omega)]
    refine ih (n := n + 1) (by rw [ta (by rw [z1]; omega), z1, e3]; omega) (by omega) (fun d hd => ?_) (nx_e e)
    by_cases y : d = n
    · rw [y]
      refine ⟨by rw [← q1, c, q2], fun m hm => ?_⟩
      have := hp m hm
      have := b m hm
      omega
    · exact al d (by omega)
/-- SAME: the class -/
theorem al_c (D : VD V) (H : LOk L) (K : LawK L) (O : PzOk L P) (O' : PzOk L Q) (W : AlW V h L P Q) (e : sX5_areAlike F h (V 6) (V 4) (vT V 4) = some o) : AlR V h L P Q o := by
  have C1 := W.1.2.2.1
  have C2 := W.2.1
  have s1 := C1.2.2.1
  have s2 := C2.2.2.1
  unfold sX5_areAlike sX5_areAlike_23 at e
  rcases br_s e with ⟨a, e⟩ | ⟨a, e⟩
  rotate_left
  · refine al_0 (fun z => a (Int32.toInt_inj.mp ?_)) e
    have := z.1.1.1
    show (hI h (V 4) 5).toInt = (hI h (vT V 4) 5).toInt
    omega
  have a : hI h (V 4) 5 = hI h (vT V 4) 5 := a
  rw [a] at s1
  rcases br_s e with ⟨b, e⟩ | ⟨b, e⟩ <;> rw [lg_eq, j_ext] at b
  rotate_left
  · refine al_0 (fun z => b (fun q hq => ?_)) e
    rw [C1.2.2.2.1 q hq, C2.2.2.2.1 q hq]
    exact z.1.1.2.1 q hq
  refine al_27 D H K O O' W (by omega) (fun q hq => ?_) F (n := 0) rfl (by decide) (fun d hd => absurd hd (Nat.not_lt_zero _)) e
  rw [← C1.2.2.2.1 q hq, ← C2.2.2.2.1 q hq]
  exact b q hq
end
end
section
/-! the squares that a side SEES: both -/
def OwM (P : Pz) (d s : Nat) : Prop := 0 < P.1 s ∧ (P.1 s - 1) % 2 = (d : Int)
/-- a man is led from s to t -/
def SeT (L : Nat → Nat → Int) (P : Pz) (d s t : Nat) : Prop := ∃ (i : Nat) (k : Int), (i : Int) < L 74 (mnO (P.1 s)) ∧ LdG L P.1 (ovP P) (decide (d = pzS P)) (d : Int) (8 * mnO (P.1 s) + i) s t k
def SeeM (L : Nat → Nat → Int) (P : Pz) (d n t : Nat) : Prop := ∃ s, s < n ∧ OwM P d s ∧ (t = s ∨ ((t : Int) < L 0 0 * L 1 0 ∧ SeT L P d s t))
theorem see_s {L : Nat → Nat → Int} {P : Pz} {d n t : Nat} : SeeM L P d (n + 1) t ↔ SeeM L P d n t ∨ (OwM P d n ∧ (t = n ∨ ((t : Int) < L 0 0 * L 1 0 ∧ SeT L P d n t))) := by
  constructor
  · rintro ⟨s, hs, a, b⟩
    by_cases c : s = n
    · rw [c] at a b; exact Or.inr ⟨a, b⟩
    · exact Or.inl ⟨s, by omega, a, b⟩
  · rintro (⟨s, hs, a, b⟩ | ⟨a, b⟩)
    · exact ⟨s, by omega, a, b⟩
    · exact ⟨n, by omega, a, b⟩
theorem see_k {L : Nat → Nat → Int} {P : Pz} {d m t : Nat} : ∀ k, m ≤ k → (∀ s, m ≤ s → s < k → ¬ OwM P d s) → (SeeM L P d k t ↔ SeeM L P d m t) := fun k h n => by
  constructor
  · rintro ⟨s, hs, a, b⟩
    by_cases c : s < m
    · exact ⟨s, c, a, b⟩
    · exact absurd a (n s (by omega) hs)
  · rintro ⟨s, hs, a, b⟩
    exact ⟨s, by omega, a, b⟩
section
variable {F : Nat} {V : Nat → Nat} {L : Nat → Nat → Int} {h : Hp} {P : Pz} {o : Int64 × Hp}
theorem ovr_p (R : RbP V h P) (t : Nat) : OvR V h t ↔ ovP P t := by
  have n3 := R.2.2.2.2.1
  have q := R.2.2.2.2.2.1
  constructor
  · rintro ⟨k, k1, k2, k3⟩
    rw [n3] at k2
    have := q k (by omega)
    exact ⟨k, k1, by omega, by omega⟩
  · rintro ⟨k, k1, k2, k3⟩
    have := q k k2
    exact ⟨k, k1, by omega, by omega⟩
theorem ldw_b (W : RW0 V h L) (R : RbP V h P) (r : hR h (V 16) 25 = some (V 86) ∧ hR h (V 16) 26 = some (V 87) ∧ hR h (V 16) 27 = some (V 88)) : LdW V h L P.1 (ovP P) := ⟨rwd_b W R, r, R.1.2.1, ovr_p R⟩
/-- the squares where a man is led -/
theorem sb_67 {K : Hp → Nat → Nat → Int32 → Int64 → Int32 → Option (Int64 × Hp)} {x2 x5 : Int32} {B T : Nat → Prop} (H : LOk L) (l13 : (hI h (V 16) 13).toInt = L 0 0 * L 1 0) (w25 : hR h (V 16) 25 = some (V 86)) (tt : ∀ t : Nat, (t : Int) < L 0 0 * L 1 0 → (hI h (V 86) t = (-1 : Int32) ↔ ¬ T t)) : ∀ (f : Nat) {x3 : Int64} {x7 : Int32} {m : Nat}, x7.toInt = (m : Int) → (m : Int) ≤ L 0 0 * L 1 0 → (∀ q, q < 64 → (bitJ x3 q = true ↔ (B q ∨ (q < m ∧ T q)))) → sX15_seenBy_67 F K f h (V 16) (V 13) x2 x3 x5 x7 = some o → ∃ y : Int64, (∀ q, q < 64 → (bitJ y q = true ↔ (B q ∨ ((q : Int) < L 0 0 * L 1 0 ∧ T q)))) ∧ K h (V 16) (V 13) x2 y (x5 + (1 : Int32)) = some o := by
  have z1 : (1 : Int32).toInt = 1 := rfl
  have sq := sq_64 H
  intro f
  induction f with
  | zero => intro x3 x7 m _ _ _ e; exact absurd e (by rw [sX15_seenBy_67]; exact fun z => nomatch z)
  | succ f ih =>
    intro x3 x7 m e7 ml bt e
    rw [sX15_seenBy_67] at e
    unfold sX15_seenBy_104 sX15_seenBy_96 at e
    rcases br_s e with ⟨l, e⟩ | ⟨l, e⟩
    · have l := le_i l
      rw [l13, e7] at l
      refine ⟨x3, fun q hq => ?_, nx_e e⟩
      rw [bt q hq]
      exact ⟨fun z => z.imp id (fun w => ⟨by omega, w.2⟩), fun z => z.imp id (fun w => ⟨by omega, w.2⟩)⟩
    have l := nle_i l
    rw [l13, e7] at l
    have c7 : x7.toNatClampNeg = m := by have := nc_i (x := x7) (by omega); omega
    have i7 : Rg 0 63 x7 := ⟨by omega, by omega⟩
    have t7 : (x7 + (1 : Int32)).toInt = ((m + 1 : Nat) : Int) := by rw [ta (by rw [z1]; omega), z1, e7]; omega
    replace e := ce_e w25 e
    replace e := gg_e e
    have tm := tt m (by omega)
    rcases br_s e with ⟨c, e⟩ | ⟨c, e⟩ <;> rw [c7] at c
    · have c := tm.mp c
      refine ih t7 (by omega) (fun q hq => ?_) (nx_e (nx_e e))
      rw [Int64.or_zero, bt q hq]
      refine ⟨fun z => z.imp id (fun w => ⟨by omega, w.2⟩), fun z => z.imp id (fun w => ⟨?_, w.2⟩)⟩
      by_cases y : q = m
      · rw [y] at w; exact absurd w.2 c
      · omega
    · have c : T m := Classical.byContradiction (fun z => c (tm.mpr z))
      refine ih t7 (by omega) (fun q hq => ?_) (nx_e (nx_e e))
      rw [bj_or, Bool.or_eq_true, bt q hq, bj_one' i7, c7]
      constructor
      · rintro ((z | z) | z)
        · exact Or.inl z
        · exact Or.inr ⟨by omega, z.2⟩
        · rw [z]; exact Or.inr ⟨by omega, c⟩
      · rintro (z | z)
        · exact Or.inl (Or.inl z)
        · by_cases y : q = m
          · exact Or.inr y
          · exact Or.inl (Or.inr ⟨by omega, z.2⟩)
theorem sb_5 (D : VD V) {x2 : Int32} {d : Nat} (H : LOk L) (O : PzOk L P) (e2 : x2.toInt = (d : Int)) (hd : d < 2) : ∀ (f : Nat) {h : Hp} {x3 : Int64} {x5 : Int32} {n : Nat}, RW0 V h L → RbP V h P → (hR h (V 16) 25 = some (V 86) ∧ hR h (V 16) 26 = some (V 87) ∧ hR h (V 16) 27 = some (V 88)) → x5.toInt = (n : Int) → (n : Int) ≤ L 0 0 * L 1 0 → (∀ q, q < 64 → (bitJ x3 q = true ↔ SeeM L P d n q)) → sX15_seenBy_5 F f h (V 16) (V 13) x2 x3 x5 = some o → FrV V (wl wlx) h o.2 ∧ ∀ q, q < 64 → (bitJ o.1 q = true ↔ SeeM L P d 64 q) := by
  have z1 : (1 : Int32).toInt = 1 := rfl
  have z0 : (0 : Int32).toInt = 0 := rfl
  have sq := sq_64 H
  have L2 := H.2.2.1
  have HM := O.1
  intro f
  induction f with
  | zero => intro h x3 x5 n _ _ _ _ _ _ e; exact absurd e (by rw [sX15_seenBy_5]; exact fun z => nomatch z)
  | succ f ih =>
    intro h x3 x5 n W R r e5 nl bt e
    have l13 : (hI h (V 16) 13).toInt = L 0 0 * L 1 0 := W.2.2.2.2
    rw [sX15_seenBy_5] at e
    rcases br_s e with ⟨l, e⟩ | ⟨l, e⟩
    · have l := le_i l
      rw [l13, e5] at l
      rw [so_e e]
      refine ⟨fv_0, fun q hq => ?_⟩
      show bitJ x3 q = true ↔ _
      rw [bt q hq]
      exact (see_k 64 (by omega) (fun s a b w => by have := ((HM s b).2 w.1).1; omega)).symm
    have l := nle_i l
    rw [l13, e5] at l
    have c5 : x5.toNatClampNeg = n := by have := nc_i (x := x5) (by omega); omega
    have i5 : Rg 0 63 x5 := ⟨by omega, by omega⟩
    have t5 : (x5 + (1 : Int32)).toInt = ((n + 1 : Nat) : Int) := by rw [ta (by rw [z1]; omega), z1, e5]; omega
    replace e := ce_e R.1.1 e
    replace e := gg_e e
    replace e := nm_s e; obtain ⟨v, u4, e⟩ := e
    rw [c5] at u4
    have mv : v.toInt = P.1 n := by rw [u4]; exact R.2.1 n (by omega)
    unfold sX15_sideOf at e
    have skip : ¬ OwM P d n → sX15_seenBy_104 F (sX15_seenBy_5 F f) h (V 16) (V 13) x2 x3 x5 = some o → FrV V (wl wlx) h o.2 ∧ ∀ q, q < 64 → (bitJ o.1 q = true ↔ SeeM L P d 64 q) := fun no u => by
      unfold sX15_seenBy_104 at u
      refine ih W R r t5 (by omega) (fun q hq => ?_) (nx_e u)
      rw [bt q hq, see_s]
      exact ⟨Or.inl, fun z => z.elim id (fun w => absurd w.1 no)⟩
    rcases br_s e with ⟨c, e⟩ | ⟨c, e⟩
    · have c := le_i c
      rw [mv, z0] at c
      exact skip (fun z => by have := z.1; omega) e
    have c := nle_i c
    rw [mv, z0] at c
    have vL := ((HM n (by omega)).2 c).2
    have tv : (v - (1 : Int32)).toInt = P.1 n - 1 := by rw [ts (by rw [z1]; omega), z1, mv]
    have sdv : ((v - (1 : Int32)) &&& (1 : Int32)).toInt = (P.1 n - 1) % 2 := by rw [and1_i (by omega), tv]
    replace e := cl_s e; obtain ⟨o6, eo6, e⟩ := e
    rw [so_e eo6] at e
    rcases br_s e with ⟨y, e⟩ | ⟨y, e⟩
    rotate_left
    · have y : ¬ (v - (1 : Int32)) &&& (1 : Int32) = x2 := y
      exact skip (fun z => y (Int32.toInt_inj.mp (by rw [sdv, z.2, e2]))) e
    have y : (v - (1 : Int32)) &&& (1 : Int32) = x2 := y
    have ow : OwM P d n := ⟨c, by rw [← sdv, y, e2]⟩
    replace e := nm_s e; obtain ⟨v8, u8, e⟩ := e
    have b8 : ∀ q, q < 64 → (bitJ v8 q = true ↔ (SeeM L P d n q ∨ q = n)) := fun q hq => by
      rw [u8, bj_or, Bool.or_eq_true, bt q hq, bj_one' i5, c5]
    have go : ∀ {t0 : Int32}, (t0 = 0 ↔ decide (d = pzS P) = false) → sX15_seenBy_61 F (sX15_seenBy_5 F f) h (V 16) (V 13) x2 v8 x5 t0 x5 (V 13) (V 16) = some o → FrV V (wl wlx) h o.2 ∧ ∀ q, q < 64 → (bitJ o.1 q = true ↔ SeeM L P d 64 q) := fun {t0} ht u => by
      unfold sX15_seenBy_61 at u
      replace u := cl_s u; obtain ⟨g, eg, u⟩ := u
      obtain ⟨A, S⟩ := ld_r D H HM (ldw_b W R r) (by omega) (by omega) ht (by rw [c5]; exact c) eg
      rw [c5, ow.2] at S
      have W' := rw0_f D W A (by decide) rfl rfl rfl
      have R' := rbp_f D R A (by decide)
      have r' : hR g (V 16) 25 = some (V 86) ∧ hR g (V 16) 26 = some (V 87) ∧ hR g (V 16) 27 = some (V 88) := by
        rw [A.1, A.1, A.1]; exact r
      obtain ⟨y', by', u⟩ := sb_67 (B := fun q => SeeM L P d n q ∨ q = n) (T := SeT L P d n) H W'.2.2.2.2 r'.1 (fun t ht' => by
        rcases S t ht' with ⟨a, b⟩ | ⟨j, k, a, _, _, ⟨i, il, ej, ld⟩, _⟩
        · refine ⟨fun _ ⟨i, k, il, ld⟩ => b _ k ⟨i, il, rfl, ld⟩, fun _ => a⟩
        · refine ⟨fun z => ?_, fun z => absurd ⟨i, k, il, by rw [← ej]; exact ld⟩ z⟩
          rw [z] at a
          have : (-1 : Int32).toInt = -1 := by decide
          omega) F (m := 0) rfl (by omega) (fun q hq => by
          rw [b8 q hq]
          exact ⟨Or.inl, fun z => z.elim id (fun w => absurd w.1 (Nat.not_lt_zero _))⟩) u
      obtain ⟨B', q'⟩ := ih W' R' r' t5 (by omega) (fun q hq => by
        rw [by' q hq, see_s]
        constructor
        · rintro ((z | z) | z)
          · exact Or.inl z
          · exact Or.inr ⟨ow, Or.inl z⟩
          · exact Or.inr ⟨ow, Or.inr z⟩
        · rintro (z | ⟨_, z | z⟩)
          · exact Or.inl (Or.inl z)
          · exact Or.inl (Or.inr z)
          · exact Or.inr z) u
      exact ⟨fv_t A B', q'⟩
    have bs := R.2.2.1
    rcases br_s e with ⟨q, e⟩ | ⟨q, e⟩
    · have q : x2 = hI h (V 13) 1 := q
      refine go ?_ e
      rw [q, bs] at e2
      rw [decide_eq_true (show d = pzS P by omega)]
      exact ⟨fun z => absurd z (by decide), fun z => absurd z (by decide)⟩
    · have q : ¬ x2 = hI h (V 13) 1 := q
      refine go ?_ e
      rw [decide_eq_false (show ¬ d = pzS P from fun z => q (Int32.toInt_inj.mp (by rw [e2, bs, z])))]
      exact ⟨fun _ => rfl, fun _ => rfl⟩
/-- SEES: the reference -/
theorem sb_r (D : VD V) {x2 : Int32} {d : Nat} (H : LOk L) (O : PzOk L P) (W : RW0 V h L) (R : RbP V h P) (r : hR h (V 16) 25 = some (V 86) ∧ hR h (V 16) 26 = some (V 87) ∧ hR h (V 16) 27 = some (V 88)) (e2 : x2.toInt = (d : Int)) (hd : d < 2) (e : sX15_seenBy F h (V 16) (V 13) x2 = some o) : FrV V (wl wlx) h o.2 ∧ ∀ q, q < 64 → (bitJ o.1 q = true ↔ SeeM L P d 64 q) := by
  have sq := sq_64 H
  exact sb_5 D H O e2 hd F (n := 0) W R r rfl (by omega) (fun q hq => by
    rw [bj_zero]
    exact ⟨fun z => absurd z (by decide), fun ⟨s, hs, _⟩ => absurd hs (Nat.not_lt_zero _)⟩) e
/-- the class: over the ways of one man -/
theorem se_90 {K : Hp → Nat → Nat → Int32 → Int64 → Int64 → Int32 → Option (Int64 × Hp)} {x2 x7 x9 : Int32} {x5 : Int64} {c s d : Nat} {B : Nat → Prop} (H : LOk L) (O : PzOk L P) (w6 : hR h (V 6) 1 = some (V 11)) (wc : WCf V h) (T : WyT L V h) (C : CpP V h (L 10 0) P) (cL : (c : Int) < 2 * L 2 0) (sL : (s : Int) < L 0 0 * L 1 0) (hd : c % 2 = d) (e2 : x2.toInt = (d : Int)) (e9 : x9.toInt = (rowN h (V 50) (celN c s 64) : Int)) : ∀ (f : Nat) {x3 : Int64} {x10 : Int32} {w : Nat}, x10.toInt = (w : Int) → rowN h (V 50) (celN c s 0) ≤ w → (∀ q, q < 64 → (bitJ x3 q = true ↔ (B q ∨ ∃ (t w' i : Nat) (k : Int), t < 64 ∧ rowN h (V 50) (celN c s t) ≤ w' ∧ w' < rowN h (V 50) (celN c s t + 1) ∧ w' < w ∧ (i : Int) < L 74 (c / 2) ∧ WyE L V h c s t i w' ∧ LdG L P.1 (ovP P) (decide (d = pzS P)) (d : Int) (8 * (c / 2) + i) s t k ∧ q = t))) → sX5_seenBy_90 F K f h (V 6) (V 4) x2 x3 x5 x7 x9 x10 = some o → ∃ y : Int64, (∀ q, q < 64 → (bitJ y q = true ↔ (B q ∨ ∃ (t w' i : Nat) (k : Int), t < 64 ∧ rowN h (V 50) (celN c s t) ≤ w' ∧ w' < rowN h (V 50) (celN c s t + 1) ∧ w' < rowN h (V 50) (celN c s 64) ∧ (i : Int) < L 74 (c / 2) ∧ WyE L V h c s t i w' ∧ LdG L P.1 (ovP P) (decide (d = pzS P)) (d : Int) (8 * (c / 2) + i) s t k ∧ q = t))) ∧ K h (V 6) (V 4) x2 y x5 (x7 + (1 : Int32)) = some o := by
  have z1 : (1 : Int32).toInt = 1 := rfl
  have sq := sq_64 H
  have L2 := H.2.2.1
  have mL : ((c / 2 : Nat) : Int) < L 2 0 := by omega
  obtain ⟨H74, Hst⟩ := H.2.2.2 _ mL
  have mx : x9.toInt ≤ 2147483647 := Int32.toInt_le _
  have bs := C.2.2.1
  have isd := O.2.2.1
  have dec : decide (x2 = hI h (V 4) 5) = decide (d = pzS P) := by
    by_cases y : d = pzS P
    · rw [decide_eq_true y, decide_eq_true (Int32.toInt_inj.mp (by rw [e2, bs, y]))]
    · rw [decide_eq_false y, decide_eq_false (fun z => y (by rw [z, bs] at e2; omega))]
  -- the cell of a way
  have cell : ∀ w, rowN h (V 50) (celN c s 0) ≤ w → w < rowN h (V 50) (celN c s 64) → ∃ t, t < 64 ∧ rowN h (V 50) (celN c s t) ≤ w ∧ w < rowN h (V 50) (celN c s t + 1) := fun w a b => by
    have key : ∀ n, n ≤ 64 → w < rowN h (V 50) (celN c s n) → ∃ t, t < n ∧ rowN h (V 50) (celN c s t) ≤ w ∧ w < rowN h (V 50) (celN c s t + 1) := fun n => by
      induction n with
      | zero => intro _ z; omega
      | succ n ihn =>
        intro nn z
        have ce : celN c s n + 1 = celN c s (n + 1) := by unfold celN; omega
        by_cases y : w < rowN h (V 50) (celN c s n)
        · obtain ⟨t, t1, t2⟩ := ihn (by omega) y
          exact ⟨t, by omega, t2⟩
        · exact ⟨n, by omega, by omega, by rw [ce]; exact z⟩
    exact key 64 (Nat.le_refl _) b
  intro f
  induction f with
  | zero => intro x3 x10 w _ _ _ e; exact absurd e (by rw [sX5_seenBy_90]; exact fun z => nomatch z)
  | succ f ih =>
    intro x3 x10 w e10 aw bt e
    rw [sX5_seenBy_90] at e
    unfold sX5_seenBy_126 at e
    rcases br_s e with ⟨l, e⟩ | ⟨l, e⟩
    · have l := le_i l
      rw [e9, e10] at l
      refine ⟨x3, fun q hq => ?_, nx_e e⟩
      rw [bt q hq]
      constructor
      · rintro (z | ⟨t, w', i, k, a1, a2, a3, a4, a5⟩)
        · exact Or.inl z
        · refine Or.inr ⟨t, w', i, k, a1, a2, a3, ?_, a5⟩
          have := fst_m T cL sL (t := t + 1) (63 - t) (by omega)
          rw [show t + 1 + (63 - t) = 64 by omega] at this
          have ce : celN c s t + 1 = celN c s (t + 1) := by unfold celN; omega
          rw [ce] at a3
          omega
      · rintro (z | ⟨t, w', i, k, a1, a2, a3, a4, a5⟩)
        · exact Or.inl z
        · exact Or.inr ⟨t, w', i, k, a1, a2, a3, by omega, a5⟩
    have l := nle_i l
    rw [e9, e10] at l
    have c10 : x10.toNatClampNeg = w := by have := nc_i (x := x10) (by omega); omega
    have t10 : (x10 + (1 : Int32)).toInt = ((w + 1 : Nat) : Int) := by rw [ta (by rw [z1]; omega), z1, e10]; omega
    obtain ⟨t, t64, ta1, ta2⟩ := cell w aw (by omega)
    obtain ⟨_, ⟨ab, I, I1, I2, I3⟩, _⟩ := T c s t cL sL t64
    obtain ⟨iL, wy⟩ := I1 w ta1 ta2
    obtain ⟨k, rk, wd, bw⟩ := wy
    have wy : WyE L V h c s t (I w) w := ⟨k, rk, wd, bw⟩
    have J := Hst _ iL
    have kr := rk.2.2.1
    have k1 := rk.2.1
    have r7 := J.2.2.2.2.1
    replace e := cl_s e; obtain ⟨o3, eo3, e⟩ := e
    obtain ⟨w3, r3⟩ := leads_v (ov := ovP P) H O.1 J w6 wc C.1 C.2.1 sL t64 rk (by rw [c10]; exact wd) (by rw [c10]; exact bw) (by rw [e2, hd]) (fun q _ => C.2.2.2.2.1.2 q) (ov_0 O) eo3
    rw [dec, hd] at r3
    rw [w3] at e
    have uq : ∀ (t' i' : Nat) (k' : Int), t' < 64 → rowN h (V 50) (celN c s t') ≤ w → w < rowN h (V 50) (celN c s t' + 1) → (i' : Int) < L 74 (c / 2) → WyE L V h c s t' i' w → LdG L P.1 (ovP P) (decide (d = pzS P)) (d : Int) (8 * (c / 2) + i') s t' k' → t' = t ∧ LdG L P.1 (ovP P) (decide (d = pzS P)) (d : Int) (8 * (c / 2) + I w) s t k := fun t' i' k' h1 h2 h3 h4 h5 h6 => by
      obtain ⟨k2, rk2, wd2, _⟩ := h5
      have J2 := Hst _ h4
      have := rk2.2.2.1
      have := rk2.2.1
      have := J2.2.2.2.2.1
      have j1 := J.1
      have j2 := J2.1
      rw [wd] at wd2
      have tt : t' = t := by omega
      have fl : L 75 (8 * (c / 2) + I w) = L 75 (8 * (c / 2) + i') := by omega
      have kk : k = k2 := by omega
      refine ⟨tt, ?_⟩
      rw [tt] at h6
      have k3 : k' = k2 := by
        have r' := h6.1.1
        rw [tt] at rk2
        rw [hd] at rk2
        exact rch_u J2.2.2.2.1 r'.2 rk2.2
      rw [k3, ← kk] at h6
      have rk' := rk
      rw [hd] at rk'
      refine ⟨⟨rk', ?_⟩, ?_⟩
      · rw [h6.1.2]
        unfold ovN
        rw [fl]
      · have := h6.2
        unfold ByT GdT at this ⊢
        rw [fl]
        exact this
    rcases r3 with ⟨a, b⟩ | ⟨a, b⟩
    · replace e := bp_e a e
      refine ih t10 (by omega) (fun q hq => ?_) (nx_e e)
      rw [bt q hq]
      constructor
      · rintro (z | ⟨t', w', i', k', a1, a2, a3, a4, a5⟩)
        · exact Or.inl z
        · exact Or.inr ⟨t', w', i', k', a1, a2, a3, by omega, a5⟩
      · rintro (z | ⟨t', w', i', k', a1, a2, a3, a4, a5, a6, a7, a8⟩)
        · exact Or.inl z
        · by_cases y : w' = w
          · rw [y] at a2 a3 a6
            exact absurd (uq t' i' k' a1 a2 a3 a5 a6 a7).2 b
          · exact Or.inr ⟨t', w', i', k', a1, a2, a3, by omega, a5, a6, a7, a8⟩
    · replace e := bn_e (by rw [a]; decide) e
      replace e := ce_e w6 e
      replace e := ce_e wc.2.1 e
      replace e := gg_e e
      replace e := nm_s e; obtain ⟨v8, u8, e⟩ := e
      rw [c10] at u8
      have f63 := (wd_f t64 J.1 ⟨by omega, by omega⟩ wd).1
      have ct : ((hI h (V 51) w) &&& (63 : Int32)).toNatClampNeg = t := by
        have := nc_i (x := (hI h (V 51) w) &&& (63 : Int32)) (by omega)
        omega
      refine ih t10 (by omega) (fun q hq => ?_) (nx_e e)
      rw [u8, bj_or, Bool.or_eq_true, bt q hq, bj_one' ⟨by omega, by omega⟩, ct]
      constructor
      · rintro ((z | ⟨t', w', i', k', a1, a2, a3, a4, a5⟩) | z)
        · exact Or.inl z
        · exact Or.inr ⟨t', w', i', k', a1, a2, a3, by omega, a5⟩
        · exact Or.inr ⟨t, w, I w, k, t64, ta1, ta2, by omega, iL, wy, b, z⟩
      · rintro (z | ⟨t', w', i', k', a1, a2, a3, a4, a5, a6, a7, a8⟩)
        · exact Or.inl (Or.inl z)
        · by_cases y : w' = w
          · rw [y] at a2 a3 a6
            have := (uq t' i' k' a1 a2 a3 a5 a6 a7).1
            exact Or.inr (by omega)
          · exact Or.inl (Or.inr ⟨t', w', i', k', a1, a2, a3, by omega, a5, a6, a7, a8⟩)
end
end
section
/-! the squares that a side SEES: the class, the whole -/
section
variable {F : Nat} {V : Nat → Nat} {L : Nat → Nat → Int} {h : Hp} {P : Pz} {o : Int64 × Hp}
theorem se_13 {x2 : Int32} {d : Nat} (H : LOk L) (O : PzOk L P) (w6 : hR h (V 6) 1 = some (V 11)) (wc : WCf V h) (T : WyT L V h) (C : CpP V h (L 10 0) P) (e2 : x2.toInt = (d : Int)) (hd : d < 2) : ∀ (f : Nat) {x3 x5 : Int64} {x7 : Int32} {m : Nat}, m ≤ 64 → 0 ≤ x7.toInt → x7.toInt ≤ (m : Int) → (∀ s, s < 64 → (bitJ x5 s = true ↔ (OwM P d s ∧ m ≤ s))) → (∀ q, q < 64 → (bitJ x3 q = true ↔ (OwM P d q ∨ SeeM L P d m q))) → sX5_seenBy_13 F f h (V 6) (V 4) x2 x3 x5 x7 = some o → o.2 = h ∧ ∀ q, q < 64 → (bitJ o.1 q = true ↔ SeeM L P d 64 q) := by
  have z1 : (1 : Int32).toInt = 1 := rfl
  have z0 : (0 : Int32).toInt = 0 := rfl
  have z64 : (64 : Int32).toInt = 64 := rfl
  have sq := sq_64 H
  have L2 := H.2.2.1
  intro f
  induction f with
  | zero => intro x3 x5 x7 m _ _ _ _ _ e; exact absurd e (by rw [sX5_seenBy_13]; exact fun z => nomatch z)
  | succ f ih =>
    intro x3 x5 x7 m m64 a7 l7 b5 b3 e
    rw [sX5_seenBy_13] at e
    unfold sX5_seenBy_138 at e
    have done : (∀ s, s < 64 → bitJ x5 s = false) → some (x3, h) = some o → o.2 = h ∧ ∀ q, q < 64 → (bitJ o.1 q = true ↔ SeeM L P d 64 q) := fun z u => by
      rw [so_e u]
      refine ⟨rfl, fun q hq => ?_⟩
      show bitJ x3 q = true ↔ _
      rw [b3 q hq, ← see_k (L := L) (d := d) (t := q) 64 m64 (fun s a b w => by
        have := (b5 s b).mpr ⟨w, a⟩
        rw [z s b] at this
        exact absurd this (by decide))]
      exact ⟨fun y => y.elim (fun w => ⟨q, hq, w, Or.inl rfl⟩) id, Or.inr⟩
    rcases br_s e with ⟨c, e⟩ | ⟨c, e⟩
    · have c := le_i c
      rw [z64] at c
      refine done (fun s hs => ?_) e
      cases b : bitJ x5 s with
      | false => rfl
      | true => have := ((b5 s hs).mp b).2; omega
    have c := nle_i c
    rw [z64] at c
    rcases br_s e with ⟨y, e⟩ | ⟨y, e⟩
    · exact done (j_zero.mp (cmp_eq y)) e
    replace e := cl_s e; obtain ⟨o3, eo3, e⟩ := e
    obtain ⟨w3, k, k64, ek, bk, lo, rest⟩ := low_v eo3 y
    rw [w3] at e
    obtain ⟨ow, mk⟩ := (b5 k k64).mp bk
    have ck : o3.1.toNatClampNeg = k := by have := nc_i (x := o3.1) (by omega); omega
    obtain ⟨kL, vL⟩ := (O.1 k k64).2 ow.1
    have on := C.2.1.1 k k64
    replace e := nm_s e; obtain ⟨v4, u4, e⟩ := e
    have b4 : ∀ s, s < 64 → (bitJ v4 s = true ↔ (OwM P d s ∧ k + 1 ≤ s)) := fun s hs => by
      rw [u4, rest s hs, Bool.and_eq_true, Bool.not_eq_true', decide_eq_false_iff_not, b5 s hs]
      constructor
      · rintro ⟨⟨a, b⟩, q⟩
        refine ⟨a, ?_⟩
        by_cases l : s < k
        · have := (b5 s hs).mpr ⟨a, b⟩
          rw [lo s l] at this
          exact absurd this (by decide)
        · omega
      · rintro ⟨a, b⟩
        exact ⟨⟨a, by omega⟩, by omega⟩
    have sk : ∀ t, SeeM L P d k t ↔ SeeM L P d m t := fun t => see_k k mk (fun s a b w => by
      have := (b5 s (by omega)).mpr ⟨w, a⟩
      rw [lo s b] at this
      exact absurd this (by decide))
    replace e := ce_e w6 e
    replace e := ce_e wc.1 e
    replace e := ce_e C.1.1 e
    replace e := gg_e e
    unfold sX10_cell at e
    obtain ⟨cc, hc⟩ : ∃ cc : Nat, (hI h (V 34) k).toInt = (cc : Int) := ⟨(hI h (V 34) k).toInt.toNat, by have := ow.1; omega⟩
    have cd : mnO (P.1 k) = cc / 2 := by unfold mnO; omega
    have cm : cc % 2 = d := by have := ow.2; omega
    have cL : (cc : Int) < 2 * L 2 0 := by omega
    have a1 : ((hI h (V 34) k) * (64 : Int32)).toInt = (cc : Int) * 64 := by rw [tm (by rw [hc, z64]; omega), hc, z64]
    have a2 : (((hI h (V 34) k) * (64 : Int32)) + o3.1).toInt = (cc : Int) * 64 + k := by rw [ta (by rw [a1, ek]; omega), a1, ek]
    have a3 : ((((hI h (V 34) k) * (64 : Int32)) + o3.1) * (64 : Int32)).toInt = ((cc : Int) * 64 + k) * 64 := by rw [tm (by rw [a2, z64]; omega), a2, z64]
    have i64 : (((((hI h (V 34) k) * (64 : Int32)) + o3.1) * (64 : Int32)) + (64 : Int32)).toNatClampNeg = celN cc k 64 := by
      have a : (((((hI h (V 34) k) * (64 : Int32)) + o3.1) * (64 : Int32)) + (64 : Int32)).toInt = ((cc : Int) * 64 + k) * 64 + 64 := by rw [ta (by rw [a3, z64]; omega), a3, z64]
      have := nc_i (x := ((((hI h (V 34) k) * (64 : Int32)) + o3.1) * (64 : Int32)) + (64 : Int32)) (by omega)
      unfold celN
      omega
    have i0 : (((((hI h (V 34) k) * (64 : Int32)) + o3.1) * (64 : Int32)) + (0 : Int32)).toNatClampNeg = celN cc k 0 := by
      have a : (((((hI h (V 34) k) * (64 : Int32)) + o3.1) * (64 : Int32)) + (0 : Int32)).toInt = ((cc : Int) * 64 + k) * 64 := by rw [ta (by rw [a3, z0]; omega), a3, z0]; omega
      have := nc_i (x := ((((hI h (V 34) k) * (64 : Int32)) + o3.1) * (64 : Int32)) + (0 : Int32)) (by omega)
      unfold celN
      omega
    replace e := cl_s e; obtain ⟨o9, eo9, e⟩ := e
    rw [so_e eo9] at e
    replace e := gg_e e
    replace e := nm_s e; obtain ⟨v11, u11, e⟩ := e
    dsimp only at u11 e
    rw [ck, i64] at u11
    replace e := ce_e w6 e
    replace e := ce_e wc.1 e
    replace e := ce_e C.1.1 e
    replace e := gg_e e
    replace e := cl_s e; obtain ⟨o16, eo16, e⟩ := e
    rw [so_e eo16] at e
    replace e := gg_e e
    replace e := nm_s e; obtain ⟨v18, u18, e⟩ := e
    dsimp only at u18 e
    rw [ck, i0] at u18
    have n0 := (T cc k 0 cL kL (by decide)).1.1
    have n64 := (T cc k 63 cL kL (by decide)).1.2
    have ce : celN cc k 63 + 1 = celN cc k 64 := by unfold celN; omega
    rw [ce] at n64
    have r11 : v11.toInt = (rowN h (V 50) (celN cc k 64) : Int) := by
      rw [u11]
      unfold rowN
      exact (nc_i n64).symm
    have r18 : v18.toInt = (rowN h (V 50) (celN cc k 0) : Int) := by
      rw [u18]
      unfold rowN
      exact (nc_i n0).symm
    obtain ⟨y', by', e⟩ := se_90 (B := fun q => OwM P d q ∨ SeeM L P d k q) H O w6 wc T C cL kL cm e2 r11 F r18 (Nat.le_refl _) (fun q hq => by
      rw [b3 q hq, ← sk q]
      constructor
      · exact Or.inl
      · rintro (z | ⟨t, w', i, k', h1, h2, h3, h4, _⟩)
        · exact z
        · have := fst_m T cL kL (t := 0) t (by omega)
          rw [Nat.zero_add] at this
          omega) e
    have t7 : (x7 + (1 : Int32)).toInt = x7.toInt + 1 := by rw [ta (by rw [z1]; omega), z1]
    refine ih (m := k + 1) (by omega) (by omega) (by omega) b4 (fun q hq => ?_) e
    rw [by' q hq, see_s]
    constructor
    · rintro ((z | z) | ⟨t, w', i, k', h1, h2, h3, h4, h5, h6, h7, h8⟩)
      · exact Or.inl z
      · exact Or.inr (Or.inl z)
      · refine Or.inr (Or.inr ⟨ow, Or.inr ?_⟩)
        rw [h8]
        obtain ⟨_, _, o1, e1, _, _⟩ := rch_st h7.1.1.2
        have tl := (tgt_on (show 0 < L 0 0 by have := H.1; omega) o1).2.1
        rw [← e1] at tl
        exact ⟨tl, i, k', by rw [cd]; exact h5, by rw [cd]; exact h7⟩
    · rintro (z | z | ⟨_, z | ⟨zL, i, k', il, ld⟩⟩)
      · exact Or.inl (Or.inl z)
      · exact Or.inl (Or.inr z)
      · rw [z]; exact Or.inl (Or.inl ow)
      · rw [cd] at il ld
        obtain ⟨_, ⟨ab, I, I1, I2, I3⟩, _⟩ := T cc k q cL kL hq
        have rl := ld.1.1
        rw [← cm] at rl
        obtain ⟨w, wa, wb, wi⟩ := I3 i k' il rl
        refine Or.inr ⟨q, w, i, k', hq, wa, wb, ?_, il, by rw [← wi]; exact (I1 w wa wb).2, ld, rfl⟩
        have := fst_m T cL kL (t := q + 1) (63 - q) (by omega)
        rw [show q + 1 + (63 - q) = 64 by omega] at this
        have ce' : celN cc k q + 1 = celN cc k (q + 1) := by unfold celN; omega
        rw [ce'] at wb
        omega
/-- SEES: the class -/
theorem se_c {x2 : Int32} {d : Nat} (H : LOk L) (O : PzOk L P) (w : CWy V h L) (C : CpP V h (L 10 0) P) (e2 : x2.toInt = (d : Int)) (hd : d < 2) (e : sX5_seenBy F h (V 6) (V 4) x2 = some o) : o.2 = h ∧ ∀ q, q < 64 → (bitJ o.1 q = true ↔ SeeM L P d 64 q) := by
  have c2 : x2.toNatClampNeg = d := by have := nc_i (x := x2) (by omega); omega
  unfold sX5_seenBy at e
  replace e := ce_e C.1.2.1 e
  replace e := gg_e e
  replace e := nm_s e; obtain ⟨v3, u3, e⟩ := e
  rw [c2] at u3
  have bt := C.2.1.2.1 d hd
  rw [← u3] at bt
  exact se_13 H O w.1.2 w.2.1 w.2.2.1 C e2 hd F (m := 0) (by decide) (by decide) (by decide) (fun s hs => by
    rw [bt s hs]
    exact ⟨fun z => ⟨z, Nat.zero_le _⟩, fun z => z.1⟩) (fun q hq => by
    rw [bt q hq]
    exact ⟨Or.inl, fun z => z.elim id (fun ⟨s, hs, _⟩ => absurd hs (Nat.not_lt_zero _))⟩) e
end
end
