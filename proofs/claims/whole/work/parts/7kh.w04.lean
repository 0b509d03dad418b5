section
/-! the class: collect, its loops -/
/-- the lawful moves of the first n squares, and of the first m out of the hand -/
noncomputable def lwA (L : Nat → Nat → Int) (P : Pz) (n : Nat) : List MvT := ((List.range n).flatMap (moF L P.1 (ovP P) (rtP P) (pzQ P 0) (pzS P))).filter (sfB L P)
noncomputable def lwD (L : Nat → Nat → Int) (P : Pz) (m : Nat) : List MvT := ((List.range m).flatMap (drL L P.1 (hdP P))).filter (sfB L P)
section
variable {F : Nat} {V : Nat → Nat} {L : Nat → Nat → Int} {P : Pz} {o : Int32 × Hp}
theorem lwa_s (n : Nat) : lwA L P (n + 1) = lwA L P n ++ (moF L P.1 (ovP P) (rtP P) (pzQ P 0) (pzS P) n).filter (sfB L P) := by
  unfold lwA
  rw [flat_s, List.filter_append]
theorem lwd_s (n : Nat) : lwD L P (n + 1) = lwD L P n ++ (drL L P.1 (hdP P) n).filter (sfB L P) := by
  unfold lwD
  rw [flat_s, List.filter_append]
theorem lwa_le (H : LOk L) (K : LawK L) (O : PzOk L P) {n : Nat} (hn : n < 64) : (lwA L P n).length + (moF L P.1 (ovP P) (rtP P) (pzQ P 0) (pzS P) n).length ≤ 2977 := by
  have a : (lwA L P n).length ≤ ((List.range n).flatMap (moF L P.1 (ovP P) (rtP P) (pzQ P 0) (pzS P))).length := List.length_filter_le _ _
  have b := mo_2977 (L := L) (M := P.1) (ov := ovP P) (rt := rtP P) (p0 := pzQ P 0) (sd := (pzS P : Int)) (hd := hdP P) H O.1 (lawk_b K) (ov_0 O) (n := n + 1) (K := 0) (by omega) (by decide)
  rw [flat_s, List.length_append, List.length_append] at b
  omega
theorem lwd_le (H : LOk L) (K : LawK L) (O : PzOk L P) {n m : Nat} (hn : n ≤ 64) (hm : m < 64) : (lwA L P n ++ lwD L P m).length + (drL L P.1 (hdP P) m).length ≤ 2977 := by
  have a : (lwA L P n).length ≤ ((List.range n).flatMap (moF L P.1 (ovP P) (rtP P) (pzQ P 0) (pzS P))).length := List.length_filter_le _ _
  have a' : (lwD L P m).length ≤ ((List.range m).flatMap (drL L P.1 (hdP P))).length := List.length_filter_le _ _
  have b := mo_2977 (L := L) (M := P.1) (ov := ovP P) (rt := rtP P) (p0 := pzQ P 0) (sd := (pzS P : Int)) (hd := hdP P) H O.1 (lawk_b K) (ov_0 O) (n := n) (K := m + 1) hn (by omega)
  rw [List.length_append, flat_s, List.length_append] at b
  rw [List.length_append]
  omega
theorem lw_all (H : LOk L) (K : LawK L) (O : PzOk L P) {n m : Nat} (hn : n ≤ 64) (hm : m ≤ 64) : (lwA L P n ++ lwD L P m).length ≤ 2977 := by
  have a : (lwA L P n).length ≤ ((List.range n).flatMap (moF L P.1 (ovP P) (rtP P) (pzQ P 0) (pzS P))).length := List.length_filter_le _ _
  have a' : (lwD L P m).length ≤ ((List.range m).flatMap (drL L P.1 (hdP P))).length := List.length_filter_le _ _
  have b := mo_2977 (L := L) (M := P.1) (ov := ovP P) (rt := rtP P) (p0 := pzQ P 0) (sd := (pzS P : Int)) (hd := hdP P) H O.1 (lawk_b K) (ov_0 O) (n := n) (K := m) hn hm
  rw [List.length_append] at b
  rw [List.length_append]
  omega
theorem mof_g (H : LOk L) (K : LawK L) (O : PzOk L P) {n : Nat} (hn : n < 64) {v : MvT} (hv : v ∈ moF L P.1 (ovP P) (rtP P) (pzQ P 0) (pzS P) n) : MvGd L P v := by
  refine mo_g H K O ?_
  unfold moP moA
  rw [List.mem_append]
  exact Or.inl (List.mem_flatMap.mpr ⟨n, List.mem_range.mpr hn, hv⟩)
/-- squares without own men give no moves -/
theorem lwa_sk {m : Nat} : ∀ k, m ≤ k → (∀ s, m ≤ s → s < k → ¬ (0 < P.1 s ∧ (P.1 s - 1) % 2 = (pzS P : Int))) → lwA L P k = lwA L P m := fun k => by
  induction k with
  | zero =>
    intro h _
    have : m = 0 := by omega
    rw [this]
  | succ k ih =>
    intro h no
    by_cases c : m = k + 1
    · rw [c]
    · rw [lwa_s, ih (by omega) (fun s a b => no s a (by omega))]
      have : moF L P.1 (ovP P) (rtP P) (pzQ P 0) (pzS P) k = [] := if_neg (no k (by omega) (by omega))
      rw [this, List.filter_nil, List.append_nil]
theorem csd_no {s t : Nat} {d : Int} (H : LOk L) (sL : (s : Int) < L 0 0 * L 1 0) (n : ∀ q, q < 64 → pzR P q = false) : csD L P.1 (rtP P) (pzS P) s d t = [] := csd_n (fun p _ z => by
  have sq := sq_64 H
  have rt : pzR P p = true := z.2.2.1
  obtain ⟨k, k1, k2, k3, k4, _⟩ := z.1
  have := on_rk H sL k2 k3
  rw [← k4] at this
  rw [n p (by omega)] at rt
  exact absurd rt (by decide))
/-- men out of the hand -/
theorem col_178 (D : VD V) {x3 x6 : Int32} {n N : Nat} (H : LOk L) (K : LawK L) (O : PzOk L P) (hn : n ≤ 64) (e6 : x6.toInt = (N : Int)) (NL : (N : Int) ≤ L 0 0 * L 1 0) : ∀ (f : Nat) {h : Hp} {x7 : Int32} {m : Nat}, CcW V h L P → WatF V h L P → x7.toInt = (m : Int) → m ≤ N → CLs V h (lwA L P n ++ lwD L P m) → TkF V h (lwA L P n ++ lwD L P m) → sX5_collect_178 F f h (V 6) x3 x6 x7 = some o → ∃ g m', FrV V (wl wcq) h g ∧ hN g (V 47) = hN h (V 47) ∧ m' ≤ N ∧ CLs V g (lwA L P n ++ lwD L P m') ∧ TkF V g (lwA L P n ++ lwD L P m') ∧ (m' = N ∨ x3.toInt ≤ ((lwA L P n ++ lwD L P m').length : Int)) ∧ sX5_collect_217 F g (V 6) = some o := by
  have z1 : (1 : Int32).toInt = 1 := rfl
  have sq := sq_64 H
  have isd := O.2.2.1
  intro f
  induction f with
  | zero => intro h x7 m _ _ _ _ _ _ e; exact absurd e (by rw [sX5_collect_178]; exact fun z => nomatch z)
  | succ f ih =>
    intro h x7 m C Wt e7 mN R T e
    rw [sX5_collect_178] at e
    rcases br_s e with ⟨c, e⟩ | ⟨c, e⟩
    · have c := le_i c
      rw [e6, e7] at c
      exact ⟨h, m, fv_0, rfl, mN, R, T, Or.inl (by omega), e⟩
    have c := nle_i c
    rw [e6, e7] at c
    rcases br_s e with ⟨y, e⟩ | ⟨y, e⟩
    · have y := le_i y
      rw [R.1] at y
      exact ⟨h, m, fv_0, rfl, mN, R, T, Or.inr y, e⟩
    replace e := nm_s e; obtain ⟨v3, u3, e⟩ := e
    have e3 : v3.toInt = ((lwA L P n ++ lwD L P m).length : Int) := by rw [u3]; exact R.1
    replace e := cl_s e; obtain ⟨g1, eg1, e⟩ := e
    have ln := lwd_le H K O hn (show m < 64 by omega)
    obtain ⟨A1, n1, R1⟩ := ad_c (sd := pzS P) (hd := hdP P) D H e7 (by omega) (by omega) (cwd_cc C) C.2.2.1.2.2.1 (fun q hq => by
      have := C.2.2.1.2.2.2.2.2.1.2 (2 * q + pzS P) (by omega)
      rw [show (2 * q + pzS P) % 2 = pzS P by omega, show (2 * q + pzS P) / 2 = q by omega] at this
      exact this.symm) R eg1
    have A1q : FrV V (wl wcq) h g1 := fv_s A1 (by decide)
    have C1 := ccw_f D C A1 (by decide) (by decide) n1
    replace e := cl_s e; obtain ⟨g2, eg2, e⟩ := e
    obtain ⟨A2, n2, W2, R2, T2⟩ := kl_c D H K O C1 (watf_k Wt (fvi D A1 6 9) (fvj D A1 6 8)) e3 (by rw [List.length_append]; omega) (fun v hv => drl_g H K O (by omega) hv) (tkf_k T (fvi D A1 6 7)) R1 eg2
    rw [List.append_assoc, ← lwd_s] at R2 T2
    obtain ⟨g, m', B, nB, r1, r2, r3, r4, r5⟩ := ih (m := m + 1) (ccw_q D C1 A2 n2) W2 (by rw [ta (by rw [z1]; omega), z1, e7]; omega) (by omega) R2 T2 (nx_e e)
    exact ⟨g, m', fv_t A1q (fv_t A2 B), nB.trans (n2.trans n1), r1, r2, r3, r4, r5⟩
/-- the moves of one man -/
theorem one_man (D : VD V) {h g3 : Hp} {x1 v6 : Int32} {k : Nat} {Q : Hp → Prop} (H : LOk L) (K : LawK L) (O : PzOk L P) (C : CcW V h L P) (k64 : k < 64) (m0 : 0 < P.1 k) (m1 : (P.1 k - 1) % 2 = (pzS P : Int)) (e1 : x1.toInt = (k : Int)) (e6 : v6.toInt = ((lwA L P k).length : Int)) (R : CLs V h (lwA L P k)) {g1 : Hp} (es : sX5_addSteps F h (V 6) x1 = some g1) (go : ∀ g, FrV V (wl wcl) h g → hN g (V 47) = hN h (V 47) → CLs V g (lwA L P k ++ moF L P.1 (ovP P) (rtP P) (pzQ P 0) (pzS P) k) → Q g) : (((∀ q, q < 64 → pzR P q = false) ∨ ¬ ((mnO (P.1 k) : Nat) : Int) = L 10 0) → Q g1) ∧ (((mnO (P.1 k) : Nat) : Int) = L 10 0 → ∀ g2, sX5_addCastling F g1 (V 6) x1 (-1 : Int32) v6 = some g2 → sX5_addCastling F g2 (V 6) x1 (1 : Int32) v6 = some g3 → Q g3) := by
  have zm : (-1 : Int32).toInt = -1 := by decide
  have z1 : (1 : Int32).toInt = 1 := rfl
  have sq := sq_64 H
  have L2 := H.2.2.1
  have sL := ((O.1 k k64).2 m0).1
  have ln := lwa_le H K O k64
  have em : moF L P.1 (ovP P) (rtP P) (pzQ P 0) (pzS P) k = (List.range 64).flatMap (moS L P.1 (ovP P) (rtP P) (pzQ P 0) (pzS P) k) := if_pos ⟨m0, m1⟩
  rw [em] at ln
  have l1 : ((List.range 64).flatMap (stA L P.1 (ovP P) (pzQ P 0) (pzS P) (mnO (P.1 k)) k)).length ≤ ((List.range 64).flatMap (moS L P.1 (ovP P) (rtP P) (pzQ P 0) (pzS P) k)).length := by
    rw [fl_sn, fl_sn]
    exact sn_le 64 (fun t _ => by unfold moS; rw [List.length_append]; omega)
  obtain ⟨A1, n1, R1⟩ := as_c (p0 := pzQ P 0) D H O.1 (ov_0 O) e1 sL m0 (cwd_cc C) (by rw [C.2.2.1.2.2.1, m1]) (rpc_cc H O C.2.2.1) R (by rw [m1, List.length_append]; omega) es
  rw [m1] at R1
  refine ⟨fun hno => go g1 A1 n1 ?_, fun er g2 ea eb => ?_⟩
  · rw [em]
    have : (List.range 64).flatMap (moS L P.1 (ovP P) (rtP P) (pzQ P 0) (pzS P) k) = (List.range 64).flatMap (stA L P.1 (ovP P) (pzQ P 0) (pzS P) (mnO (P.1 k)) k) := fm_c (fun t _ => by
      unfold moS
      split
      · rename_i c
        rcases hno with n | n
        · rw [csd_no H sL n, csd_no H sL n, List.append_nil, List.append_nil]
        · exact absurd c n
      · rw [List.append_nil])
    rw [this]
    exact R1
  · have C1 := ccw_f D C A1 (by decide) (by decide) n1
    have kr := K.2.1
    have ir : 0 ≤ L 10 0 ∧ L 10 0 ≤ 11 := by omega
    have l2 : ∀ {g : Nat → List MvT}, (∀ t, (g t).length ≤ (moS L P.1 (ovP P) (rtP P) (pzQ P 0) (pzS P) k t).length) → (lwA L P k ++ (List.range 64).flatMap g).length < 4096 := fun {g} hg => by
      rw [List.length_append]
      have : ((List.range 64).flatMap g).length ≤ ((List.range 64).flatMap (moS L P.1 (ovP P) (rtP P) (pzQ P 0) (pzS P) k)).length := by
        rw [fl_sn, fl_sn]
        exact sn_le 64 (fun t _ => hg t)
      omega
    have es' : ∀ t, moS L P.1 (ovP P) (rtP P) (pzQ P 0) (pzS P) k t = stA L P.1 (ovP P) (pzQ P 0) (pzS P) (mnO (P.1 k)) k t ++ (csD L P.1 (rtP P) (pzS P) k (-1) t ++ csD L P.1 (rtP P) (pzS P) k 1 t) := fun t => by
      unfold moS
      rw [if_pos er]
    obtain ⟨A2, n2, R2⟩ := acs_c (rt := rtP P) (sd := pzS P) D H O.1 (cwd_cc C1) C1.2.1.2.2.2.1.1 C1.2.1.2.2.1.1 ir C1.2.2.1.2.2.1 O.2.2.1 (fun q hq => by rw [C1.2.2.1.2.2.2.1 q hq]; rfl) e1 sL (Or.inr zm) e6 (fun t w hw => sta_to hw) R1 (l2 (fun t => by rw [es' t, List.length_append]; omega)) ea
    rw [zm] at R2
    have C2 := ccw_f D C1 A2 (by decide) (by decide) n2
    obtain ⟨A3, n3, R3⟩ := acs_c (rt := rtP P) (sd := pzS P) D H O.1 (cwd_cc C2) C2.2.1.2.2.2.1.1 C2.2.1.2.2.1.1 ir C2.2.2.1.2.2.1 O.2.2.1 (fun q hq => by rw [C2.2.2.1.2.2.2.1 q hq]; rfl) e1 sL (Or.inl z1) e6 (fun t w hw => by
      rw [List.mem_append] at hw
      rcases hw with hw | hw
      · exact sta_to hw
      · exact csd_to hw) R2 (l2 (fun t => by rw [es' t, List.length_append, List.length_append, List.length_append]; omega)) eb
    rw [z1] at R3
    refine go g3 (fv_t A1 (fv_t A2 A3)) (n3.trans (n2.trans n1)) ?_
    rw [em]
    have : (List.range 64).flatMap (moS L P.1 (ovP P) (rtP P) (pzQ P 0) (pzS P) k) = (List.range 64).flatMap (fun t => (stA L P.1 (ovP P) (pzQ P 0) (pzS P) (mnO (P.1 k)) k t ++ csD L P.1 (rtP P) (pzS P) k (-1) t) ++ csD L P.1 (rtP P) (pzS P) k 1 t) := fm_c (fun t _ => by rw [es' t, List.append_assoc])
    rw [this]
    exact R3
theorem col_39 (D : VD V) {x3 : Int32} (H : LOk L) (K : LawK L) (O : PzOk L P) : ∀ (f : Nat) {h : Hp} {x4 : Int64} {x6 : Int32} {m : Nat}, CcW V h L P → WatF V h L P → m ≤ 64 → 0 ≤ x6.toInt → x6.toInt ≤ (m : Int) → (∀ s, s < 64 → (bitJ x4 s = true ↔ ((0 < P.1 s ∧ (P.1 s - 1) % 2 = (pzS P : Int)) ∧ m ≤ s))) → CLs V h (lwA L P m) → TkF V h (lwA L P m) → sX5_collect_39 F f h (V 6) x3 x4 x6 = some o → ∃ g n, FrV V (wl wcq) h g ∧ hN g (V 47) = hN h (V 47) ∧ WatF V g L P ∧ n ≤ 64 ∧ CLs V g (lwA L P n) ∧ TkF V g (lwA L P n) ∧ (n = 64 ∨ x3.toInt ≤ ((lwA L P n).length : Int)) ∧ sX5_collect_151 F g (V 6) x3 = some o := by
  have z0 : (0 : Int32).toInt = 0 := rfl
  have z1 : (1 : Int32).toInt = 1 := rfl
  have z64 : (64 : Int32).toInt = 64 := rfl
  have isd := O.2.2.1
  intro f
  induction f with
  | zero => intro h x4 x6 m _ _ _ _ _ _ _ _ e; exact absurd e (by rw [sX5_collect_39]; exact fun z => nomatch z)
  | succ f ih =>
    intro h x4 x6 m C Wt m64 a6 l6 bt R T e
    rw [sX5_collect_39] at e
    -- no man is left
    have done : (∀ s, s < 64 → bitJ x4 s = false) → sX5_collect_151 F h (V 6) x3 = some o → ∃ g n, FrV V (wl wcq) h g ∧ hN g (V 47) = hN h (V 47) ∧ WatF V g L P ∧ n ≤ 64 ∧ CLs V g (lwA L P n) ∧ TkF V g (lwA L P n) ∧ (n = 64 ∨ x3.toInt ≤ ((lwA L P n).length : Int)) ∧ sX5_collect_151 F g (V 6) x3 = some o := fun z u => by
      have e64 : lwA L P 64 = lwA L P m := lwa_sk 64 m64 (fun s a b w => by
        have := (bt s b).mpr ⟨w, a⟩
        rw [z s b] at this
        exact absurd this (by decide))
      exact ⟨h, 64, fv_0, rfl, Wt, Nat.le_refl _, by rw [e64]; exact R, by rw [e64]; exact T, Or.inl rfl, u⟩
    rcases br_s e with ⟨c, e⟩ | ⟨c, e⟩
    · have c := le_i c
      rw [z64] at c
      refine done (fun s hs => ?_) e
      cases b : bitJ x4 s with
      | false => rfl
      | true => have := ((bt s hs).mp b).2; omega
    have c := nle_i c
    rw [z64] at c
    rcases br_s e with ⟨y, e⟩ | ⟨y, e⟩
    · exact done (j_zero.mp (cmp_eq y)) e
    rcases br_s e with ⟨w, e⟩ | ⟨w, e⟩
    · have w := le_i w
      rw [R.1] at w
      exact ⟨h, m, fv_0, rfl, Wt, m64, R, T, Or.inr w, e⟩
    replace e := cl_s e; obtain ⟨o4, eo4, e⟩ := e
    obtain ⟨w4, k, k64, ek, bk, lo, rest⟩ := low_v eo4 y
    rw [w4] at e
    obtain ⟨⟨m0, m1⟩, mk⟩ := (bt k k64).mp bk
    have ekm : lwA L P k = lwA L P m := lwa_sk k mk (fun s a b w => by
      have := (bt s (by omega)).mpr ⟨w, a⟩
      rw [lo s b] at this
      exact absurd this (by decide))
    rw [← ekm] at R T
    replace e := nm_s e; obtain ⟨v5, u5, e⟩ := e
    replace e := nm_s e; obtain ⟨v6, u6, e⟩ := e
    have e6 : v6.toInt = ((lwA L P k).length : Int) := by rw [u6]; exact R.1
    have b5 : ∀ s, s < 64 → (bitJ v5 s = true ↔ ((0 < P.1 s ∧ (P.1 s - 1) % 2 = (pzS P : Int)) ∧ k + 1 ≤ s)) := fun s hs => by
      rw [u5, rest s hs, Bool.and_eq_true, Bool.not_eq_true', decide_eq_false_iff_not, bt s hs]
      constructor
      · rintro ⟨⟨a, b⟩, d⟩
        refine ⟨a, ?_⟩
        by_cases q : s < k
        · have := (bt s hs).mpr ⟨a, b⟩
          rw [lo s q] at this
          exact absurd this (by decide)
        · omega
      · rintro ⟨a, b⟩
        exact ⟨⟨a, by omega⟩, by omega⟩
    replace e := cl_s e; obtain ⟨g1, eg1, e⟩ := e
    -- behind this man
    have go : ∀ g, FrV V (wl wcl) h g → hN g (V 47) = hN h (V 47) → CLs V g (lwA L P k ++ moF L P.1 (ovP P) (rtP P) (pzQ P 0) (pzS P) k) → (sX5_collect_139 F (sX5_collect_39 F f) g (V 6) x3 v5 x6 v6 = some o → ∃ g n, FrV V (wl wcq) h g ∧ hN g (V 47) = hN h (V 47) ∧ WatF V g L P ∧ n ≤ 64 ∧ CLs V g (lwA L P n) ∧ TkF V g (lwA L P n) ∧ (n = 64 ∨ x3.toInt ≤ ((lwA L P n).length : Int)) ∧ sX5_collect_151 F g (V 6) x3 = some o) := fun g A ln Rg' u => by
      have Cg := ccw_f D C A (by decide) (by decide) ln
      have l3 := lwa_le H K O k64
      unfold sX5_collect_139 at u
      replace u := cl_s u; obtain ⟨g2, eg2, u⟩ := u
      obtain ⟨A2, n2, W2, R2, T2⟩ := kl_c D H K O Cg (watf_k Wt (fvi D A 6 9) (fvj D A 6 8)) e6 (by rw [List.length_append]; omega) (fun v hv => mof_g H K O k64 hv) (tkf_k T (fvi D A 6 7)) Rg' eg2
      rw [← lwa_s] at R2 T2
      obtain ⟨g3, n, B, nB, rest'⟩ := ih (m := k + 1) (ccw_q D Cg A2 n2) W2 (by omega) (by rw [ta (by rw [z1]; omega), z1]; omega) (by rw [ta (by rw [z1]; omega), z1]; omega) b5 R2 T2 (nx_e u)
      exact ⟨g3, n, fv_t (fv_s A (by decide)) (fv_t A2 B), nB.trans (n2.trans ln), rest'⟩
    obtain ⟨A1, n1, _⟩ := as_c (p0 := pzQ P 0) D H O.1 (ov_0 O) ek ((O.1 k k64).2 m0).1 m0 (cwd_cc C) (by rw [C.2.2.1.2.2.1, m1]) (rpc_cc H O C.2.2.1) R (by
      have ln := lwa_le H K O k64
      have em : moF L P.1 (ovP P) (rtP P) (pzQ P 0) (pzS P) k = (List.range 64).flatMap (moS L P.1 (ovP P) (rtP P) (pzQ P 0) (pzS P) k) := if_pos ⟨m0, m1⟩
      rw [em] at ln
      have l1 : ((List.range 64).flatMap (stA L P.1 (ovP P) (pzQ P 0) (pzS P) (mnO (P.1 k)) k)).length ≤ ((List.range 64).flatMap (moS L P.1 (ovP P) (rtP P) (pzQ P 0) (pzS P) k)).length := by
        rw [fl_sn, fl_sn]
        exact sn_le 64 (fun t _ => by unfold moS; rw [List.length_append]; omega)
      rw [m1, List.length_append]
      omega) eg1
    have C1 := ccw_f D C A1 (by decide) (by decide) n1
    have e5 := C1.2.2.1.2.2.1
    have c5 : (hI g1 (V 4) 5).toNatClampNeg = pzS P := by have := nc_i (x := hI g1 (V 4) 5) (by omega); omega
    have ro := C1.2.2.1.2.1.2.2.1 (pzS P) isd
    replace e := ce_e C1.2.2.2.1.1 e
    replace e := ce_e C1.2.2.1.1.2.2.1 e
    replace e := ce_e C1.2.2.2.1.1 e
    replace e := gg_e e
    have mk' : P.1 k = cdV ((mnO (P.1 k) : Nat) : Int) (pzS P) := own_v m0 m1
    have roy : o4.1 = hI g1 (V 36) (pzS P) ↔ ((mnO (P.1 k) : Nat) : Int) = L 10 0 := by
      unfold cdV at mk'
      rcases roa_e ro with ⟨a, b⟩ | ⟨a, a2, a3, a4, _⟩
      · constructor
        · intro z
          rw [z, a] at ek
          exact absurd ek (by have : (-1 : Int32).toInt = -1 := by decide
                              omega)
        · intro z
          exact absurd ⟨k, k64, by omega, by omega⟩ b
      · have ca := nc_i a2.1
        have a63 := a2.2
        constructor
        · intro z
          have : (hI g1 (V 36) (pzS P)).toNatClampNeg = k := by rw [← z]; have := nc_i (x := o4.1) (by omega); omega
          rw [this] at a4
          omega
        · intro z
          have := O.2.1 a3 (pzS P) k (hI g1 (V 36) (pzS P)).toNatClampNeg isd k64 (by omega) (by omega) a4
          exact Int32.toInt_inj.mp (by omega)
    rcases br_s e with ⟨q, e⟩ | ⟨q, e⟩ <;> rw [c5, roy] at q
    · replace e := ce_e C1.2.2.2.1.1 e
      rcases br_s e with ⟨z, e⟩ | ⟨z, e⟩
      · have z := j_zero.mp (cmp_eq z)
        exact (one_man (g3 := g1) D H K O C k64 m0 m1 ek e6 R eg1 go).1 (Or.inl (fun s hs => by rw [← C1.2.2.1.2.2.2.1 s hs]; exact z s hs)) e
      · replace e := cl_s e; obtain ⟨g2, eg2, e⟩ := e
        replace e := cl_s e; obtain ⟨g3, eg3, e⟩ := e
        exact (one_man (g3 := g3) D H K O C k64 m0 m1 ek e6 R eg1 go).2 q g2 eg2 eg3 e
    · exact (one_man (g3 := g1) D H K O C k64 m0 m1 ek e6 R eg1 go).1 (Or.inr q) e
end
end
section
/-! the class: collect, whole; how a game ends -/
theorem must_nil {L : Nat → Nat → Int} {ls : List MvT} : mustF L ls = [] ↔ ls = [] := by
  unfold mustF
  split
  · rename_i c
    constructor
    · intro z
      have a := c.2
      rw [List.any_eq_true] at a
      obtain ⟨v, hv, tv⟩ := a
      have : v ∈ ls.filter tkB := List.mem_filter.mpr ⟨hv, tv⟩
      rw [z] at this
      exact absurd this (by simp)
    · intro z
      rw [z]
      rfl
  · exact Iff.rfl
theorem must_len {L : Nat → Nat → Int} {ls : List MvT} : (mustF L ls).length ≤ ls.length := by
  unfold mustF
  split
  · exact List.length_filter_le _ _
  · exact Nat.le_refl _
theorem er1_n {L : Nat → Nat → Int} {P : Pz} : 0 ≤ (er1 L P).1 ∧ (er1 L P).1 ≤ 4 := by
  have a4 : 0 ≤ (er4 L P).1 ∧ (er4 L P).1 ≤ 4 := by
    unfold er4
    split
    · exact ⟨show (0 : Int) ≤ 4 by decide, show (4 : Int) ≤ 4 by decide⟩
    · split
      · exact ⟨show (0 : Int) ≤ 4 by decide, show (4 : Int) ≤ 4 by decide⟩
      · exact ⟨show (0 : Int) ≤ 0 by decide, show (0 : Int) ≤ 4 by decide⟩
  have a3 : 0 ≤ (er3 L P).1 ∧ (er3 L P).1 ≤ 4 := by
    unfold er3
    split
    · exact ⟨show (0 : Int) ≤ 3 by decide, show (3 : Int) ≤ 4 by decide⟩
    · split
      · exact ⟨show (0 : Int) ≤ 3 by decide, show (3 : Int) ≤ 4 by decide⟩
      · exact a4
  have a2 : 0 ≤ (er2 L P).1 ∧ (er2 L P).1 ≤ 4 := by
    unfold er2
    split
    · exact ⟨show (0 : Int) ≤ 2 by decide, show (2 : Int) ≤ 4 by decide⟩
    · split
      · exact ⟨show (0 : Int) ≤ 2 by decide, show (2 : Int) ≤ 4 by decide⟩
      · exact a3
  unfold er1
  split
  · exact ⟨show (0 : Int) ≤ 1 by decide, show (1 : Int) ≤ 4 by decide⟩
  · split
    · exact ⟨show (0 : Int) ≤ 1 by decide, show (1 : Int) ≤ 4 by decide⟩
    · exact a2
section
variable {F : Nat} {V : Nat → Nat} {L : Nat → Nat → Int} {h : Hp} {P : Pz} {o : Int32 × Hp}
/-- all lawful moves -/
theorem lw_full (H : LOk L) : (moP L P).filter (sfB L P) = lwA L P 64 ++ lwD L P (if L 15 0 = 0 then 0 else (L 0 0 * L 1 0).toNat) := by
  unfold moP moA moD lwA lwD
  rw [List.filter_append]
  by_cases c : L 15 0 = 0
  · rw [if_pos c, if_pos c]; rfl
  · rw [if_neg c, if_neg c]
theorem lwa_pre {n : Nat} : ∀ m, n ≤ m → ∃ r, lwA L P m = lwA L P n ++ r := fun m => by
  induction m with
  | zero =>
    intro h
    have : n = 0 := by omega
    exact ⟨[], by rw [this, List.append_nil]⟩
  | succ m ih =>
    intro h
    by_cases c : n = m + 1
    · exact ⟨[], by rw [c, List.append_nil]⟩
    · obtain ⟨r, e⟩ := ih (by omega)
      exact ⟨_, by rw [lwa_s, e, List.append_assoc]⟩
theorem lwd_pre {n : Nat} : ∀ m, n ≤ m → ∃ r, lwD L P m = lwD L P n ++ r := fun m => by
  induction m with
  | zero =>
    intro h
    have : n = 0 := by omega
    exact ⟨[], by rw [this, List.append_nil]⟩
  | succ m ih =>
    intro h
    by_cases c : n = m + 1
    · exact ⟨[], by rw [c, List.append_nil]⟩
    · obtain ⟨r, e⟩ := ih (by omega)
      exact ⟨_, by rw [lwd_s, e, List.append_assoc]⟩
/-- what collect comes to -/
def CoR (V : Nat → Nat) (h : Hp) (L : Nat → Nat → Int) (P : Pz) (x3 : Int) (o : Int32 × Hp) : Prop := FrV V (wl wcq) (bgH V h) o.2 ∧ hN o.2 (V 47) = hN h (V 47) ∧ ((0 < (er1 L P).1 ∧ o.1 = 0 ∧ CLs V o.2 []) ∨ (¬ 0 < (er1 L P).1 ∧ ∃ ls, CLs V o.2 (mustF L ls) ∧ o.1.toInt = ((mustF L ls).length : Int) ∧ (ls = (moP L P).filter (sfB L P) ∨ (x3 ≤ (ls.length : Int) ∧ ∃ r, (moP L P).filter (sfB L P) = ls ++ r))))
theorem col_217 (D : VD V) {ls : List MvT} (H : LOk L) (C : CcW V h L P) (R : CLs V h ls) (T : TkF V h ls) (lm : ls.length ≤ 4096) (good : ∀ v, v ∈ ls → MvGd L P v) (e : sX5_collect_217 F h (V 6) = some o) : FrV V (wl wcq) h o.2 ∧ hN o.2 (V 47) = hN h (V 47) ∧ CLs V o.2 (mustF L ls) ∧ o.1.toInt = ((mustF L ls).length : Int) := by
  have L2 := H.2.2.1
  have b2 := C.2.1.2.1.2.1.2.1
  unfold sX5_collect_217 sX5_collect_239 at e
  replace e := ce_e C.1.1.1 e
  replace e := cl_s e; obtain ⟨o2, eo2, e⟩ := e
  obtain ⟨w2, q2⟩ := has_v eo2
  rw [w2] at e
  unfold mustF
  rcases q2 with ⟨q, y⟩ | ⟨q, y⟩
  · replace e := bp_e q e
    rw [so_e e, if_neg (fun z => z.1 (b2.mp y))]
    exact ⟨fv_0, rfl, R, R.1⟩
  have n16 : ¬ L 16 0 = 0 := fun z => y (b2.mpr z)
  replace e := bn_e (by rw [q]; decide) e
  rcases T with ⟨a, b⟩ | ⟨a, b⟩
  · replace e := bp_e a e
    rw [so_e e, if_neg (fun z => by rw [b] at z; exact absurd z.2 (by decide))]
    exact ⟨fv_0, rfl, R, R.1⟩
  · replace e := bn_e (by rw [a]; decide) e
    replace e := cl_s e; obtain ⟨g, eg, e⟩ := e
    obtain ⟨A, n, Rg'⟩ := kt_c D C.2.2.2.1.2.1 R lm (fun w hw => by have := (good w hw).2.2.1; omega) eg
    rw [so_e e, if_pos ⟨n16, b⟩]
    exact ⟨fv_s A (by decide), n, Rg', Rg'.1⟩
/-- enough before the first -/
theorem col_178s {x3 x6 x7 : Int32} {f : Nat} (l : x3.toInt ≤ (hI h (V 6) 6).toInt) (e : sX5_collect_178 F f h (V 6) x3 x6 x7 = some o) : sX5_collect_217 F h (V 6) = some o := by
  cases f with
  | zero => exact absurd e (by rw [sX5_collect_178]; exact fun z => nomatch z)
  | succ f =>
    rw [sX5_collect_178] at e
    rcases br_s e with ⟨_, e⟩ | ⟨_, e⟩
    · exact e
    · exact bp_e (ii_le.mpr l) e
theorem co_c (D : VD V) {x3 : Int32} (H : LOk L) (K : LawK L) (O : PzOk L P) (C : CcB V h L P) (e : sX5_collect F h (V 6) (V 4) (V 47) x3 = some o) : CoR V h L P x3.toInt o := by
  have z0 : (0 : Int32).toInt = 0 := rfl
  have sq := sq_64 H
  have isd := O.2.2.1
  unfold sX5_collect at e
  replace e := cl_s e; obtain ⟨g, eg, e⟩ := e
  obtain ⟨A, ng, Wt, R, T⟩ := bgn_c D H K O C eg
  have Cg := ccw_q D (ccb_w D C) A ng
  replace e := ce_e Cg.2.2.2.1.1 e
  replace e := cl_s e; obtain ⟨o3, eo3, e⟩ := e
  obtain ⟨w3, q3⟩ := ee_c K O Cg.1.1.1 Cg.2.1 Cg.2.2.1 eo3
  rw [w3] at e
  have en := er1_n (L := L) (P := P)
  rcases br_s e with ⟨c, e⟩ | ⟨c, e⟩
  rotate_left
  · rw [so_e e]
    have : ¬ (er1 L P).1 = 0 := fun z => c (Int32.toInt_inj.mp (by rw [q3, z, z0]))
    exact ⟨A, ng, Or.inl ⟨by omega, rfl, R⟩⟩
  rw [c, z0] at q3
  have e5 := Cg.2.2.1.2.2.1
  have c5 : (hI g (V 4) 5).toNatClampNeg = pzS P := by have := nc_i (x := hI g (V 4) 5) (by omega); omega
  replace e := ce_e Cg.2.2.2.1.1 e
  replace e := ce_e Cg.2.2.1.1.2.1 e
  replace e := ce_e Cg.2.2.2.1.1 e
  replace e := gg_e e
  replace e := nm_s e; obtain ⟨v9, u9, e⟩ := e
  rw [c5] at u9
  have l0 : lwA L P 0 = [] := rfl
  obtain ⟨g2, n, A2, n2, W2, n64, R2, T2, lim, e⟩ := col_39 D H K O F (m := 0) Cg Wt (by decide) (by decide) (by decide) (fun s hs => by
    rw [u9]
    have := Cg.2.2.1.2.1.2.1 (pzS P) isd s hs
    rw [this]
    exact ⟨fun z => ⟨z, Nat.zero_le _⟩, fun z => z.1⟩) (by rw [l0]; exact R) (by rw [l0]; exact T) e
  have C2 := ccw_q D Cg A2 n2
  -- men out of the hand
  have b1 := C2.2.1.2.1.2.1.1
  obtain ⟨N, eN⟩ : ∃ N : Nat, N = (if L 15 0 = 0 then 0 else (L 0 0 * L 1 0).toNat) := ⟨_, rfl⟩
  have full := lw_full (L := L) (P := P) H
  rw [← eN] at full
  obtain ⟨r1, er1'⟩ := lwa_pre (L := L) (P := P) (n := n) 64 n64
  have fin : ∀ {x6 : Int32}, x6.toInt = (N : Int) → (N : Int) ≤ L 0 0 * L 1 0 → sX5_collect_178 F F g2 (V 6) x3 x6 (0 : Int32) = some o → CoR V h L P x3.toInt o := fun {x6} e6 NL u => by
    by_cases cn : n = 64
    · have d0 : lwA L P n ++ lwD L P 0 = lwA L P n := by
        show lwA L P n ++ [] = _
        rw [List.append_nil]
      obtain ⟨g3, m, A3, n3, mN, R3, T3, lim3, u⟩ := col_178 D H K O n64 e6 NL F (m := 0) C2 W2 z0 (Nat.zero_le _) (by rw [d0]; exact R2) (by rw [d0]; exact T2) u
      have C3 := ccw_q D C2 A3 n3
      have all := lw_all H K O n64 (show m ≤ 64 by omega)
      obtain ⟨r2, er2'⟩ := lwd_pre (L := L) (P := P) (n := m) N mN
      rw [cn] at R3 T3 lim3 all
      have sub : ∀ v, v ∈ lwA L P 64 ++ lwD L P m → MvGd L P v := fun v hv => by
        have : v ∈ (moP L P).filter (sfB L P) := by
          rw [full, er2', ← List.append_assoc]
          exact List.mem_append.mpr (Or.inl hv)
        exact mo_g H K O (List.mem_filter.mp this).1
      obtain ⟨A4, n4, R4, q4⟩ := col_217 D H C3 R3 T3 (by omega) sub u
      refine ⟨fv_t A (fv_t A2 (fv_t A3 A4)), n4.trans (n3.trans (n2.trans ng)), Or.inr ⟨by omega, lwA L P 64 ++ lwD L P m, R4, q4, ?_⟩⟩
      rcases lim3 with lm | lm
      · exact Or.inl (by rw [full, lm])
      · exact Or.inr ⟨lm, r2, by rw [full, er2', List.append_assoc]⟩
    · have ln : x3.toInt ≤ ((lwA L P n).length : Int) := by
        rcases lim with z | z
        · exact absurd z cn
        · exact z
      have u := col_178s (by rw [R2.1]; exact ln) u
      have all := lw_all H K O n64 (m := 0) (by decide)
      rw [List.length_append] at all
      have sub : ∀ v, v ∈ lwA L P n → MvGd L P v := fun v hv => by
        have : v ∈ (moP L P).filter (sfB L P) := by
          rw [full, er1', List.append_assoc]
          exact List.mem_append.mpr (Or.inl hv)
        exact mo_g H K O (List.mem_filter.mp this).1
      obtain ⟨A4, n4, R4, q4⟩ := col_217 D H C2 R2 T2 (by omega) sub u
      exact ⟨fv_t A (fv_t A2 A4), n4.trans (n2.trans ng), Or.inr ⟨by omega, lwA L P n, R4, q4, Or.inr ⟨ln, r1 ++ lwD L P N, by rw [full, er1', List.append_assoc]⟩⟩⟩
  unfold sX5_collect_151 sX5_collect_173 at e
  replace e := ce_e C2.1.1.1 e
  replace e := cl_s e; obtain ⟨o2, eo2, e⟩ := e
  obtain ⟨w2, q2⟩ := has_v eo2
  rw [w2] at e
  rcases q2 with ⟨q, y⟩ | ⟨q, y⟩
  · replace e := bp_e q e
    have : N = 0 := by rw [eN, if_pos (b1.mp y)]
    exact fin (by rw [this]; rfl) (by omega) e
  · replace e := bn_e (by rw [q]; decide) e
    replace e := ce_e C2.1.1.1 e
    have : N = (L 0 0 * L 1 0).toNat := by rw [eN, if_neg (fun z => y (b1.mpr z))]
    exact fin (by rw [C2.2.1.1.2.2.1, this]; omega) (by omega) e
/-- all moves -/
theorem co_all (D : VD V) (H : LOk L) (K : LawK L) (O : PzOk L P) (C : CcB V h L P) (e : sX5_collect F h (V 6) (V 4) (V 47) (4096 : Int32) = some o) : FrV V (wl wcq) (bgH V h) o.2 ∧ hN o.2 (V 47) = hN h (V 47) ∧ CLs V o.2 (lgL L P) ∧ o.1.toInt = ((lgL L P).length : Int) := by
  obtain ⟨A, n, q⟩ := co_c D H K O C e
  refine ⟨A, n, ?_⟩
  unfold lgL
  rcases q with ⟨a, b, c⟩ | ⟨a, ls, b, c, d⟩
  · rw [if_pos a, b]
    exact ⟨c, rfl⟩
  · rw [if_neg a]
    rcases d with d | ⟨d, r, er⟩
    · rw [← d]
      exact ⟨b, c⟩
    · have z : (4096 : Int32).toInt = 4096 := rfl
      have ln := moa_len H K O
      have l2 : ((moP L P).filter (sfB L P)).length ≤ (moP L P).length := List.length_filter_le _ _
      rw [er, List.length_append] at l2
      omega
/-- whether there is a move -/
theorem co_one (D : VD V) (H : LOk L) (K : LawK L) (O : PzOk L P) (C : CcB V h L P) (e : sX5_collect F h (V 6) (V 4) (V 47) (1 : Int32) = some o) : FrV V (wl wcq) (bgH V h) o.2 ∧ hN o.2 (V 47) = hN h (V 47) ∧ ((o.1.toInt ≤ 0 ∧ lgL L P = []) ∨ (0 < o.1.toInt ∧ ¬ lgL L P = [])) := by
  have z0 : (0 : Int32).toInt = 0 := rfl
  have z1 : (1 : Int32).toInt = 1 := rfl
  obtain ⟨A, n, q⟩ := co_c D H K O C e
  refine ⟨A, n, ?_⟩
  unfold lgL
  rcases q with ⟨a, b, c⟩ | ⟨a, ls, b, c, d⟩
  · rw [if_pos a, b, z0]
    exact Or.inl ⟨Int.le_refl _, rfl⟩
  · rw [if_neg a]
    rcases d with d | ⟨d, r, er⟩
    · rw [← d]
      by_cases y : mustF L ls = []
      · rw [y] at c
        exact Or.inl ⟨by rw [c]; exact Int.le_refl _, y⟩
      · have : 0 < (mustF L ls).length := List.length_pos_iff.mpr y
        exact Or.inr ⟨by omega, y⟩
    · rw [z1] at d
      have ne : ¬ ls = [] := fun z => by
        rw [z] at d
        exact absurd d (by decide)
      have : 0 < (mustF L ls).length := List.length_pos_iff.mpr (fun z => ne (must_nil.mp z))
      refine Or.inr ⟨by omega, fun z => ?_⟩
      have z := must_nil.mp z
      rw [er] at z
      exact ne (List.append_eq_nil_iff.mp z).1
/-- how a position ends, and who wins -/
noncomputable def enE (L : Nat → Nat → Int) (P : Pz) : Int × Int := if 0 < (er1 L P).1 then er1 L P else if ¬ lgL L P = [] then (0, 0) else if prB' (RyH L P.1 (pzS P)) = true then (5, ((1 - pzS P : Nat) : Int)) else (6, if L 22 0 = 0 then 2 else if L 22 0 = 1 then (pzS P : Int) else ((1 - pzS P : Nat) : Int))
end
end
section
/-! the class: make -/
theorem hd_sm : ∀ j : Fin 12, ((-1 : Int32).toInt64 <<< (((5 : Int32) * (nI j.val)).toInt64 &&& 63)).toBitVec.toNat = 2 ^ 64 - 2 ^ (5 * j.val) := by decide +kernel
/-- one man less in hand -/
theorem adh_m {h o : Hp} {p r : Nat} {s man : Int32} (e3 : hR h p 3 = some r) (im : Rg 0 11 man) (b : HdB (hJ h r s.toNatClampNeg)) (l : 1 ≤ hv (hJ h r s.toNatClampNeg) man.toNatClampNeg) (e : sX3_addToHand h p s man (-1 : Int32) = some o) : ∃ x, o = wJ h r s.toNatClampNeg x ∧ HdB x ∧ ∀ k, hv (hJ h r s.toNatClampNeg) k = hv x k + if k = man.toNatClampNeg then 1 else 0 := by
  have m0 := im.1
  have m1 := im.2
  have nn := nc_i m0
  have em : nI man.toNatClampNeg = man := Int32.toInt_inj.mp (by rw [z_toInt (by omega)]; omega)
  have sh := hd_sm ⟨man.toNatClampNeg, by omega⟩
  dsimp only at sh
  rw [em] at sh
  unfold sX3_addToHand at e
  replace e := ce_e e3 e
  replace e := gg_e e
  replace e := gg_e e
  replace e := nm_s e; obtain ⟨h4, w4, e⟩ := e
  have p55 : 2 ^ (5 * man.toNatClampNeg) ≤ 2 ^ 55 := Nat.pow_le_pow_right (by decide) (by omega)
  have ppos : 0 < 2 ^ (5 * man.toNatClampNeg) := Nat.two_pow_pos _
  unfold HdB at b
  have a1 : (2 : Nat) ^ 60 = 1152921504606846976 := by decide
  have a2 : (2 : Nat) ^ 55 = 36028797018963968 := by decide
  have a3 : (2 : Nat) ^ 64 = 18446744073709551616 := by decide
  have ge : 2 ^ (5 * man.toNatClampNeg) ≤ (hJ h r s.toNatClampNeg).toBitVec.toNat := by
    by_cases c : 2 ^ (5 * man.toNatClampNeg) ≤ (hJ h r s.toNatClampNeg).toBitVec.toNat
    · exact c
    · unfold hv at l
      rw [Nat.div_eq_of_lt (by omega)] at l
      omega
  have nat : ((hJ h r s.toNatClampNeg) + ((-1 : Int32).toInt64 <<< (((5 : Int32) * man).toInt64 &&& 63))).toBitVec.toNat = (hJ h r s.toNatClampNeg).toBitVec.toNat - 2 ^ (5 * man.toNatClampNeg) := by
    rw [Int64.toBitVec_add, BitVec.toNat_add, sh]
    generalize 2 ^ (5 * man.toNatClampNeg) = q at *
    rw [a3] at *
    omega
  refine ⟨_, by rw [← Option.some.inj e]; exact w4, ?_, fun k => ?_⟩
  · unfold HdB
    rw [nat]
    omega
  · unfold hv at l ⊢
    rw [nat]
    generalize hX : (hJ h r s.toNatClampNeg).toBitVec.toNat = X at *
    obtain ⟨y, hy⟩ : ∃ y, X = y + 2 ^ (5 * man.toNatClampNeg) := ⟨X - 2 ^ (5 * man.toNatClampNeg), by omega⟩
    have ey : X - 2 ^ (5 * man.toNatClampNeg) = y := by omega
    rw [ey]
    have q := Nat.add_div_right y ppos
    rw [← hy] at q
    rw [hy]
    exact dgt_add (by omega)
section
variable {F : Nat} {V : Nat → Nat} {L : Nat → Nat → Int} {h o : Hp} {P : Pz} {v : MvT} {x : Int32}
theorem pw_c {y : Int64} {n : Nat} {q r : Nat → Nat} (A : Pw y n q) (e : ∀ i, i < n → q i = r i) : Pw y n r := ⟨A.1, fun i hi => by rw [← e i hi]; exact A.2.1 i hi, by rw [A.2.2, pks_c n e]⟩
/-- the squares gone over, one by one -/
theorem npc_56 (D : VD V) {x3 x5 x6 : Int32} {s k st : Int} {q : Nat → Nat} (e3 : x3.toInt = k) (k7 : k ≤ 7) (e5 : x5.toInt = s) (e6 : x6.toInt = st) (rg : ∀ i : Nat, 1 ≤ i → (i : Int) < k → (0 ≤ s + i * st ∧ s + i * st < 64) ∧ q i = (s + i * st).toNat) (ist : -63 ≤ st ∧ st ≤ 63) : ∀ (f : Nat) {h : Hp} {x7 : Int32} {n : Nat}, x7.toInt = (n : Int) → 1 ≤ n → (n : Int) ≤ k → Pw (hJ h (V 4) 9) n q → OvN (hJ h (V 4) 10) n q → sX5_notePass_56 F f h (V 4) x3 x5 x6 x7 = some o → FrV V (wl [(4, 9), (4, 10)]) h o ∧ Pw (hJ o (V 4) 9) k.toNat q ∧ OvN (hJ o (V 4) 10) k.toNat q := by
  have z1 : (1 : Int32).toInt = 1 := rfl
  intro f
  induction f with
  | zero => intro h x7 n _ _ _ _ _ e; exact absurd e (by rw [sX5_notePass_56]; exact fun z => nomatch z)
  | succ f ih =>
    intro h x7 n e7 n1 nk Pn On e
    rw [sX5_notePass_56] at e
    rcases br_s e with ⟨c, e⟩ | ⟨c, e⟩
    · have c := le_i c
      rw [e3, e7] at c
      have : k.toNat = n := by omega
      rw [so_e e, this]
      exact ⟨fv_0, Pn, On⟩
    have c := nle_i c
    rw [e3, e7] at c
    obtain ⟨r1, r2⟩ := rg n n1 c
    have nb : -63 * 7 ≤ (n : Int) * st ∧ (n : Int) * st ≤ 63 * 7 := by
      have a := Int.mul_le_mul_of_nonneg_left ist.1 (show (0 : Int) ≤ n by omega)
      have b := Int.mul_le_mul_of_nonneg_left ist.2 (show (0 : Int) ≤ n by omega)
      omega
    have m1 : (x7 * x6).toInt = n * st := by rw [tm (by rw [e7, e6]; omega), e7, e6]
    have m2 : (x5 + (x7 * x6)).toInt = s + n * st := by rw [ta (by rw [e5, m1]; omega), e5, m1]
    have c2 : (x5 + (x7 * x6)).toNatClampNeg = q n := by have := nc_i (x := x5 + (x7 * x6)) (by omega); omega
    replace e := cl_s e; obtain ⟨g, eg, e⟩ := e
    obtain ⟨X, Y, ug, pw, ov⟩ := ap_q (x1 := x5 + (x7 * x6)) ⟨by omega, by omega⟩ Pn (by omega) eg
    have g9 : hJ g (V 4) 9 = X := by rw [ug, r_J, if_neg (fun z => absurd z.2 (by decide)), r_J, if_pos ⟨rfl, rfl⟩]
    have g10 : hJ g (V 4) 10 = Y := by rw [ug, r_J, if_pos ⟨rfl, rfl⟩]
    have A : FrV V (wl [(4, 9), (4, 10)]) h g := by rw [ug]; exact fv_t (fv_j rfl) (fv_j rfl)
    obtain ⟨B, r⟩ := ih (n := n + 1) (by rw [ta (by rw [z1]; omega), z1, e7]; omega) (by omega) (by omega) (by
      rw [g9]
      refine pw_c pw (fun i hi => ?_)
      show (if i = n then (x5 + (x7 * x6)).toNatClampNeg else q i) = q i
      rw [c2]
      by_cases w : i = n
      · rw [if_pos w, w]
      · rw [if_neg w]) (by
      rw [g10]
      intro t
      rw [ov t, Bool.or_eq_true, Bool.and_eq_true, decide_eq_true_iff, decide_eq_true_iff, On t, c2]
      constructor
      · rintro (⟨i, i1, i2, i3⟩ | ⟨_, i3⟩)
        · exact ⟨i, i1, by omega, i3⟩
        · exact ⟨n, n1, by omega, i3⟩
      · rintro ⟨i, i1, i2, i3⟩
        by_cases w : i = n
        · rw [w] at i3
          exact Or.inr ⟨by omega, i3⟩
        · exact Or.inl ⟨i, i1, by omega, i3⟩) (nx_e e)
    exact ⟨fv_t A B, r⟩
theorem ovn_c {y : Int64} {n : Nat} {q r : Nat → Nat} (A : OvN y n q) (e : ∀ i, i < n → q i = r i) : OvN y n r := fun t => by
  rw [A t]
  exact ⟨fun ⟨i, a, b, c⟩ => ⟨i, a, b, by rw [← e i b]; exact c⟩, fun ⟨i, a, b, c⟩ => ⟨i, a, b, by rw [e i b]; exact c⟩⟩
/-- notePass -/
theorem np_c (D : VD V) (H : LOk L) (O : PzOk L P) (G : MvGd L P v) (M' : MvC x v) (Pc : VPc V h) (on : ∀ s, s < 64 → (hI h (V 34) s).toInt = mkM L P v s - 1) (e : sX5_notePass F h (V 6) (V 4) x = some o) : FrV V (wl [(4, 9), (4, 10)]) h o ∧ Pw (hJ o (V 4) 9) (pzN (zAll L P v)) (pzQ (zAll L P v)) ∧ OvN (hJ o (V 4) 10) (pzN (zAll L P v)) (pzQ (zAll L P v)) := by
  have zm : (-1 : Int32).toInt = -1 := by decide
  have z0 : (0 : Int32).toInt = 0 := rfl
  have z2 : (2 : Int32).toInt = 2 := rfl
  have sq := sq_64 H
  have fi := H.1
  obtain ⟨f0, f1, _, _, _, _, f6⟩ := pk_fd M'
  obtain ⟨t0, tL⟩ := G.1.1
  obtain ⟨n1, n2⟩ := zall_n (L := L) (P := P) (v := v)
  have kk := mvgd_k G
  unfold sX5_notePass sX3_clearPass sX5_passedBy sX5_comeTo sX5_leftBy sX5_notePass_31 at e
  replace e := cl_s e; obtain ⟨g, eg, e⟩ := e
  replace eg := nm_s eg; obtain ⟨g1, ug1, eg⟩ := eg
  replace eg := nm_s eg; obtain ⟨g2, ug2, eg⟩ := eg
  have eg := so_e eg
  rw [eg] at e
  have A1 : FrV V (wl [(4, 9), (4, 10)]) h g2 := by rw [ug2, ug1]; exact fv_t (fv_j rfl) (fv_j rfl)
  have g9 : hJ g2 (V 4) 9 = 0 := by rw [ug2, ug1, r_J, if_neg (fun z => absurd z.2 (by decide)), r_J, if_pos ⟨rfl, rfl⟩]
  have g10 : hJ g2 (V 4) 10 = 0 := by rw [ug2, r_J, if_pos ⟨rfl, rfl⟩]
  have p0 : ∀ q : Nat → Nat, Pw (hJ g2 (V 4) 9) 0 q := fun q => ⟨by decide, fun i hi => absurd hi (Nat.not_lt_zero _), by rw [g9]; rfl⟩
  have o0 : ∀ q : Nat → Nat, OvN (hJ g2 (V 4) 10) 0 q := fun q t => by
    rw [g10, bj_zero]
    exact ⟨fun z => absurd z (by decide), fun ⟨i, _, b, _⟩ => absurd b (Nat.not_lt_zero _)⟩
  replace e := cl_s e; obtain ⟨o2, eo2, e⟩ := e
  rw [so_e eo2] at e
  replace e := cl_s e; obtain ⟨o3, eo3, e⟩ := e
  rw [so_e eo3] at e
  -- no PASS
  have non : ¬ ((L 18 0 = 0 ∨ v.2.2.2.2.1 = -1) ∧ v.2.2.2.2.2.1 < 2 ∧ 0 < v.2.2.2.2.2.2) → some g2 = some o → FrV V (wl [(4, 9), (4, 10)]) h o ∧ Pw (hJ o (V 4) 9) (pzN (zAll L P v)) (pzQ (zAll L P v)) ∧ OvN (hJ o (V 4) 10) (pzN (zAll L P v)) (pzQ (zAll L P v)) := fun n u => by
    rw [if_neg n] at n1
    rw [so_e u, n1]
    exact ⟨A1, p0 _, o0 _⟩
  rcases br_s e with ⟨c, e⟩ | ⟨c, e⟩
  · have c : ((x >>> ((26 : Int32) &&& 31)) &&& (7 : Int32)) < (2 : Int32) := c
    have c := lt_i c
    rw [f6, z2] at c
    refine non (fun z => ?_) e
    have z1 := z.2.1
    have z3 := z.2.2
    rw [if_pos (by omega)] at c
    rcases G.2.2.2.2.2.2.2.1 z1 with w | w
    · omega
    · have := w.1; omega
  have c : ¬ ((x >>> ((26 : Int32) &&& 31)) &&& (7 : Int32)) < (2 : Int32) := c
  have c := nlt_i c
  rw [f6, z2] at c
  have kl : v.2.2.2.2.2.1 < 2 := by
    by_cases w : v.2.2.2.2.2.1 = 0 ∨ v.2.2.2.2.2.1 = 1
    · omega
    · rw [if_neg w] at c; omega
  have k01 : v.2.2.2.2.2.1 = 0 ∨ v.2.2.2.2.2.1 = 1 := by omega
  rw [if_pos k01] at c f6
  have k3 : ¬ v.2.2.2.2.2.1 = 3 := by omega
  rw [if_neg k3] at f1
  obtain ⟨⟨s0, sL⟩, _⟩ := mvgd_s G k3
  have it : Rg 0 63 (x &&& (63 : Int32)) := ⟨by omega, by omega⟩
  have ct : (x &&& (63 : Int32)).toNatClampNeg = v.2.1.toNat := by have := nc_i it.1; omega
  have on' := on v.2.1.toNat (by omega)
  replace e := ce_e (by rw [A1.1]; exact Pc.1) e
  replace e := gg_e e
  rcases br_s e with ⟨y, e⟩ | ⟨y, e⟩
  · have y : hI g2 (V 34) (x &&& (63 : Int32)).toNatClampNeg = (-1 : Int32) := y
    rw [ct, fvI D A1 34 v.2.1.toNat] at y
    rw [y, zm] at on'
    refine non (fun z => ?_) e
    have mk : mkM L P v = zMen P v := if_pos z.1
    rw [mk, zmen_e H G _ (by omega), sh_t k3] at on'
    have := (nw_in O G).1
    omega
  have y : ¬ hI g2 (V 34) (x &&& (63 : Int32)).toNatClampNeg = (-1 : Int32) := y
  rw [ct, fvI D A1 34 v.2.1.toNat] at y
  have c18 : L 18 0 = 0 ∨ v.2.2.2.2.1 = -1 := by
    by_cases w : L 18 0 = 0 ∨ v.2.2.2.2.1 = -1
    · exact w
    · have mk : mkM L P v = blM L (zMen P v) v.2.1.toNat := if_neg w
      rw [mk, blm_y (Or.inl rfl)] at on'
      exact absurd (Int32.toInt_inj.mp (by rw [on', zm]; rfl)) y
  have pos : 0 < v.2.2.2.2.2.2 := by omega
  have cond : (L 18 0 = 0 ∨ v.2.2.2.2.1 = -1) ∧ v.2.2.2.2.2.1 < 2 ∧ 0 < v.2.2.2.2.2.2 := ⟨c18, kl, pos⟩
  rw [if_pos cond] at n1
  rcases G.2.2.2.2.2.2.2.1 kl with w | ⟨k2, ⟨k7, X, Y, iX, iY, ok, et⟩, _⟩
  · omega
  have ed : v.2.1 - v.1 = v.2.2.2.2.2.2 * (Y * L 0 0 + X) := by rw [et, tgt_s]; omega
  have est : (v.2.1 - v.1) / v.2.2.2.2.2.2 = Y * L 0 0 + X := by rw [ed, Int.mul_ediv_cancel_left _ (by omega)]
  replace e := cl_s e; obtain ⟨o8, eo8, e⟩ := e
  rw [so_e eo8] at e
  replace e := gg_e e
  replace e := nm_s e; obtain ⟨v10, u10, e⟩ := e
  dsimp only at u10 e
  have t10 : v10.toInt = Y * L 0 0 + X := by
    rw [u10]
    exact tdx f6 (by omega) (by rw [ts (by rw [f0, f1]; omega), f0, f1, ed])
  have bs : -63 ≤ Y * L 0 0 + X ∧ Y * L 0 0 + X ≤ 63 := by
    have e2 := ed
    have a : 2 * (Y * L 0 0 + X) ≤ 63 ∨ ¬ 0 ≤ Y * L 0 0 + X := by
      by_cases w : 0 ≤ Y * L 0 0 + X
      · have := Int.mul_le_mul_of_nonneg_right k2 w
        exact Or.inl (by omega)
      · exact Or.inr w
    have b : -63 ≤ 2 * (Y * L 0 0 + X) ∨ 0 ≤ Y * L 0 0 + X := by
      by_cases w : 0 ≤ Y * L 0 0 + X
      · exact Or.inr w
      · have := Int.mul_le_mul_of_nonneg_right k2 (show 0 ≤ -(Y * L 0 0 + X) by omega)
        rw [Int.mul_neg, Int.mul_neg] at this
        exact Or.inl (by omega)
    omega
  replace e := cl_s e; obtain ⟨g3, eg3, e⟩ := e
  obtain ⟨X3, Y3, ug3, pw3, ov3⟩ := ap_q (x1 := x &&& (63 : Int32)) it (p0 (psQ v)) (by decide) eg3
  have h9 : hJ g3 (V 4) 9 = X3 := by rw [ug3, r_J, if_neg (fun z => absurd z.2 (by decide)), r_J, if_pos ⟨rfl, rfl⟩]
  have h10 : hJ g3 (V 4) 10 = Y3 := by rw [ug3, r_J, if_pos ⟨rfl, rfl⟩]
  have A3 : FrV V (wl [(4, 9), (4, 10)]) g2 g3 := by rw [ug3]; exact fv_t (fv_j rfl) (fv_j rfl)
  obtain ⟨B, r1, r2⟩ := npc_56 (q := psQ v) (s := v.1) (k := v.2.2.2.2.2.2) (st := Y * L 0 0 + X) D f6 k7 f1 t10 (fun i i1 ik => by
    have m := onk_mid (show 0 < L 0 0 by omega) s0 sL ok (j := (i : Int)) ⟨by omega, by omega⟩
    have tg := tgt_on (show 0 < L 0 0 by omega) m
    rw [tgt_s] at tg
    refine ⟨⟨tg.1, by omega⟩, ?_⟩
    unfold psQ
    rw [if_neg (by omega), est]) bs F (h := g3) (n := 1) rfl (by decide) (by omega) (by
    rw [h9]
    refine pw_c pw3 (fun i hi => ?_)
    have i0 : i = 0 := by omega
    rw [i0, if_pos rfl, ct]
    unfold psQ
    rw [if_pos rfl]) (by
    rw [h10]
    intro t
    rw [ov3 t, g10, bj_zero]
    constructor
    · intro z
      exact absurd z (by simp)
    · rintro ⟨i, i1, i2, _⟩
      omega) e
  rw [n1, n2 cond]
  exact ⟨fv_t A1 (fv_t A3 B), r1, r2⟩
end
end
section
/-! the class: make, whole -/
abbrev wmc : List (Nat × Nat) := [(7, 2), (4, 5), (4, 6), (4, 7), (4, 8), (4, 9), (4, 10), (34, 999), (35, 999), (36, 999), (37, 999), (38, 999)]
section
variable {F : Nat} {V : Nat → Nat} {L : Nat → Nat → Int} {h o : Hp} {P : Pz} {v : MvT} {x : Int32}
/-- what make needs of the world -/
def MkC (V : Nat → Nat) (h : Hp) (L : Nat → Nat → Int) : Prop := CWy V h L ∧ CLwC V h L
theorem mkc_f (D : VD V) {Ls : List (Nat × Nat)} (C : MkC V h L) (A : FrV V (wl Ls) h o) (n : ∀ p, p ∈ Ls → p.1 ∈ vql ∧ ¬ p.1 ∈ kLw) : MkC V o L := ⟨cwy_fr D C.1 A n, clw_fr D C.2 A n⟩
/-- clock, side, checks -/
theorem mkc_216 (D : VD V) {x3 t0 : Int32} {M : Nat → Int} {Ck : Nat → Int} {sd : Nat} (H : LOk L) (HM : MOk L M) (U : UnM M (L 10 0)) (C : MkC V h L) (Pc : VPc V h) (R : PosC h (V 34) (V 35) (V 36) M (L 10 0)) (isd : sd < 2) (e3 : x3.toInt = (sd : Int)) (ck : ∀ d, d < 2 → (hI h (V 38) d).toInt = Ck d) (cb : ∀ d, d < 2 → 0 ≤ Ck d ∧ Ck d ≤ 9) (e : sX5_make_216 F h (V 6) (V 4) x3 t0 (V 4) = some o) : FrV V (wl [(4, 5), (4, 6), (38, 999)]) h o ∧ (hI o (V 4) 6).toInt = t0.toInt ∧ (hI o (V 4) 5).toInt = ((1 - sd : Nat) : Int) ∧ ∀ d, d < 2 → (hI o (V 38) d).toInt = (if prB' (ckP L M sd d) = true then (if Ck d + 1 < 9 then Ck d + 1 else 9) else Ck d) := by
  have z0 : (0 : Int32).toInt = 0 := rfl
  have z1 : (1 : Int32).toInt = 1 := rfl
  have z9 : (9 : Int32).toInt = 9 := rfl
  have c3 : x3.toNatClampNeg = sd := by have := nc_i (x := x3) (by omega); omega
  have s3 : ((1 : Int32) - x3).toInt = ((1 - sd : Nat) : Int) := by rw [ts (by rw [z1, e3]; omega), z1, e3]; omega
  unfold sX5_make_216 sX5_make_267 at e
  replace e := nm_s e; obtain ⟨h1, u1, e⟩ := e
  replace e := nm_s e; obtain ⟨h2, u2, e⟩ := e
  have A1 : FrV V (wl [(4, 6)]) h h1 := by rw [u1]; exact fv_w rfl
  have A2 : FrV V (wl [(4, 5)]) h1 h2 := by rw [u2]; exact fv_w rfl
  have A : FrV V (wl [(4, 5), (4, 6)]) h h2 := fv_t (fv_s A1 (by decide)) (fv_s A2 (by decide))
  have i6 : hI h2 (V 4) 6 = t0 := by rw [fvi D A2 4 6, u1, r_I, if_pos ⟨rfl, rfl⟩]
  have i5 : hI h2 (V 4) 5 = (1 : Int32) - x3 := by rw [u2, r_I, if_pos ⟨rfl, rfl⟩]
  have C2 := mkc_f D C A (by decide)
  have Pc2 : VPc V h2 := ⟨by rw [A.1]; exact Pc.1, by rw [A.1]; exact Pc.2.1, by rw [A.1]; exact Pc.2.2.1, by rw [A.1]; exact Pc.2.2.2.1, by rw [A.1]; exact Pc.2.2.2.2⟩
  have R2 : PosC h2 (V 34) (V 35) (V 36) M (L 10 0) := posc_k R (fun i => fvI D A 34 i) (fun i => fvI D A 36 i) (fun i => fvJ D A 35 i) (fun _ _ => rfl)
  have r7 := C2.2.2.2.1.2.2.2.1
  have k2 : ∀ d, d < 2 → (hI h2 (V 38) d).toInt = Ck d := fun d hd => by rw [fvI D A 38 d]; exact ck d hd
  have non : ¬ (0 < L 20 0 ∧ RyH L M (1 - sd)) → some h2 = some o → FrV V (wl [(4, 5), (4, 6), (38, 999)]) h o ∧ (hI o (V 4) 6).toInt = t0.toInt ∧ (hI o (V 4) 5).toInt = ((1 - sd : Nat) : Int) ∧ ∀ d, d < 2 → (hI o (V 38) d).toInt = (if prB' (ckP L M sd d) = true then (if Ck d + 1 < 9 then Ck d + 1 else 9) else Ck d) := fun n u => by
    rw [so_e u]
    refine ⟨fv_s A (by decide), by rw [i6], by rw [i5, s3], fun d hd => ?_⟩
    rw [if_neg (fun z => n (prb_e.mp z).2)]
    exact k2 d hd
  replace e := ce_e C2.1.1.1 e
  rcases br_s e with ⟨c, e⟩ | ⟨c, e⟩
  · have c := le_i c
    rw [r7, z0] at c
    exact non (fun z => by have := z.1; omega) e
  have c := nle_i c
  rw [r7, z0] at c
  replace e := cl_s e; obtain ⟨o5, eo5, e⟩ := e
  obtain ⟨w5, q5⟩ := ryh_c (d := 1 - sd) H HM U C2.1.1.2 C2.1.2.1 C2.1.2.2.1 Pc2 R2 (by rw [i5, s3]) (by omega) eo5
  rw [w5] at e
  rcases q5 with ⟨a, b⟩ | ⟨a, b⟩
  · exact non (fun z => b z.2) (bp_e a e)
  replace e := bn_e (by rw [a]; decide) e
  replace e := ce_e Pc2.2.2.2.2 e
  replace e := ce_e Pc2.2.2.2.2 e
  replace e := gg_e e
  replace e := gg_e e
  rw [c3] at e
  replace e := nm_s e; obtain ⟨h8, u8, e⟩ := e
  rw [so_e e]
  have B : FrV V (wl [(38, 999)]) h2 h8 := by rw [u8]; exact fv_w (wl_9 (by decide))
  refine ⟨fv_t (fv_s A (by decide)) (fv_s B (by decide)), by rw [fvI D B 4 6, i6], by rw [fvI D B 4 5, i5, s3], fun d hd => ?_⟩
  rw [u8, r_I]
  by_cases w : d = sd
  · have cs := cb sd isd
    have gs := k2 sd isd
    have t9 : ((hI h2 (V 38) sd) + (1 : Int32)).toInt = Ck sd + 1 := by rw [ta (by rw [gs, z1]; omega), gs, z1]
    rw [if_pos ⟨rfl, w⟩, if_pos (prb_e.mpr ⟨w, c, b⟩), w]
    by_cases y9 : (9 : Int32) < ((hI h2 (V 38) sd) + (1 : Int32))
    · have y9' := lt_i y9
      rw [t9, z9] at y9'
      rw [if_pos y9, if_neg (by omega), z9]
    · have y9' := nlt_i y9
      rw [t9, z9] at y9'
      rw [if_neg y9, t9]
      by_cases q : Ck sd + 1 < 9
      · rw [if_pos q]
      · rw [if_neg q]; omega
  · rw [if_neg (fun z => w z.2), if_neg (fun z => w (prb_e.mp z).1)]
    exact k2 d hd
/-- what a move is, by its fields -/
theorem mk_fd (G : MvGd L P v) (H : LOk L) (M' : MvC x v) {g : Hp} {o1 o2 o3 : Int32 × Hp} (e1 : sX5_manOf g x = some o1) (e2 : sX5_kindOf g x = some o2) (e3 : sX5_takenBy g x = some o3) : (o1.2 = g ∧ o1.1.toInt = v.2.2.1) ∧ (o2.2 = g ∧ o2.1.toInt = v.2.2.2.2.2.1) ∧ (o3.2 = g ∧ o3.1.toInt = v.2.2.2.2.1) := by
  have L2 := H.2.2.1
  obtain ⟨_, _, f2, _, _, f5, _⟩ := pk_fd M'
  unfold sX5_manOf at e1
  unfold sX5_kindOf at e2
  rw [so_e e1, so_e e2]
  refine ⟨⟨rfl, f2⟩, ⟨rfl, f5⟩, ?_⟩
  obtain ⟨w, q⟩ := tak_v M' e3
  refine ⟨w, ?_⟩
  rw [q]
  rcases G.2.2.1 with y | ⟨y, y'⟩
  · rw [if_pos (by rw [if_pos y]), y]
  · rw [if_neg (show ¬ v.2.2.2.2.1 = -1 by omega), if_neg (show ¬ v.2.2.2.2.1 = 15 by omega)]
/-- everything but men in hand -/
theorem mkc_151 (D : VD V) {x3 x4 x5 x6 : Int32} (H : LOk L) (K : LawK L) (O : PzOk L P) (G : MvGd L P v) (M' : MvC x v) (C : MkC V h L) (Pc : VPc V h) (R : PosC h (V 34) (V 35) (V 36) (mkM L P v) (L 10 0)) (e3 : x3.toInt = (pzS P : Int)) (e4 : x4.toInt = v.2.2.1) (e5 : x5.toInt = v.2.2.2.2.2.1) (e6 : x6.toInt = v.2.2.2.2.1) (rt : ∀ q, q < 64 → bitJ (hJ h (V 4) 8) q = pzR (zAll L P v) q) (hd : (∀ s, s < 2 → HdB (hJ h (V 37) s)) ∧ ∀ d, d < 24 → ((hv (hJ h (V 37) (d % 2)) (d / 2) : Nat) : Int) = pzH (zAll L P v) d) (ck : ∀ d, d < 2 → (hI h (V 38) d).toInt = pzC P d) (cl' : (hI h (V 4) 6).toInt = pzK P) (e : sX5_make_151 F h (V 6) (V 4) x x3 x4 x5 x6 = some o) : FrV V (wl wmc) h o ∧ CpP V o (L 10 0) (zAll L P v) := by
  have zm : (-1 : Int32).toInt = -1 := by decide
  have z0 : (0 : Int32).toInt = 0 := rfl
  have z1 : (1 : Int32).toInt = 1 := rfl
  have z2 : (2 : Int32).toInt = 2 := rfl
  have z3 : (3 : Int32).toInt = 3 := rfl
  have z200 : (200 : Int32).toInt = 200 := rfl
  have L2 := H.2.2.1
  obtain ⟨mo, un⟩ := mkm_ok H K O G
  have kb := O.2.2.2.2.2.2.2
  have mg := G.1.2.1
  unfold sX5_make_151 sX5_make_187 sX5_make_191 sX5_make_192 at e
  replace e := cl_s e; obtain ⟨g, eg, e⟩ := e
  obtain ⟨A, pw, ov⟩ := np_c D H O G M' Pc R.1 eg
  have Cg := mkc_f D C A (by decide)
  have Pg : VPc V g := ⟨by rw [A.1]; exact Pc.1, by rw [A.1]; exact Pc.2.1, by rw [A.1]; exact Pc.2.2.1, by rw [A.1]; exact Pc.2.2.2.1, by rw [A.1]; exact Pc.2.2.2.2⟩
  have Rg' : PosC g (V 34) (V 35) (V 36) (mkM L P v) (L 10 0) := posc_k R (fun i => fvI D A 34 i) (fun i => fvI D A 36 i) (fun i => fvJ D A 35 i) (fun _ _ => rfl)
  -- the end
  have fin : ∀ {t0 : Int32}, t0.toInt = zCnt L P v → sX5_make_216 F g (V 6) (V 4) x3 t0 (V 4) = some o → FrV V (wl wmc) h o ∧ CpP V o (L 10 0) (zAll L P v) := fun {t0} ht u => by
    obtain ⟨B, q6, q5, q8⟩ := mkc_216 D H mo un Cg Pg Rg' O.2.2.1 e3 (fun d hd => by rw [fvI D A 38 d]; exact ck d hd) O.2.2.2.2.2.2.1 u
    have AB : FrV V (wl wmc) h o := fv_t (fv_s A (by decide)) (fv_s B (by decide))
    refine ⟨AB, ⟨by rw [AB.1]; exact Pc.1, by rw [AB.1]; exact Pc.2.1, by rw [AB.1]; exact Pc.2.2.1, by rw [AB.1]; exact Pc.2.2.2.1, by rw [AB.1]; exact Pc.2.2.2.2⟩, ?_, by rw [q5]; rfl, fun q hq => by rw [fvj D B 4 8, fvj D A 4 8]; exact rt q hq, ⟨by rw [fvj D B 4 9]; exact pw, by rw [fvj D B 4 10]; exact ov⟩, ⟨fun s hs => by rw [fvJ D B 37 s, fvJ D A 37 s]; exact hd.1 s hs, fun d hd' => by rw [fvJ D B 37 (d % 2), fvJ D A 37 (d % 2)]; exact hd.2 d hd'⟩, fun d hd' => by rw [q8 d hd', zall_c], by rw [q6, ht]; rfl⟩
    rw [zall_m]
    exact posc_k Rg' (fun i => fvI D B 34 i) (fun i => fvI D B 36 i) (fun i => fvJ D B 35 i) (fun _ _ => rfl)
  have cg : (hI g (V 4) 6).toInt = pzK P := by rw [fvi D A 4 6]; exact cl'
  -- afresh, or one more
  have fr : (¬ v.2.2.2.2.1 = -1 ∨ v.2.2.2.2.2.1 = 3 ∨ 0 < L 81 v.2.2.1.toNat) → br ((1 : Int32) = 0) (sX5_make_216 F g (V 6) (V 4) x3 (if (200 : Int32) < ((hI g (V 4) 6) + (1 : Int32)) then (200 : Int32) else ((hI g (V 4) 6) + (1 : Int32))) (V 4)) (sX5_make_216 F g (V 6) (V 4) x3 (0 : Int32) (V 4)) = some o → FrV V (wl wmc) h o ∧ CpP V o (L 10 0) (zAll L P v) := fun y u => by
    replace u := bn_e (by decide) u
    refine fin ?_ u
    unfold zCnt
    rw [if_pos y]; rfl
  have on' : ¬ (¬ v.2.2.2.2.1 = -1 ∨ v.2.2.2.2.2.1 = 3 ∨ 0 < L 81 v.2.2.1.toNat) → br ((0 : Int32) = 0) (sX5_make_216 F g (V 6) (V 4) x3 (if (200 : Int32) < ((hI g (V 4) 6) + (1 : Int32)) then (200 : Int32) else ((hI g (V 4) 6) + (1 : Int32))) (V 4)) (sX5_make_216 F g (V 6) (V 4) x3 (0 : Int32) (V 4)) = some o → FrV V (wl wmc) h o ∧ CpP V o (L 10 0) (zAll L P v) := fun y u => by
    replace u := bp_e rfl u
    refine fin ?_ u
    unfold zCnt
    rw [if_neg y]
    have t7 : ((hI g (V 4) 6) + (1 : Int32)).toInt = pzK P + 1 := by rw [ta (by rw [cg, z1]; omega), cg, z1]
    by_cases q : (200 : Int32) < ((hI g (V 4) 6) + (1 : Int32))
    · have q' := lt_i q
      rw [z200, t7] at q'
      rw [if_pos q, if_neg (by omega), z200]
    · have q' := nlt_i q
      rw [z200, t7] at q'
      rw [if_neg q, t7]
      by_cases w : pzK P + 1 < 200
      · rw [if_pos w]
      · rw [if_neg w]; omega
  rcases br_s e with ⟨c, e⟩ | ⟨c, e⟩
  rotate_left
  · exact fr (Or.inl (fun z => c (Int32.toInt_inj.mp (by rw [e6, z, zm])))) e
  rw [c, zm] at e6
  rcases br_s e with ⟨y, e⟩ | ⟨y, e⟩
  · exact fr (Or.inr (Or.inl (by rw [← e5, y, z3]))) e
  have n3 : ¬ v.2.2.2.2.2.1 = 3 := fun z => y (Int32.toInt_inj.mp (by rw [e5, z, z3]))
  rcases br_s e with ⟨w, e⟩ | ⟨w, e⟩
  · have k2 : v.2.2.2.2.2.1 = 2 := by rw [← e5, w, z2]
    have q := G.2.2.2.2.2.1 k2
    refine on' (fun z => ?_) e
    rcases z with z | z | z
    · exact z e6.symm
    · exact n3 z
    · rw [q.2.2.1, K.2.2.2.2 (by rw [← q.2.2.1]; exact mg.1)] at z
      exact absurd z (by decide)
  replace e := ce_e Cg.1.1.1 e
  replace e := cl_s e; obtain ⟨o6, eo6, e⟩ := e
  obtain ⟨w6, q6⟩ := beo_c (m := v.2.2.1.toNat) Cg.2.2.1 (by rw [e4]; omega) (by omega) eo6
  rw [w6] at e
  rcases q6 with ⟨a, b⟩ | ⟨a, b⟩
  · replace e := bp_e a e
    refine on' (fun z => ?_) e
    rcases z with z | z | z
    · exact z e6.symm
    · exact n3 z
    · exact b z
  · replace e := bn_e (by rw [a]; decide) e
    exact fr (Or.inr (Or.inr b)) e
end
end
