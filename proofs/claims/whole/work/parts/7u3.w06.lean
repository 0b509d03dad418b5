section
/-! ENDINGS, pure: what a laid position is -/
theorem sn_zz {f : Nat → Nat} : ∀ n, (∀ s, s < n → f s = 0) → sN f n = 0 := by
  intro n
  induction n with
  | zero => intro _; rfl
  | succ n ih =>
    intro h
    show sN f n + f n = 0
    rw [ih (fun s hs => h s (by omega)), h n (Nat.lt_succ_self _)]
theorem sn_le1 {f : Nat → Nat} (f1 : ∀ s, f s ≤ 1) : ∀ n, (∀ s t, s < n → t < n → f s = 1 → f t = 1 → s = t) → sN f n ≤ 1 := by
  intro n
  induction n with
  | zero => intro _; exact Nat.zero_le _
  | succ n ih =>
    intro h
    show sN f n + f n ≤ 1
    have a := f1 n
    by_cases c : f n = 0
    · have := ih (fun s t hs ht => h s t (by omega) (by omega))
      omega
    · have z := sn_zz (f := f) n (fun s hs => by
        have b := f1 s
        apply Classical.byContradiction
        intro d
        have := h s n (by omega) (by omega) (by omega) (by omega)
        omega)
      omega
section
variable {L : Nat → Nat → Int} {row : Nat → Int} {q num m sd : Nat} {M : Nat → Int} {v : MvT}
theorem nd_mok (q0 : 0 < q) (eq : (q : Int) = L 0 0 * L 1 0) (R : RwO L row m) : MOk L (lyM row q num m) := fun s hs => by
  by_cases z : lyM row q num m s = 0
  · rw [z]; exact ⟨Int.le_refl _, fun c => absurd c (by decide)⟩
  · obtain ⟨i, hi, a, b⟩ := ly_mem m z
    have r := R.2.1 i hi
    have lt := sqi_lt (num := num) (i := i) q0
    rw [b]
    exact ⟨by omega, fun _ => ⟨by omega, by omega⟩⟩
theorem nd_un (R : RwO L row m) : UnM (lyM row q num m) (L 10 0) := fun r0 d s t d2 s64 t64 es et => by
  obtain ⟨i, hi, a, b⟩ := ly_mem (row := row) (q := q) (num := num) (s := s) m (fun z => by omega)
  obtain ⟨j, hj, a', b'⟩ := ly_mem (row := row) (q := q) (num := num) (s := t) m (fun z => by omega)
  rcases Nat.lt_trichotomy i j with c | c | c
  · exact absurd ⟨by omega, by omega⟩ (R.2.2.2 i j d c hj d2 r0)
  · rw [← a, ← a', c]
  · exact absurd ⟨by omega, by omega⟩ (R.2.2.2 j i d c hi d2 r0)
theorem nd_rd (HM : MOk L M) (s2 : sd < 2) : PzRd L (ndZ M sd) := ⟨⟨HM, s2, Or.inl rfl, fun d _ => (show (0 : Int) ≤ 0 ∧ (0 : Int) ≤ 16 by decide), fun d _ => (show (0 : Int) ≤ 0 ∧ (0 : Int) ≤ 9 by decide)⟩, (fun q _ c => nomatch c), fun d _ _ => rfl, (show (0 : Int) ≤ 0 ∧ (0 : Int) ≤ 200 by decide)⟩
theorem nd_wr (nb : L 18 0 = 0) (U : UnM M (L 10 0)) : wrN L (ndZ M sd) = 0 ↔ ¬ F3p L (ndZ M sd) ∧ ¬ RyH L M (1 - sd) := by
  constructor
  · intro z
    exact wr_63 z
  · intro ⟨f3, f6⟩
    have f2 : ¬ F2p L (ndZ M sd) := fun c => by
      obtain ⟨r0, d, d2, c⟩ := c
      have le : rcL L M d 64 ≤ 1 := sn_le1 (f := rcF L M d) (fun s => by unfold rcF; split <;> decide) 64 (fun s t hs ht a b => by
        unfold rcF at a b
        split at a
        · split at b
          · rename_i c1 c2
            exact U r0 d s t d2 hs ht c1.2 c2.2
          · exact nomatch b
        · exact nomatch a)
      have c : 1 < rcL L M d 64 ∨ (¬ L 18 0 = 0 ∧ rcL L M d 64 = 0) ∨ (0 : Int) < 0 := c
      rcases c with c | c | c
      · omega
      · exact c.1 nb
      · omega
    have f4 : ¬ F4p L (ndZ M sd) := fun ⟨s, _, c, _⟩ => nomatch c
    have f5 : ¬ F5p L (ndZ M sd) := fun c => absurd c.1 (Nat.lt_irrefl _)
    have f7 : ¬ F7p L (ndZ M sd) := fun c => by
      have : (0 : Int) < 0 + 0 := c.2
      omega
    have f8 : ¬ F8p L (ndZ M sd) := fun ⟨_, d, _, c⟩ => by
      have : (0 : Int) < 0 := c
      omega
    have f6 : ¬ RyH L (ndZ M sd).1 (1 - pzS (ndZ M sd)) := f6
    unfold wrN
    rw [if_neg (fun z => f2 (prb_e.mp z))]
    unfold wr3
    rw [if_neg (fun z => f3 (prb_e.mp z))]
    unfold wr4
    rw [if_neg (fun z => f4 (prb_e.mp z))]
    unfold wr5
    rw [if_neg (fun z => f5 (prb_e.mp z))]
    unfold wr6
    rw [if_neg (fun z => f6 (prb_e.mp z))]
    unfold wr7
    rw [if_neg (fun z => f7 (prb_e.mp z)), if_neg (fun z => f8 (prb_e.mp z))]
theorem nd_ok (H : LOk L) (K : LawK L) (HM : MOk L M) (s2 : sd < 2) (w0 : wrN L (ndZ M sd) = 0) : PzOk L (ndZ M sd) := wr_ok H K (nd_rd HM s2) w0
/-- moves of a laid position -/
theorem nd_k0 (H : LOk L) (K : LawK L) (O : PzOk L (ndZ M sd)) (hv : v ∈ moP L (ndZ M sd)) : mvK v = 0 := by
  have G := mo_g H K O hv
  rcases mo_i H hv with ⟨s, t, u, _, _, _, _, el, mv⟩ | ⟨s, p, d, _, _, _, _, ev, cs⟩ | ⟨t, m', _, _, ev, _⟩
  · have iv := mvl_j mv
    have e : mvK v = (if (prB' (ByT L (ovP (ndZ M sd)) true u.1 t)) = true then 1 else 0) := congrArg (fun u : MvT => u.2.2.2.2.2.1) iv
    rw [e]
    split
    · rename_i c
      have b := prb_e.mp c
      have k1 : mvK v = 1 := by rw [e, if_pos c]
      have : 1 < pzN (ndZ M sd) := (G.2.2.2.2.1 k1).1
      exact absurd this (by show ¬ 1 < 0; decide)
    · rfl
  · have r : rtP (ndZ M sd) p := cs.2.2.1
    exact nomatch r
  · have k3 : mvK v = 3 := by rw [ev]
    have := (G.2.2.2.2.2.2.1 k3).2.2.2.2.2
    have : (0 : Int) < 0 := this
    omega
theorem nd_mk (H : LOk L) (K : LawK L) (nb : L 18 0 = 0) (O : PzOk L (ndZ M sd)) (hv : v ∈ moP L (ndZ M sd)) : ∀ x, x < 64 → (zAll L (ndZ M sd) v).1 x = if x = (mvD v).toNat then nwV sd v else if x = (mvS v).toNat then 0 else M x := by
  intro x x64
  have G := mo_g H K O hv
  have k0 := nd_k0 H K O hv
  have k0' : v.2.2.2.2.2.1 = 0 := k0
  rw [zall_m]
  unfold mkM
  rw [if_pos (Or.inl nb), zmen_e H G x x64]
  unfold shM
  rw [if_neg (by omega)]
  unfold mdM
  rw [if_neg (by omega), if_neg (by omega)]
  rfl
end
end
section
/-! ENDINGS, pure: rows by counts; the SETS that come of one -/
noncomputable def ctR (row : Nat → Int) (v : Int) : Nat → Nat
  | 0 => 0
  | n + 1 => ctR row v n + (if row n = v then 1 else 0)
section
variable {row row' f f' : Nat → Int} {n n' : Nat} {v x : Int} {M M' : Nat → Int}
theorem ct_e : ∀ (n : Nat), (∀ i, i < n → row i = row' i) → ctR row v n = ctR row' v n := by
  intro n
  induction n with
  | zero => intro _; rfl
  | succ n ih =>
    intro h
    show ctR row v n + _ = ctR row' v n + _
    rw [ih (fun i hi => h i (by omega)), h n (Nat.lt_succ_self _)]
theorem ct_m : ∀ {n n' : Nat}, n ≤ n' → ctR row v n ≤ ctR row v n' := by
  intro n n' h
  induction n' with
  | zero => have : n = 0 := by omega
            rw [this]; exact Nat.le_refl _
  | succ n' ih =>
    by_cases c : n = n' + 1
    · rw [c]; exact Nat.le_refl _
    · have := ih (by omega)
      have e : ctR row v (n' + 1) = ctR row v n' + (if row n' = v then 1 else 0) := rfl
      omega
theorem ct_zz : ∀ (n : Nat) {k : Nat}, k ≤ n → (∀ i, k ≤ i → i < n → ¬ row i = v) → ctR row v n = ctR row v k := by
  intro n
  induction n with
  | zero => intro k h _; have : k = 0 := by omega
            rw [this]
  | succ n ih =>
    intro k h z
    by_cases c : k = n + 1
    · rw [c]
    · have e : ctR row v (n + 1) = ctR row v n + (if row n = v then 1 else 0) := rfl
      rw [e, if_neg (z n (by omega) (Nat.lt_succ_self _)), ih (by omega) (fun i a b => z i a (by omega))]
      rfl
theorem ct_p {i : Nat} (hi : i < n) : 1 ≤ ctR row (row i) n := by
  have a := ct_m (row := row) (v := row i) (show i + 1 ≤ n by omega)
  have e : ctR row (row i) (i + 1) = ctR row (row i) i + (if row i = row i then 1 else 0) := rfl
  rw [if_pos rfl] at e
  omega
theorem ct_x : ∀ (n : Nat), 1 ≤ ctR row v n → ∃ i, i < n ∧ row i = v := by
  intro n
  induction n with
  | zero => intro h; exact absurd h (by show ¬ 1 ≤ 0; decide)
  | succ n ih =>
    intro h
    have e : ctR row v (n + 1) = ctR row v n + (if row n = v then 1 else 0) := rfl
    by_cases c : row n = v
    · exact ⟨n, Nat.lt_succ_self _, c⟩
    · rw [if_neg c] at e
      obtain ⟨i, hi, a⟩ := ih (by omega)
      exact ⟨i, by omega, a⟩
theorem srt_m (S : ∀ i, i + 1 < n → row i ≤ row (i + 1)) {i j : Nat} (ij : i ≤ j) : j < n → row i ≤ row j := by
  induction j with
  | zero => intro _; have : i = 0 := by omega
            rw [this]; exact Int.le_refl _
  | succ j ih =>
    intro jn
    by_cases c : i = j + 1
    · rw [c]; exact Int.le_refl _
    · have := ih (by omega) (by omega)
      have := S j jn
      omega
/-- rising rows with the same counts are the same -/
theorem srt_1 (S : ∀ i, i + 1 < n → row i ≤ row (i + 1)) (S' : ∀ i, i + 1 < n' → row' i ≤ row' (i + 1)) (c : ∀ v, ctR row v n = ctR row' v n') : ∀ i, i < n → i < n' ∧ row i = row' i := by
  intro i
  induction i using Nat.strongRecOn with
  | ind i ih =>
    intro hi
    have pre : ∀ v, ctR row v i = ctR row' v i := fun v => ct_e i (fun j hj => (ih j hj (by omega)).2)
    have up : ctR row (row i) i + 1 ≤ ctR row (row i) n := by
      have a := ct_m (row := row) (v := row i) (show i + 1 ≤ n by omega)
      have e : ctR row (row i) (i + 1) = ctR row (row i) i + (if row i = row i then 1 else 0) := rfl
      rw [if_pos rfl] at e
      omega
    have in' : i < n' := by
      apply Classical.byContradiction
      intro z
      have a := ct_m (row := row') (v := row i) (show n' ≤ i by omega)
      have := c (row i)
      have := pre (row i)
      omega
    refine ⟨in', Classical.byContradiction (fun ne => ?_)⟩
    rcases Int.lt_or_gt_of_ne ne with l | l
    · have z := ct_zz (row := row') (v := row i) n' (k := i) (by omega) (fun j a b => by
        have := srt_m S' a b
        omega)
      have := c (row i)
      have := pre (row i)
      omega
    · have z := ct_zz (row := row) (v := row' i) n (k := i) (by omega) (fun j a b => by
        have := srt_m S a b
        omega)
      have up' : ctR row' (row' i) i + 1 ≤ ctR row' (row' i) n' := by
        have a := ct_m (row := row') (v := row' i) (show i + 1 ≤ n' by omega)
        have e : ctR row' (row' i) (i + 1) = ctR row' (row' i) i + (if row' i = row' i then 1 else 0) := rfl
        rw [if_pos rfl] at e
        omega
      have := c (row' i)
      have := pre (row' i)
      omega
theorem srt_u (S : ∀ i, i + 1 < n → row i ≤ row (i + 1)) (S' : ∀ i, i + 1 < n' → row' i ≤ row' (i + 1)) (c : ∀ v, ctR row v n = ctR row' v n') : n = n' ∧ ∀ i, i < n → row i = row' i := by
  refine ⟨?_, fun i hi => (srt_1 S S' c i hi).2⟩
  have a : n ≤ n' := by
    by_cases z : n = 0
    · omega
    · have := (srt_1 S S' c (n - 1) (by omega)).1
      omega
  have b : n' ≤ n := by
    by_cases z : n' = 0
    · omega
    · have := (srt_1 S' S (fun v => (c v).symm) (n' - 1) (by omega)).1
      omega
  omega
/-- one more into a rising row of different things -/
theorem ins_x (S : ∀ i, i + 1 < n → f i < f (i + 1)) (ni : ∀ i, i < n → ¬ f i = x) : ∃ p, p ≤ n ∧ (∀ i, i < p → f i < x) ∧ ∀ i, p ≤ i → i < n → x < f i := by
  induction n with
  | zero => exact ⟨0, Nat.le_refl _, fun i hi => absurd hi (Nat.not_lt_zero _), fun i _ hi => absurd hi (Nat.not_lt_zero _)⟩
  | succ n ih =>
    obtain ⟨p, pn, a, b⟩ := ih (fun i hi => S i (by omega)) (fun i hi => ni i (by omega))
    by_cases c : f n < x
    · by_cases d : p = n
      · exact ⟨n + 1, Nat.le_refl _, fun i hi => by
          by_cases z : i = n
          · rw [z]; exact c
          · exact a i (by omega), fun i h1 h2 => by omega⟩
      · have h1 := b (n - 1) (by omega) (by omega)
        have h2 := S (n - 1) (by omega)
        have e : n - 1 + 1 = n := by omega
        rw [e] at h2
        omega
    · have := ni n (Nat.lt_succ_self _)
      exact ⟨p, by omega, a, fun i h1 h2 => by
        by_cases z : i = n
        · rw [z]; omega
        · exact b i h1 (by omega)⟩
def inFx (f : Nat → Int) (p : Nat) (x : Int) : Nat → Int := fun i => if i < p then f i else if i = p then x else f (i - 1)
theorem ins_s {p : Nat} (S : ∀ i, i + 1 < n → f i < f (i + 1)) (pn : p ≤ n) (a : ∀ i, i < p → f i < x) (b : ∀ i, p ≤ i → i < n → x < f i) : ∀ i, i + 1 < n + 1 → inFx f p x i < inFx f p x (i + 1) := fun i hi => by
  unfold inFx
  by_cases c1 : i < p
  · rw [if_pos c1]
    by_cases c2 : i + 1 < p
    · rw [if_pos c2]; exact S i (by omega)
    · rw [if_neg c2, if_pos (show i + 1 = p by omega)]; exact a i c1
  · rw [if_neg c1, if_neg (show ¬ i + 1 < p by omega), if_neg (show ¬ i + 1 = p by omega)]
    by_cases c2 : i = p
    · rw [if_pos c2]
      exact b (i + 1 - 1) (by omega) (by omega)
    · rw [if_neg c2]
      have := S (i - 1) (by omega)
      have e : i - 1 + 1 = i + 1 - 1 := by omega
      rw [e] at this
      exact this
theorem ins_r {p : Nat} (pn : p ≤ n) : (∀ i, i < n + 1 → inFx f p x i = x ∨ ∃ j, j < n ∧ inFx f p x i = f j) ∧ (∃ i, i < n + 1 ∧ inFx f p x i = x) ∧ ∀ j, j < n → ∃ i, i < n + 1 ∧ inFx f p x i = f j := by
  refine ⟨fun i hi => ?_, ⟨p, by omega, ?_⟩, fun j hj => ?_⟩
  · unfold inFx
    by_cases c1 : i < p
    · rw [if_pos c1]; exact Or.inr ⟨i, by omega, rfl⟩
    · rw [if_neg c1]
      by_cases c2 : i = p
      · rw [if_pos c2]; exact Or.inl rfl
      · rw [if_neg c2]; exact Or.inr ⟨i - 1, by omega, rfl⟩
  · unfold inFx
    rw [if_neg (Nat.lt_irrefl _), if_pos rfl]
  · by_cases c : j < p
    · exact ⟨j, by omega, by unfold inFx; rw [if_pos c]⟩
    · exact ⟨j + 1, by omega, by
        unfold inFx
        rw [if_neg (show ¬ j + 1 < p by omega), if_neg (show ¬ j + 1 = p by omega)]
        rfl⟩
theorem ins_c {p : Nat} {y : Int → Int} : ∀ (n : Nat), p ≤ n → ctR (fun i => y (inFx f p x i)) v (n + 1) = ctR (fun i => y (f i)) v n + (if y x = v then 1 else 0) := by
  intro n
  induction n with
  | zero =>
    intro h
    have p0 : p = 0 := by omega
    show 0 + (if y (inFx f p x 0) = v then 1 else 0) = 0 + _
    have : inFx f p x 0 = x := by unfold inFx; rw [p0, if_neg (Nat.lt_irrefl _), if_pos rfl]
    rw [this]
  | succ n ih =>
    intro h
    have e : ctR (fun i => y (inFx f p x i)) v (n + 1 + 1) = ctR (fun i => y (inFx f p x i)) v (n + 1) + (if y (inFx f p x (n + 1)) = v then 1 else 0) := rfl
    have e2 : ctR (fun i => y (f i)) v (n + 1) = ctR (fun i => y (f i)) v n + (if y (f n) = v then 1 else 0) := rfl
    by_cases c : p = n + 1
    · have z : ctR (fun i => y (inFx f p x i)) v (n + 1) = ctR (fun i => y (f i)) v (n + 1) := ct_e (n + 1) (fun i hi => by
        show y (inFx f p x i) = y (f i)
        unfold inFx
        rw [if_pos (by omega)])
      have w : inFx f p x (n + 1) = x := by unfold inFx; rw [c, if_neg (Nat.lt_irrefl _), if_pos rfl]
      rw [e, z, w]
    · have w : inFx f p x (n + 1) = f n := by
        unfold inFx
        rw [if_neg (show ¬ n + 1 < p by omega), if_neg (show ¬ n + 1 = p by omega)]
        rfl
      rw [e, ih (by omega), e2, w]
      omega
/-- men of squares below B -/
def EnB (M : Nat → Int) (B n : Nat) (f : Nat → Int) : Prop := (∀ i, i + 1 < n → f i < f (i + 1)) ∧ (∀ i, i < n → ∃ s : Nat, s < B ∧ 0 < M s ∧ f i = 64 * M s + (s : Int)) ∧ ∀ s : Nat, s < B → 0 < M s → ∃ i, i < n ∧ f i = 64 * M s + (s : Int)
/-- how many squares below B hold v -/
def sqC (M : Nat → Int) (v : Int) (B : Nat) : Nat := sN (fun s => if 0 < M s ∧ M s = v then 1 else 0) B
theorem enb_ex : ∀ (B : Nat), B ≤ 64 → ∃ n f, EnB M B n f ∧ n ≤ B ∧ ∀ v, ctR (fun i => f i / 64) v n = sqC M v B := by
  intro B
  induction B with
  | zero => intro _; exact ⟨0, fun _ => 0, ⟨fun i hi => absurd hi (Nat.not_lt_zero _), fun i hi => absurd hi (Nat.not_lt_zero _), fun s hs => absurd hs (Nat.not_lt_zero _)⟩, Nat.le_refl _, fun v => rfl⟩
  | succ B ih =>
    intro b64
    obtain ⟨n, f, ⟨a1, a2, a3⟩, nb, cc⟩ := ih (by omega)
    have sc : ∀ v, sqC M v (B + 1) = sqC M v B + (if 0 < M B ∧ M B = v then 1 else 0) := fun v => rfl
    by_cases c : 0 < M B
    · have nx : ∀ i, i < n → ¬ f i = 64 * M B + (B : Int) := fun i hi z => by
        obtain ⟨s, sb, _, e⟩ := a2 i hi
        omega
      obtain ⟨p, pn, l, r⟩ := ins_x a1 nx
      obtain ⟨r1, r2, r3⟩ := ins_r (f := f) (x := 64 * M B + (B : Int)) pn
      refine ⟨n + 1, inFx f p (64 * M B + (B : Int)), ⟨ins_s a1 pn l r, fun i hi => ?_, fun s hs m => ?_⟩, by omega, fun v => ?_⟩
      · rcases r1 i hi with e | ⟨j, hj, e⟩
        · exact ⟨B, Nat.lt_succ_self _, c, e⟩
        · obtain ⟨s, sb, m, es⟩ := a2 j hj
          exact ⟨s, by omega, m, e.trans es⟩
      · by_cases z : s = B
        · obtain ⟨i, hi, e⟩ := r2
          exact ⟨i, hi, by rw [e, z]⟩
        · obtain ⟨j, hj, es⟩ := a3 s (by omega) m
          obtain ⟨i, hi, e⟩ := r3 j hj
          exact ⟨i, hi, e.trans es⟩
      · rw [ins_c (y := fun z => z / 64) n pn, cc v, sc v]
        have e : (64 * M B + (B : Int)) / 64 = M B := by omega
        show sqC M v B + (if (64 * M B + (B : Int)) / 64 = v then 1 else 0) = _
        rw [e]
        by_cases d : M B = v
        · rw [if_pos d, if_pos ⟨c, d⟩]
        · rw [if_neg d, if_neg (fun z => d z.2)]
    · refine ⟨n, f, ⟨a1, fun i hi => ?_, fun s hs m => ?_⟩, by omega, fun v => ?_⟩
      · obtain ⟨s, sb, m, es⟩ := a2 i hi
        exact ⟨s, by omega, m, es⟩
      · by_cases z : s = B
        · rw [z] at m; exact absurd m c
        · exact a3 s (by omega) m
      · rw [cc v, sc v, if_neg (fun z => c z.1)]
        rfl
theorem enu_ex : ∃ n f, EnU M n f ∧ n ≤ 64 ∧ ∀ v, ctR (fun i => f i / 64) v n = sqC M v 64 := enb_ex 64 (Nat.le_refl _)
theorem enu_c (E : EnU M n f) : ∀ v, ctR (fun i => f i / 64) v n = sqC M v 64 := fun v => by
  obtain ⟨n', f', E', _, c⟩ := enu_ex (M := M)
  obtain ⟨nn, ff⟩ := enu_u E E'
  rw [← c v, ← nn]
  exact ct_e n (fun i hi => by show f i / 64 = f' i / 64; rw [ff i hi])
theorem sqc_e : ∀ (B : Nat), (∀ s, s < B → M s = M' s) → sqC M v B = sqC M' v B := by
  intro B
  induction B with
  | zero => intro _; rfl
  | succ B ih =>
    intro h
    show sqC M v B + (if 0 < M B ∧ M B = v then 1 else 0) = sqC M' v B + (if 0 < M' B ∧ M' B = v then 1 else 0)
    rw [ih (fun s hs => h s (by omega)), h B (Nat.lt_succ_self _)]
/-- one square changed -/
theorem sqc_u {s : Nat} {y : Int} (y0 : 0 ≤ y) : ∀ (B : Nat), sqC (updM M s y) v B + (if s < B ∧ 0 < M s ∧ M s = v then 1 else 0) = sqC M v B + (if s < B ∧ 0 < y ∧ y = v then 1 else 0) := by
  intro B
  induction B with
  | zero => rw [if_neg (fun z => absurd z.1 (Nat.not_lt_zero _)), if_neg (fun z => absurd z.1 (Nat.not_lt_zero _))]; rfl
  | succ B ih =>
    have e1 : sqC (updM M s y) v (B + 1) = sqC (updM M s y) v B + (if 0 < (if B = s then y else M B) ∧ (if B = s then y else M B) = v then 1 else 0) := rfl
    have e2 : sqC M v (B + 1) = sqC M v B + (if 0 < M B ∧ M B = v then 1 else 0) := rfl
    by_cases c : B = s
    · rw [if_pos c] at e1
      rw [e1, e2, c]
      rw [c, if_neg (fun z => absurd z.1 (Nat.lt_irrefl _)), if_neg (fun z => absurd z.1 (Nat.lt_irrefl _))] at ih
      have q1 : (s < s + 1 ∧ 0 < M s ∧ M s = v) ↔ (0 < M s ∧ M s = v) := ⟨fun z => z.2, fun z => ⟨Nat.lt_succ_self _, z⟩⟩
      have q2 : (s < s + 1 ∧ 0 < y ∧ y = v) ↔ (0 < y ∧ y = v) := ⟨fun z => z.2, fun z => ⟨Nat.lt_succ_self _, z⟩⟩
      simp only [q1, q2]
      omega
    · rw [if_neg c] at e1
      rw [e1, e2]
      have q1 : (s < B + 1 ∧ 0 < M s ∧ M s = v) ↔ (s < B ∧ 0 < M s ∧ M s = v) := ⟨fun z => ⟨by omega, z.2⟩, fun z => ⟨by omega, z.2⟩⟩
      have q2 : (s < B + 1 ∧ 0 < y ∧ y = v) ↔ (s < B ∧ 0 < y ∧ y = v) := ⟨fun z => ⟨by omega, z.2⟩, fun z => ⟨by omega, z.2⟩⟩
      simp only [q1, q2]
      omega
end
end
section
/-! ENDINGS, pure: where moves of a laid position lead -/
/-- the SETS: each once; what comes of one is among them -/
def Fam (L : Nat → Nat → Int) (N : Nat) (nk : Nat → Nat) (rk : Nat → Nat → Int) : Prop := (∀ k, k < N → RwO L (rk k) (nk k)) ∧ (∀ j k, j < N → k < N → nk j = nk k → (∀ i, i < nk j → rk j i = rk k i) → j = k) ∧ ∀ k i, k < N → i < nk k → (¬ ((mnO (rk k i) : Nat) : Int) = L 10 0 → ∃ k', k' < N ∧ ∀ v, ctR (rk k') v (nk k') + (if rk k i = v then 1 else 0) = ctR (rk k) v (nk k)) ∧ ∀ u : Nat, (u : Int) < L 81 (mnO (rk k i)) → ∃ k', k' < N ∧ ∀ v, ctR (rk k') v (nk k') + (if rk k i = v then 1 else 0) = ctR (rk k) v (nk k) + (if cdV (L 80 (6 * mnO (rk k i) + u)) ((rk k i - 1) % 2) = v then 1 else 0)
section
variable {L : Nat → Nat → Int} {N : Nat} {nk : Nat → Nat} {rk : Nat → Nat → Int} {q num sd k n s t : Nat} {M M' : Nat → Int} {v : MvT} {row : Nat → Int}
theorem nd_c (q0 : 0 < q) (q64 : q ≤ 64) (R : RwO L row n) (S : StD row q num n) (y : Int) : sqC (lyM row q num n) y 64 = ctR row y n := by
  rw [← enu_c (enu_l q0 q64 R S) y]
  refine ct_e n (fun i hi => ?_)
  show (64 * row i + (sqi q num i : Int)) / 64 = row i
  have := sqi_lt (num := num) (i := i) q0
  omega
/-- a board with a SET's men has a number there -/
theorem fam_b (H : LOk L) (q0 : 0 < q) (eq : (q : Int) = L 0 0 * L 1 0) (R : RwO L row n) (HM : MOk L M) (M0 : ∀ s, 0 ≤ M s) (c : ∀ y, sqC M y 64 = ctR row y n) : ∃ num, num < q ^ n ∧ StD row q num n ∧ ∀ s, s < 64 → lyM row q num n s = M s := by
  obtain ⟨n', f, E, _, cc⟩ := enu_ex (M := M)
  have sr : ∀ i, i + 1 < n' → f i / 64 ≤ f (i + 1) / 64 := fun i hi => by
    have := E.1 i hi
    omega
  obtain ⟨nn, ff⟩ := srt_u (row := fun i => f i / 64) sr R.2.2.1 (fun y => by rw [cc y, c y])
  subst nn
  have sq : ∀ i, i < n' → (f i % 64).toNat < q := fun i hi => by
    obtain ⟨s, s64, m, e⟩ := E.2.1 i hi
    have := ((HM s s64).2 m).1
    omega
  obtain ⟨a, b, d⟩ := nd_ex q0 R E ff sq M0
  exact ⟨_, b, a, d⟩
theorem mvl_b {p0 m s t j : Nat} {sd k : Int} {b : Bool} (hv : v ∈ mvL L M p0 sd m s t j k b) : mvB v = -1 ∨ ∃ u : Nat, (u : Int) < L 81 m ∧ mvB v = L 80 (6 * m + u) := by
  unfold mvL at hv
  split at hv
  · obtain ⟨u, hu, e⟩ := List.mem_map.mp hv
    have := List.mem_range.mp hu
    refine Or.inr ⟨u, by omega, ?_⟩
    rw [← e]
  · rw [List.mem_singleton.mp hv]; exact Or.inl rfl
/-- what a move of a laid position is -/
theorem nd_mv (H : LOk L) (K : LawK L) (w0 : wrN L (ndZ M sd) = 0) (HM : MOk L M) (s2 : sd < 2) (hv : v ∈ moP L (ndZ M sd)) : ∃ s t : Nat, s < 64 ∧ t < 64 ∧ mvS v = (s : Int) ∧ mvD v = (t : Int) ∧ ¬ s = t ∧ 0 < M s ∧ (M s - 1) % 2 = (sd : Int) ∧ mvM v = ((mnO (M s) : Nat) : Int) ∧ (mvB v = -1 ∨ ∃ u : Nat, (u : Int) < L 81 (mnO (M s)) ∧ mvB v = L 80 (6 * mnO (M s) + u)) ∧ (0 < M t → ¬ (M t - 1) % 2 = (sd : Int) ∧ ¬ ((mnO (M t) : Nat) : Int) = L 10 0) := by
  have O := nd_ok H K HM s2 w0
  have G := mo_g H K O hv
  have k0 := nd_k0 H K O hv
  have L2 := H.2.2.1
  rcases mo_i H hv with ⟨s, t, u, s64, t64, m0, es, el, mv⟩ | ⟨s, p, d, _, _, _, _, ev, cs⟩ | ⟨t, m', _, _, ev, _⟩
  · have iv := mvl_j mv
    have a1 : mvS v = (s : Int) := congrArg (fun u : MvT => u.1) iv
    have a2 : mvD v = (t : Int) := congrArg (fun u : MvT => u.2.1) iv
    have a3 : mvM v = ((mnO (M s) : Nat) : Int) := congrArg (fun u : MvT => u.2.2.1) iv
    have ne : ¬ s = t := fun z => by
      have := G.2.2.2.2.2.2.2.2 (fun c => by have c : mvK v = 3 := c; omega)
      exact this (by show mvS v = mvD v; rw [a1, a2, z])
    have m0 : 0 < M s := m0
    have es : (M s - 1) % 2 = (sd : Int) := es
    refine ⟨s, t, s64, t64, a1, a2, ne, m0, es, a3, mvl_b mv, fun mt => ?_⟩
    have gt := (G.2.2.2.1 k0).2 (by show 0 < M (mvD v).toNat; rw [a2]; exact mt)
    have gt : ¬ (M (mvD v).toNat - 1) % 2 = (sd : Int) := gt
    rw [a2] at gt
    have gt : ¬ (M t - 1) % 2 = (sd : Int) := gt
    refine ⟨gt, fun z => ?_⟩
    obtain ⟨⟨i, hi, ej, ld, g⟩, _⟩ := ldf_i el
    have g0 : fbt (L 75 u.1) 0 = false := by
      rcases g with g | ⟨_, _, g3⟩ | ⟨g1, _⟩
      · exact absurd g.2.2 (fun ⟨i, i1, i2, _⟩ => absurd i2 (Nat.not_lt_zero _))
      · exact g3
      · exact absurd mt g1
    refine (wr_63 w0).2 ⟨t, t64, by omega, ?_, ?_⟩
    · show M t = 1 + 2 * L 10 0 + ((1 - sd : Nat) : Int)
      have : mnO (M t) = ((M t - 1) / 2).toNat := rfl
      omega
    · have c1 : (1 : Int) - ((1 - pzS (ndZ M sd) : Nat) : Int) = (sd : Int) := by
        show (1 : Int) - ((1 - sd : Nat) : Int) = (sd : Int)
        omega
      rw [c1]
      exact ⟨s, i, u.2, ((HM s s64).2 m0).1, m0, es, hi, by rw [← ej]; exact g0, by rw [← ej]; exact ld⟩
  · have : mvK v = 2 := by rw [ev]; rfl
    omega
  · have : mvK v = 3 := by rw [ev]
    omega
theorem cdv_m {y : Int} (y0 : 0 < y) (e : (y - 1) % 2 = (sd : Int)) : cdV ((mnO y : Nat) : Int) sd = y := by
  unfold cdV
  have : mnO y = ((y - 1) / 2).toNat := rfl
  omega
/-- where it leads, there is a number -/
theorem nd_nx (H : LOk L) (K : LawK L) (nb : L 18 0 = 0) (Fm : Fam L N nk rk) (q0 : 0 < q) (q64 : q ≤ 64) (eq : (q : Int) = L 0 0 * L 1 0) (kN : k < N) (s2 : sd < 2) (St : StD (rk k) q num (nk k)) (w0 : wrN L (ndZ (lyM (rk k) q num (nk k)) sd) = 0) (hv : v ∈ moP L (ndZ (lyM (rk k) q num (nk k)) sd)) : ∃ k' num', k' < N ∧ num' < q ^ nk k' ∧ StD (rk k') q num' (nk k') ∧ ∀ x, x < 64 → lyM (rk k') q num' (nk k') x = (zAll L (ndZ (lyM (rk k) q num (nk k)) sd) v).1 x := by
  have R := Fm.1 k kN
  obtain ⟨M, hM⟩ : ∃ M, M = lyM (rk k) q num (nk k) := ⟨_, rfl⟩
  have HM : MOk L M := by rw [hM]; exact nd_mok q0 eq R
  have cM : ∀ y, sqC M y 64 = ctR (rk k) y (nk k) := fun y => by rw [hM]; exact nd_c q0 q64 R St y
  have mem : ∀ x, 0 < M x → ∃ i, i < nk k ∧ rk k i = M x := fun x mx => by
    rw [hM] at mx ⊢
    obtain ⟨i, hi, _, b⟩ := ly_mem (row := rk k) (q := q) (num := num) (s := x) (nk k) (fun z => by omega)
    exact ⟨i, hi, b.symm⟩
  have M0 : ∀ x, 0 ≤ M x := fun x => by
    by_cases z : M x = 0
    · omega
    · rw [hM] at z ⊢
      obtain ⟨i, hi, _, b⟩ := ly_mem (nk k) z
      have := (R.2.1 i hi).1
      omega
  rw [← hM] at w0 hv ⊢
  have O := nd_ok H K HM s2 w0
  have G := mo_g H K O hv
  have mk := nd_mk H K nb O hv
  have Oz := pz_ok H K O G
  obtain ⟨s, t, s64, t64, a1, a2, ne, ms, es, a3, bb, tk⟩ := nd_mv H K w0 HM s2 hv
  have nw : nwV sd v = M s ∨ (∃ u : Nat, (u : Int) < L 81 (mnO (M s)) ∧ nwV sd v = cdV (L 80 (6 * mnO (M s) + u)) sd) := by
    have e : nwV sd v = cdV (if mvB v = -1 then mvM v else mvB v) sd := rfl
    rw [e]
    by_cases c : mvB v = -1
    · rw [if_pos c, a3]
      exact Or.inl (cdv_m ms es)
    · rw [if_neg c]
      rcases bb with z | ⟨u, hu, z⟩
      · exact absurd z c
      · exact Or.inr ⟨u, hu, by rw [z]⟩
  obtain ⟨w, hw⟩ : ∃ w, w = nwV sd v := ⟨_, rfl⟩
  rw [← hw] at nw mk
  have eM : ∀ x, x < 64 → (zAll L (ndZ M sd) v).1 x = updM (updM M s 0) t w x := fun x hx => by
    rw [mk x hx, a1, a2]
    rfl
  have w1 : 0 < w := by
    have z := (Oz.1 t t64)
    have y := eM t t64
    have y2 : updM (updM M s 0) t w t = w := if_pos rfl
    rcases nw with c | ⟨u, hu, c⟩
    · omega
    · have lk := ((K.1 (mnO (M s)) (by
        have := ((HM s s64).2 ms).2
        have L2 := H.2.2.1
        have : mnO (M s) = ((M s - 1) / 2).toNat := rfl
        omega)).2 u hu).1
      rw [c]; unfold cdV; omega
  have M'0 : ∀ x, 0 ≤ updM (updM M s 0) t w x := fun x => by
    show 0 ≤ (if x = t then w else if x = s then 0 else M x)
    split
    · omega
    · split
      · omega
      · exact M0 x
  have HM' : MOk L (updM (updM M s 0) t w) := fun x hx => by
    rw [← eM x hx]
    exact Oz.1 x hx
  have cnt : ∀ y, sqC (updM (updM M s 0) t w) y 64 + (if 0 < M t ∧ M t = y then 1 else 0) + (if M s = y then 1 else 0) = ctR (rk k) y (nk k) + (if w = y then 1 else 0) := fun y => by
    have c1 := sqc_u (M := updM M s 0) (s := t) (y := w) (v := y) (by omega) 64
    have c2 := sqc_u (M := M) (s := s) (y := 0) (v := y) (Int.le_refl _) 64
    have e1 : updM M s 0 t = M t := if_neg (fun z => ne z.symm)
    rw [e1] at c1
    have p1 : (t < 64 ∧ 0 < M t ∧ M t = y) ↔ (0 < M t ∧ M t = y) := ⟨fun z => z.2, fun z => ⟨t64, z⟩⟩
    have p2 : (t < 64 ∧ 0 < w ∧ w = y) ↔ w = y := ⟨fun z => z.2.2, fun z => ⟨t64, w1, z⟩⟩
    have p3 : (s < 64 ∧ 0 < M s ∧ M s = y) ↔ M s = y := ⟨fun z => z.2.2, fun z => ⟨s64, ms, z⟩⟩
    have p4 : (s < 64 ∧ (0 : Int) < 0 ∧ 0 = y) ↔ False := ⟨fun z => absurd z.2.1 (by decide), fun z => z.elim⟩
    simp only [p1, p2] at c1
    simp only [p3, p4, if_false] at c2
    rw [cM y] at c2
    omega
  have done : ∀ k', k' < N → (∀ y, sqC (updM (updM M s 0) t w) y 64 = ctR (rk k') y (nk k')) → ∃ k' num', k' < N ∧ num' < q ^ nk k' ∧ StD (rk k') q num' (nk k') ∧ ∀ x, x < 64 → lyM (rk k') q num' (nk k') x = (zAll L (ndZ M sd) v).1 x := fun k' kN' c => by
    obtain ⟨num', b1, b2, b3⟩ := fam_b H q0 eq (Fm.1 k' kN') HM' M'0 c
    exact ⟨k', num', kN', b1, b2, fun x hx => by rw [b3 x hx, eM x hx]⟩
  -- whoever is taken
  have st1 : ∃ k1, k1 < N ∧ ∀ y, ctR (rk k1) y (nk k1) + (if 0 < M t ∧ M t = y then 1 else 0) = ctR (rk k) y (nk k) := by
    by_cases mt : 0 < M t
    · obtain ⟨i, hi, ei⟩ := mem t mt
      obtain ⟨k1, kN1, c1⟩ := (Fm.2.2 k i kN hi).1 (by rw [ei]; exact (tk mt).2)
      refine ⟨k1, kN1, fun y => ?_⟩
      have := c1 y
      rw [ei] at this
      have p : (0 < M t ∧ M t = y) ↔ M t = y := ⟨fun z => z.2, fun z => ⟨mt, z⟩⟩
      simp only [p]
      exact this
    · refine ⟨k, kN, fun y => ?_⟩
      rw [if_neg (fun z => mt z.1)]
      rfl
  obtain ⟨k1, kN1, c1⟩ := st1
  rcases nw with c | ⟨u, hu, c⟩
  · refine done k1 kN1 (fun y => ?_)
    have a := cnt y
    have b := c1 y
    have e : (if w = y then 1 else 0 : Nat) = (if M s = y then 1 else 0) := by rw [c]
    omega
  · have i1 : ∃ i, i < nk k1 ∧ rk k1 i = M s := by
      apply ct_x
      obtain ⟨i, hi, ei⟩ := mem s ms
      have p := ct_p (row := rk k) hi
      rw [ei] at p
      have := c1 (M s)
      have nt : ¬ (0 < M t ∧ M t = M s) := fun z => (tk z.1).1 (by rw [z.2]; exact es)
      rw [if_neg nt] at this
      omega
    obtain ⟨i, hi, ei⟩ := i1
    obtain ⟨k2, kN2, c2⟩ := (Fm.2.2 k1 i kN1 hi).2 u (by rw [ei]; exact hu)
    refine done k2 kN2 (fun y => ?_)
    have a := cnt y
    have b := c1 y
    have d := c2 y
    rw [ei, es, ← c] at d
    omega
end
end
section
/-! bits of long rows -/
theorem bit6k (k : Nat) (hk : k < 2 ^ 31) : ((nI k).toInt64 &&& (63 : Int64)).toBitVec.toNat = k % 64 := by
  have m : (nI k).toBitVec.msb = false := by
    rw [BitVec.msb_eq_false_iff_two_mul_lt]
    show 2 * (k % 2 ^ 32) < 2 ^ 32
    omega
  have a : (nI k).toInt64.toBitVec.toNat = k := by
    rw [Int32.toBitVec_toInt64, BitVec.signExtend_eq_setWidth_of_msb_false m, BitVec.toNat_setWidth]
    show k % 2 ^ 32 % 2 ^ 64 = k
    omega
  rw [Int64.toBitVec_and, BitVec.toNat_and, a]
  show k &&& (2 ^ 6 - 1) = k % 2 ^ 6
  exact Nat.and_two_pow_sub_one_eq_mod k 6
theorem bit6 {x : Int32} (i : Rg 0 599999 x) : ∃ y : Int32, Rg 0 63 y ∧ y.toNatClampNeg = x.toNatClampNeg % 64 ∧ x.toInt64 &&& 63 = y.toInt64 &&& 63 := by
  obtain ⟨j, ej, tj, hj⟩ := rg_nI i (Int.le_refl 0)
  have e1 := z_toInt (show j % 64 < 2 ^ 31 by omega)
  refine ⟨nI (j % 64), ⟨by rw [e1]; omega, by rw [e1]; omega⟩, ?_, ?_⟩
  · rw [ej, z_clamp hj, z_clamp (show j % 64 < 2 ^ 31 by omega)]
  · have a := bit6k j hj
    have b := bit6k (j % 64) (by omega)
    rw [ej]
    apply Int64.toBitVec_inj.mp
    apply BitVec.eq_of_toNat_eq
    rw [a, b]
    omega
theorem bj_one6 {x : Int32} (i : Rg 0 599999 x) (s : Nat) : bitJ ((1 : Int64) <<< (x.toInt64 &&& 63)) s = decide (x.toNatClampNeg % 64 = s) := by
  obtain ⟨y, iy, ey, e⟩ := bit6 i
  rw [e, bj_one iy, ey]
theorem bit_s6 {A : Int64} {x : Int32} (i : Rg 0 599999 x) : lg_cmp ((A >>> (x.toInt64 &&& 63)) &&& (1 : Int64)) (0 : Int64) = 0 ↔ ¬ bitJ A (x.toNatClampNeg % 64) = true := by
  obtain ⟨y, iy, ey, e⟩ := bit6 i
  rw [e, ← ey]
  obtain ⟨j, ej, tj, hj⟩ := rg_nI iy (Int.le_refl 0)
  have j64 : j < 64 := by have := iy.2; omega
  have all : ∀ j : Fin 64, ((nI j.val).toInt64 &&& 63).toBitVec = BitVec.ofNat 64 j.val := by decide +kernel
  have cz : ∀ y : Int64, lg_cmp y (0 : Int64) = 0 ↔ y = 0 := fun y => ⟨cmp_eq, fun z => by rw [z]; decide⟩
  have cn : y.toNatClampNeg = j := by rw [ej, z_clamp hj]
  have b0 : bitJ ((A >>> (y.toInt64 &&& 63)) &&& (1 : Int64)) 0 = bitJ A j := by
    unfold bitJ
    rw [Int64.toBitVec_and, BitVec.getLsbD_and, Int64.toBitVec_shiftRight, ej, all ⟨j, j64⟩]
    have : ((BitVec.ofNat 64 j).smod 64) = BitVec.ofNat 64 j := by
      have al : ∀ j : Fin 64, ((BitVec.ofNat 64 j.val).smod 64) = BitVec.ofNat 64 j.val := by decide +kernel
      exact al ⟨j, j64⟩
    rw [this]
    have h1 : (1 : Int64).toBitVec.getLsbD 0 = true := by decide
    rw [h1, Bool.and_true, BitVec.sshiftRight_eq', BitVec.getLsbD_sshiftRight]
    have : (BitVec.ofNat 64 j).toNat = j := by
      rw [BitVec.toNat_ofNat]; omega
    rw [this]
    simp [j64]
  have bh : ∀ s, 0 < s → s < 64 → bitJ ((A >>> (y.toInt64 &&& 63)) &&& (1 : Int64)) s = false := fun s s0 s64 => by
    rw [bj_and]
    have al : ∀ s : Fin 64, 0 < s.val → bitJ (1 : Int64) s.val = false := by decide +kernel
    rw [al ⟨s, s64⟩ s0, Bool.and_false]
  rw [cz, j_zero, cn]
  constructor
  · intro z b
    have := z 0 (by decide)
    rw [b0, b] at this
    exact nomatch this
  · intro z s hs
    by_cases c : s = 0
    · rw [c, b0]
      cases d : bitJ A j with
      | false => rfl
      | true => exact absurd d z
    · exact bh s (by omega) hs
theorem ti_shr6 {x : Int32} : (x >>> ((6 : Int32) &&& 31)).toInt = x.toInt / 64 := by
  have := Jvm.RoadKit.c_ishr x 6 6 rfl
  simpa using this
end
section
/-! ENDINGS, the reference: how a state begins: its moves by masks -/
section
variable {n F : Nat} {g h h0 o : Hp} {L : Nat → Nat → Int} {x1 x2 x6 : Int32} {row : Nat → Int} {sd q num m k km s t jj : Nat} {ms : List MvT}
abbrev mskI (n : Nat) (h : Hp) (k num sd j : Nat) : Int := mkx h (n + 592) (n + 596) (n + 593) k (num : Int) (sd : Int) j
theorem mki_f {W : Nat → Nat → Prop} {j : Nat} (kk : DyK n g h) (Fr : FrW W h o) (w : ∀ i, ¬ W (n + 592) i ∧ ¬ W (n + 593) i ∧ ¬ W (n + 596) i) : mskI n o k num sd j = mskI n h k num sd j := by
  have s6 := dk_610 kk
  have a : ∀ i, hI o (n + 592) i = hI h (n + 592) i := fun i => (Fr.2 _ _ (by omega) (w i).1).1
  have b : ∀ i, hI o (n + 593) i = hI h (n + 593) i := fun i => (Fr.2 _ _ (by omega) (w i).2.1).1
  have c : ∀ i, hI o (n + 596) i = hI h (n + 596) i := fun i => (Fr.2 _ _ (by omega) (w i).2.2).1
  unfold mskI mkx
  rw [a, c]
  have : (fun i => ((hI o (n + 593) (5 * k + i) - (1 : Int32)) &&& (1 : Int32)).toInt) = (fun i => ((hI h (n + 593) (5 * k + i) - (1 : Int32)) &&& (1 : Int32)).toInt) := funext fun i => by rw [b]
  rw [this]
/-- what maskOf needs -/
def MkB (n : Nat) (h : Hp) (k num : Nat) : Prop := 0 ≤ (hI h (n + 596) k).toInt ∧ (hI h (n + 596) k).toInt + (hI h (n + 592) k).toInt * (num : Int) + 5 ≤ 2000000000
theorem mko_x {j : Nat} {x3 : Int32} {o : Int32 × Hp} (kk : DyK n g h) (B : MkB n h k num) (S : RSt n h k m row) (m5 : m ≤ 5) (k12 : k < 4096) (sd2 : sd < 2) (e1 : x1.toInt = (k : Int)) (e2 : x2.toInt = ((2 * num + sd : Nat) : Int)) (e3 : x3.toInt = (j : Int)) (e : sX15_maskOf F h (n + 513) x1 x2 x3 = some o) : o.2 = h ∧ o.1.toInt = mskI n h k num sd j := by
  have n1 : x1.toNatClampNeg = k := by have := nc_i (x := x1) (by omega); omega
  have n3 : x3.toNatClampNeg = j := by have := nc_i (x := x3) (by omega); omega
  have dv : x2.toInt / 2 = (num : Int) := by omega
  have md : (x2 &&& (1 : Int32)).toInt = (sd : Int) := by rw [and1_i (by omega)]; omega
  have r := mask_x (x0 := n + 513) (rm := n + 592) (rb := n + 596) (re := n + 593) (h := h) (x1 := x1) (x2 := x2) (x3 := x3) (F := F) ⟨by omega, by omega⟩ (by rw [n1]; exact ⟨by rw [S.1]; omega, by rw [S.1]; omega⟩) (dk_e (a := 513) (f := 46) (b := 592) kk (by decide +kernel)) (dk_e (a := 513) (f := 53) (b := 596) kk (by decide +kernel)) (dk_e (a := 513) (f := 47) (b := 593) kk (by decide +kernel)) (by omega) (by omega) (by rw [n1]; exact B.1) (by rw [n1, dv]; exact B.2) e
  rw [n1, n3, dv, md] at r
  exact r
theorem bgn_207 {K : Hp → Nat → Int32 → Int32 → Int32 → Option Hp} {iv : Nat} (kk : DyK n g h) (q0 : 0 < q) (q64 : q ≤ 64) (n6 : num ≤ 600000) (eq13 : (hI h (n + 513) 13).toInt = (q : Int)) (ekm : hR h (n + 513) 52 = some km) (B : MkB n h k num) (S : RSt n h k m row) (m5 : m ≤ 5) (k12 : k < 4096) (sd2 : sd < 2) (e1 : x1.toInt = (k : Int)) (e2 : x2.toInt = ((2 * num + sd : Nat) : Int)) (e6 : x6.toInt = (iv : Int)) (fs : (hI h (n + 553) iv).toInt = (s : Int)) (ft : (hI h (n + 554) iv).toInt = (t : Int)) (t64 : t < 64) (jm : jj < m) (js : sqi q num jj = s) (ju : ∀ j, j < m → sqi q num j = s → j = jj) : ∀ (f : Nat) {x7 x8 : Int32} {j : Nat}, x7.toInt = (j : Int) → x8.toInt = ((num / q ^ j : Nat) : Int) → j ≤ jj → sX15_begin_207 F K f h (n + 513) x1 x2 x6 x7 x8 = some o → ∃ (ix : Nat) (w : Int64), (ix : Int) = mskI n h k num sd jj ∧ (∀ b, b < 64 → (bitJ w b = true ↔ (bitJ (hJ h km ix) b = true ∨ b = t))) ∧ K (wJ h km ix w) (n + 513) x1 x2 (x6 + (1 : Int32)) = some o := by
  have z1 : (1 : Int32).toInt = 1 := rfl
  have n6' : x6.toNatClampNeg = iv := by have := nc_i (x := x6) (by omega); omega
  intro f
  induction f with
  | zero => intro x7 x8 j _ _ _ e; exact absurd e (by rw [sX15_begin_207]; exact fun z => nomatch z)
  | succ f ih =>
    intro x7 x8 j e7 e8 jl e
    rw [sX15_begin_207] at e
    have pj : 0 < q ^ j := Nat.pow_pos q0
    have dn : num / q ^ j ≤ num := Nat.div_le_self _ _
    have r8 : Rg 0 600000 x8 := by
      obtain ⟨d, hd⟩ : ∃ d, d = num / q ^ j := ⟨_, rfl⟩
      rw [← hd] at e8 dn
      exact ⟨by omega, by omega⟩
    have r13 : Rg 1 64 (hI h (n + 513) 13) := ⟨by omega, by omega⟩
    have y8 : (x8 - x8 / hI h (n + 513) 13 * hI h (n + 513) 13).toInt = (sqi q num j : Int) := by
      rw [tr r8 r13 ⟨by decide, by decide⟩, e8, eq13]
      unfold sqi
      omega
    replace e := gg_e e
    replace e := ce_e (dk_e (a := 513) (f := 30) (b := 552) kk (by decide +kernel)) e
    replace e := ce_e (le_T kk 1 (by decide)) e
    replace e := gg_e e
    rcases br_s e with ⟨c, e⟩ | ⟨c, e⟩ <;> rw [n6'] at c
    · have cc : (sqi q num j : Int) = (s : Int) := by
        rw [← y8, ← fs]
        exact congrArg Int32.toInt c
      have jj' : j = jj := ju j (by omega) (by omega)
      replace e := ce_e ekm e
      obtain ⟨o7, e7', e⟩ := cl_s e
      obtain ⟨p7, v7⟩ := mko_x kk B S m5 k12 sd2 e1 e2 e7 e7'
      rw [p7] at e
      replace e := gg_e e
      replace e := ce_e (dk_e (a := 513) (f := 30) (b := 552) kk (by decide +kernel)) e
      replace e := ce_e (le_T kk 2 (by decide)) e
      replace e := gg_e e
      obtain ⟨ib, e⟩ := gd_s e
      obtain ⟨h13, w13, e⟩ := nm_s e
      obtain ⟨v14, w14, e⟩ := nm_s e
      have i0 : 0 ≤ o7.1.toInt := by
        have z0 : (0 : Int32).toInt = 0 := rfl
        have := nlt_i (fun z => ib (Or.inl z))
        omega
      have ni : ((o7.1.toNatClampNeg : Nat) : Int) = o7.1.toInt := by have := nc_i (x := o7.1) i0; omega
      rw [n6'] at w13
      rw [w13, w14] at e
      refine ⟨o7.1.toNatClampNeg, _, by rw [ni, v7, jj'], fun b hb => ?_, e⟩
      have ft : (hI h (n + 554) iv).toInt = (t : Int) := ft
      have rt : Rg 0 63 (hI h (n + (552 + 2)) iv) := ⟨by show 0 ≤ (hI h (n + 554) iv).toInt; omega, by show (hI h (n + 554) iv).toInt ≤ 63; omega⟩
      have nt : (hI h (n + (552 + 2)) iv).toNatClampNeg = t := by
        have := nc_i (x := hI h (n + (552 + 2)) iv) rt.1
        have ft : (hI h (n + (552 + 2)) iv).toInt = (t : Int) := ft
        omega
      rw [bj_or, bj_one rt, nt, Bool.or_eq_true, decide_eq_true_iff]
      constructor
      · intro z
        rcases z with z | z
        · exact Or.inl z
        · exact Or.inr z.symm
      · intro z
        rcases z with z | z
        · exact Or.inl z
        · exact Or.inr z.symm
    · have nj : ¬ j = jj := fun z => c (Int32.toInt_inj.mp (by
        rw [y8, z, js]
        exact fs.symm))
      replace e := gg_e e
      obtain ⟨v16, w16, e⟩ := nm_s e
      obtain ⟨v17, w17, e⟩ := nm_s e
      have y16 : v16.toInt = ((num / q ^ (j + 1) : Nat) : Int) := by
        rw [w16, td r8 r13 ⟨by decide, by decide⟩, e8, eq13, Nat.pow_succ, ← Nat.div_div_eq_div_mul]
        omega
      have y17 : v17.toInt = ((j + 1 : Nat) : Int) := by rw [w17, ta (by rw [z1]; omega), z1]; omega
      exact ih y17 y16 (by omega) e
/-- which bits the first i moves set -/
def MkS (n : Nat) (h0 h : Hp) (km k num sd m q : Nat) (ms : List MvT) (i : Nat) : Prop := ∀ a b : Nat, b < 64 → (bitJ (hJ h km a) b = true ↔ (bitJ (hJ h0 km a) b = true ∨ ∃ (i' : Nat) (v : MvT) (j : Nat), i' < i ∧ ms[i']? = some v ∧ j < m ∧ (sqi q num j : Int) = mvS v ∧ mvD v = (b : Int) ∧ (a : Int) = mskI n h0 k num sd j))
theorem bgn_187 (k0 : DyK n h0 h0) (q0 : 0 < q) (q64 : q ≤ 64) (n6 : num ≤ 600000) (eq13 : (hI h0 (n + 513) 13).toInt = (q : Int)) (ekm : hR h0 (n + 513) 52 = some km) (km6 : n + 610 ≤ km) (B : MkB n h0 k num) (S : RSt n h0 k m row) (m5 : m ≤ 5) (k12 : k < 4096) (sd2 : sd < 2) (e1 : x1.toInt = (k : Int)) (e2 : x2.toInt = ((2 * num + sd : Nat) : Int)) (Ml : RlA h0 (n + 552) ms) (lm : ms.length ≤ 4096) (mj : ∀ (i : Nat) (v : MvT), ms[i]? = some v → (0 ≤ mvD v ∧ mvD v < 64) ∧ ∃ jj, jj < m ∧ (sqi q num jj : Int) = mvS v ∧ ∀ j, j < m → (sqi q num j : Int) = mvS v → j = jj) : ∀ (f : Nat) {h : Hp} {x6 : Int32} {i : Nat}, DyK n g h → DyK n h0 h → FrW (fun a _ => a = km) h0 h → (∀ a i, hR h a i = hR h0 a i) → MkS n h0 h km k num sd m q ms i → x6.toInt = (i : Int) → i ≤ ms.length → sX15_begin_187 F f h (n + 513) x1 x2 x6 = some o → DyK n g o ∧ DyK n h0 o ∧ FrW (fun a _ => a = km) h0 o ∧ MkS n h0 o km k num sd m q ms ms.length := by
  have z1 : (1 : Int32).toInt = 1 := rfl
  have s6 := dk_610 k0
  intro f
  induction f with
  | zero => intro h x6 i _ _ _ _ _ _ _ e; exact absurd e (by rw [sX15_begin_187]; exact fun z => nomatch z)
  | succ f ih =>
    intro h x6 i kg kh Fr hr Mk e6 im e
    rw [sX15_begin_187] at e
    have Mh : RlA h (n + 552) ms := rla_f Ml (fun j i hj => (Fr.2 _ _ (by omega) (fun c => by omega)).1)
    have m0 : (hI h (n + 552) 0).toInt = (ms.length : Int) := Mh.1
    replace e := ce_e (dk_e (a := 513) (f := 30) (b := 552) kh (by decide +kernel)) e
    rcases br_s e with ⟨c, e⟩ | ⟨c, e⟩
    · have c := le_i c
      have : i = ms.length := by omega
      rw [so_e e]
      rw [this] at Mk
      exact ⟨kg, kh, Fr, Mk⟩
    have c := nle_i c
    obtain ⟨v, ev⟩ : ∃ v, ms[i]? = some v := ⟨_, List.getElem?_eq_getElem (by omega)⟩
    obtain ⟨dv, jj, jm, js, ju⟩ := mj i v ev
    have rr := rrow Mh ev
    obtain ⟨v3, w3, e⟩ := nm_s e
    have y3 : v3.toInt = ((num / q ^ 0 : Nat) : Int) := by
      rw [w3, ti_shr1, e2, Nat.pow_zero, Nat.div_one]; omega
    have nw : ∀ i, ¬ (fun (a : Nat) (_ : Nat) => a = km) (n + 592) i ∧ ¬ (fun (a : Nat) (_ : Nat) => a = km) (n + 593) i := fun i => ⟨fun c => by omega, fun c => by omega⟩
    have Sh := rst_f k0 S Fr nw
    have Bh : MkB n h k num := by
      unfold MkB
      rw [(Fr.2 (n + 596) k (by omega) (fun c => by omega)).1, (Fr.2 (n + 592) k (by omega) (fun c => by omega)).1]
      exact B
    have q13 : (hI h (n + 513) 13).toInt = (q : Int) := by rw [(Fr.2 (n + 513) 13 (by omega) (fun c => by omega)).1]; exact eq13
    have mkE : ∀ j, mskI n h k num sd j = mskI n h0 k num sd j := fun j => mki_f k0 Fr (fun i => ⟨fun c => by omega, fun c => by omega, fun c => by omega⟩)
    obtain ⟨ix, w, hix, hw, e⟩ := bgn_207 (s := (mvS v).toNat) (t := (mvD v).toNat) (jj := jj) kh q0 q64 n6 q13 (by rw [hr]; exact ekm) Bh Sh m5 k12 sd2 e1 e2 e6 (by rw [rr.1]; omega) (by rw [rr.2.1]; omega) (by omega) jm (by omega) (fun j hj ej => ju j hj (by omega)) F (j := 0) rfl y3 (Nat.zero_le _) e
    rw [mkE] at hix
    have k1g : DyK n g (wJ h km ix w) := dk_wJ kg
    have k1h : DyK n h0 (wJ h km ix w) := dk_wJ kh
    have y6 : (x6 + (1 : Int32)).toInt = ((i + 1 : Nat) : Int) := by rw [ta (by rw [z1]; omega), z1]; omega
    refine ih k1g k1h (fw_wJ Fr rfl) (fun a i => hr a i) (fun a b hb => ?_) y6 (by omega) e
    have old := Mk a b hb
    by_cases c2 : a = ix
    · have e1' : hJ (wJ h km ix w) km a = w := by rw [r_J, if_pos ⟨rfl, c2⟩]
      rw [e1', hw b hb, ← c2, old]
      constructor
      · intro z
        rcases z with (z | ⟨i', u, j, l, eu, hj, a1, a2, a3⟩) | z
        · exact Or.inl z
        · exact Or.inr ⟨i', u, j, by omega, eu, hj, a1, a2, a3⟩
        · exact Or.inr ⟨i, v, jj, by omega, ev, jm, js, by omega, by rw [c2]; exact hix⟩
      · intro z
        rcases z with z | ⟨i', u, j, l, eu, hj, a1, a2, a3⟩
        · exact Or.inl (Or.inl z)
        · by_cases y : i' = i
          · rw [y, ev] at eu
            have uv := Option.some.inj eu
            rw [← uv] at a2
            exact Or.inr (by omega)
          · exact Or.inl (Or.inr ⟨i', u, j, by omega, eu, hj, a1, a2, a3⟩)
    · have e1' : hJ (wJ h km ix w) km a = hJ h km a := by rw [r_J, if_neg (fun z => c2 z.2)]
      rw [e1', old]
      constructor
      · intro z
        rcases z with z | ⟨i', u, j, l, r⟩
        · exact Or.inl z
        · exact Or.inr ⟨i', u, j, by omega, r⟩
      · intro z
        rcases z with z | ⟨i', u, j, l, eu, hj, a1, a2, a3⟩
        · exact Or.inl z
        · by_cases y : i' = i
          · rw [y, ev] at eu
            have uv := Option.some.inj eu
            rw [← uv] at a1
            have : j = jj := ju j hj a1
            rw [this, ← hix] at a3
            exact absurd (by omega) c2
          · exact Or.inr ⟨i', u, j, by omega, eu, hj, a1, a2, a3⟩
end
end
section
/-! ENDINGS, the reference: how a state begins -/
noncomputable def v0N (L : Nat → Nat → Int) (Z : Pz) : Option Int := if (enE L Z).1 ≤ 0 then none else some (if (enE L Z).2 = 2 then 0 else if (enE L Z).2 = (pzS Z : Int) then 1000000 else -1000000)
noncomputable def v0V (L : Nat → Nat → Int) (Z : Pz) : Int := match v0N L Z with
  | none => 2000000
  | some w => w
theorem v0v_n {L : Nat → Nat → Int} {Z : Pz} (e : v0N L Z = none) : v0V L Z = 2000000 := by
  unfold v0V
  rw [e]
theorem v0v_s {L : Nat → Nat → Int} {Z : Pz} {w : Int} (e : v0N L Z = some w) : v0V L Z = w := by
  unfold v0V
  rw [e]
def WBg (n km at0 a i : Nat) : Prop := RS n a i ∨ WLs n a i ∨ (a = n + 595 ∧ i = at0) ∨ (a = n + 597 ∧ i = at0 / 64) ∨ a = km
/-- masks behind a beginning -/
def MkN (n : Nat) (h o : Hp) (km k num sd m q : Nat) (L : Nat → Nat → Int) (Z : Pz) (p : Prop) : Prop := ∀ a b : Nat, b < 64 → (bitJ (hJ o km a) b = true ↔ (bitJ (hJ h km a) b = true ∨ (p ∧ ∃ (v : MvT) (j : Nat), v ∈ lgL L Z ∧ j < m ∧ (sqi q num j : Int) = mvS v ∧ mvD v = (b : Int) ∧ (a : Int) = mskI n h k num sd j)))
section
variable {n F : Nat} {g h o : Hp} {L : Nat → Nat → Int} {x1 x2 x3 : Int32} {row : Nat → Int} {sd q num m k km at0 : Nat}
theorem mkn_0 {Z : Pz} {p : Prop} (np : ¬ p) (e : ∀ a, hJ o km a = hJ h km a) : MkN n h o km k num sd m q L Z p := fun a b _ => by
  rw [e]
  exact ⟨fun z => Or.inl z, fun z => z.elim id (fun z => absurd z.1 np)⟩
/-- what stays of RULES, SETS while states begin -/
def BgS (n : Nat) (h : Hp) (L : Nat → Nat → Int) (km k m q num : Nat) (row : Nat → Int) : Prop := RLw n h L ∧ RSt n h k m row ∧ MkB n h k num ∧ (hI h (n + 513) 13).toInt = (q : Int) ∧ hR h (n + 513) 52 = some km
theorem bgs_f {W : Nat → Nat → Prop} {o : Hp} (kk : DyK n h h) (k' : DyK n h o) (s0 : 0 < hS h) (Fr : FrW W h o) (w : ∀ a i, W a i → a < hS h → RS n a i ∨ WLs n a i ∨ a = n + 595 ∨ a = n + 597 ∨ n + 610 ≤ a) (S : BgS n h L km k m q num row) : BgS n o L km k m q num row := by
  obtain ⟨a, b, c, d, e⟩ := S
  have s6 := dk_610 kk
  have nw : ∀ j i, j < 610 → ¬ (j = 595) → ¬ (j = 597) → ¬ (602 ≤ j ∧ j ≤ 606) → ¬ RS n (n + j) i → ¬ W (n + j) i := fun j i l c1 c2 c3 c4 z => by
    rcases w _ _ z (by omega) with z | z | z | z | z
    · exact c4 z
    · unfold WLs at z; omega
    · omega
    · omega
    · omega
  have n2 : ∀ i, ¬ W (n + 592) i := fun i => nw 592 i (by omega) (by omega) (by omega) (by omega) (fun z => by unfold RS at z; omega)
  have n3 : ∀ i, ¬ W (n + 593) i := fun i => nw 593 i (by omega) (by omega) (by omega) (by omega) (fun z => by unfold RS at z; omega)
  have n6 : ∀ i, ¬ W (n + 596) i := fun i => nw 596 i (by omega) (by omega) (by omega) (by omega) (fun z => by unfold RS at z; omega)
  refine ⟨rlw_k kk k' Fr (fun j i hj => nw j i (by omega) (by omega) (by omega) (by omega) (fun z => by unfold RS at z; omega)) a, rst_f kk b Fr (fun i => ⟨n2 i, n3 i⟩), ?_, ?_, ?_⟩
  · unfold MkB
    rw [(Fr.2 (n + 596) k (by omega) (n6 k)).1, (Fr.2 (n + 592) k (by omega) (n2 k)).1]
    exact c
  · rw [(Fr.2 (n + 513) 13 (by omega) (nw 513 13 (by omega) (by omega) (by omega) (by omega) (fun z => by unfold RS at z; omega))).1]
    exact d
  · rw [(k'.2.2.2 s0).2]; exact e
theorem bgn_99 (OK : LwOk L) (kh : DyK n h h) (kg : DyK n g h) (q0 : 0 < q) (q64 : q ≤ 64) (n6 : num ≤ 600000) (km6 : n + 610 ≤ km) (kmS : km < hS h) (m5 : m ≤ 5) (k12 : k < 4096) (sd2 : sd < 2) (S : BgS n h L km k m q num row) (St : StD row q num m) (rp : ∀ i, i < m → 1 ≤ row i) (Oz : PzOk L (ndZ (lyM row q num m) sd)) (A : RbA h (n + 602) (ndZ (lyM row q num m) sd)) (e1 : x1.toInt = (k : Int)) (e2 : x2.toInt = ((2 * num + sd : Nat) : Int)) (e3 : x3.toInt = (at0 : Int)) (e : sX15_begin_99 F h (n + 513) x1 x2 x3 = some o) : DyK n g o ∧ DyK n h o ∧ FrW (fun a i => RS n a i ∨ (a = n + 595 ∧ i = at0) ∨ a = km) h o ∧ (hI o (n + 595) at0).toInt = v0V L (ndZ (lyM row q num m) sd) ∧ MkN n h o km k num sd m q L (ndZ (lyM row q num m) sd) (v0N L (ndZ (lyM row q num m) sd) = none) := by
  have z0 : (0 : Int32).toInt = 0 := rfl
  have z2 : (2 : Int32).toInt = 2 := rfl
  have s6 := dk_610 kh
  have n3 : x3.toNatClampNeg = at0 := by have := nc_i (x := x3) (by omega); omega
  obtain ⟨Z, hZ⟩ : ∃ Z, Z = ndZ (lyM row q num m) sd := ⟨_, rfl⟩
  rw [← hZ] at Oz A ⊢
  have pS : pzS Z = sd := by rw [hZ]; rfl
  unfold sX15_begin_99 at e
  replace e := ce_e (dk_e (a := 513) (f := 60) (b := 602) kh (by decide +kernel)) e
  replace e := ce_e (dk_e (a := 513) (f := 30) (b := 552) kh (by decide +kernel)) e
  obtain ⟨o3, e4, e⟩ := cl_s e
  obtain ⟨own, Dw⟩ := kh.1.1
  obtain ⟨w, hw, _, _, C⟩ := id S.1
  obtain ⟨f3, k3g, M3⟩ := leg_m kg Dw.1 hw (bk602 Dw.1) (bk_ml Dw.1) (by decide) OK.1 OK.2.1 Oz C A (lst_T kh) e4
  have k3 : DyK n h o3 := dk_X15_legal kh e4
  have F3 : FrW (RS n) h o3 := fw_s f3 (fun a i z => by unfold RS at z ⊢; omega)
  have s3 := dk_610 k3
  have S3 := bgs_f kh k3 (by omega) F3 (fun a i c _ => Or.inl c) S
  have A3 : RbA o3 (n + 602) Z := rba_f A (e602 k3) (fun j i hj => F3.2 _ _ (by omega) (fun c => by unfold RS at c; omega))
  replace e := ce_e (dk_e (a := 513) (f := 60) (b := 602) k3 (by decide +kernel)) e
  replace e := ce_e (dk_e (a := 513) (f := 30) (b := 552) k3 (by decide +kernel)) e
  obtain ⟨o6, e6, e⟩ := cl_s e
  obtain ⟨own3, Dw3⟩ := k3.1.1
  obtain ⟨w3, hw3, _, _, C3⟩ := id S3.1
  obtain ⟨f6, k6g, y6, win⟩ := end_m2 k3g Dw3.1 hw3 (bk602 Dw3.1) (by decide) OK.1 OK.2.1 Oz C3 A3 M3.1 e6
  have k6' : DyK n o3 o6.2 := dk_X15_endedBy (dk_self k3) e6
  have k6 : DyK n h o6.2 := dk_t k3 k6'
  have s7 := dk_610 k6
  have F6' : FrW (RS n) o3 o6.2 := fw_s f6 (fun a i c => by unfold RTx at c; unfold RS; omega)
  have F6 : FrW (RS n) h o6.2 := fw_t F3 F6'
  have S6 := bgs_f kh k6 (by omega) F6 (fun a i c _ => Or.inl c) S
  have M6 : RlA o6.2 (n + 552) (lgL L Z) := rla_f M3 (fun j i hj => (f6.2 _ _ (by omega) (fun c => by unfold RTx at c; omega)).1)
  have A6 : RbA o6.2 (n + 602) Z := rba_f A3 (e602 k6) (fun j i hj => F6'.2 _ _ (by omega) (fun c => by unfold RS at c; omega))
  rcases br_s e with ⟨c, e⟩ | ⟨c, e⟩
  · have c := le_i c
    rw [y6, z0] at c
    have vn : v0N L Z = none := if_pos c
    replace e := ce_e (dk_e (a := 513) (f := 51) (b := 595) k6 (by decide +kernel)) e
    replace e := gg_e e
    obtain ⟨h10, w10, e⟩ := nm_s e
    rw [n3] at w10
    have k10 : DyK n h h10 := by rw [w10]; exact dk_wI k6
    have k10g : DyK n g h10 := by rw [w10]; exact dk_wI k6g
    have k10' : DyK n o6.2 h10 := by rw [w10]; exact dk_wI (dk_self k6)
    have F10' : FrW (fun a i => a = n + 595 ∧ i = at0) o6.2 h10 := by rw [w10]; exact fw_wI fw_0 ⟨rfl, rfl⟩
    have s10 := dk_610 k10
    have S10 := bgs_f (dk_self k6) k10' (by omega) F10' (fun a i c _ => Or.inr (Or.inr (Or.inl c.1))) S6
    have M10 : RlA h10 (n + 552) (lgL L Z) := rla_f M6 (fun j i hj => (F10'.2 _ _ (by omega) (fun c => by omega)).1)
    have lm : (lgL L Z).length ≤ 4096 := by
      have := lgl_le OK.1 OK.2.1 Oz
      omega
    have mj : ∀ (i : Nat) (v : MvT), (lgL L Z)[i]? = some v → (0 ≤ mvD v ∧ mvD v < 64) ∧ ∃ jj, jj < m ∧ (sqi q num jj : Int) = mvS v ∧ ∀ j, j < m → (sqi q num j : Int) = mvS v → j = jj := fun i v ev => by
      have mo := lg_mo (List.mem_of_getElem? ev)
      have G := mo_g OK.1 OK.2.1 Oz mo
      have sq := sq_64 OK.1
      obtain ⟨gm, gb, gd, gs⟩ := gd_r G
      refine ⟨⟨gd.1, by omega⟩, ?_⟩
      rw [hZ] at mo
      rcases mo_i OK.1 mo with ⟨s, t, u, s64, t64, m0, es, el, mv⟩ | ⟨s, p, d, _, _, _, _, ev', cs⟩ | ⟨t, m', _, _, ev', _⟩
      · have a1 : mvS v = (s : Int) := congrArg (fun u : MvT => u.1) (mvl_j mv)
        have m0 : 0 < lyM row q num m s := m0
        obtain ⟨jj, jm, js, _⟩ := ly_mem m (fun z => by rw [z] at m0; exact absurd m0 (by decide))
        exact ⟨jj, jm, by rw [a1, js], fun j hj ej => ly_i rp St hj jm (by omega)⟩
      · have r : rtP (ndZ (lyM row q num m) sd) p := cs.2.2.1
        exact nomatch r
      · have k3 : mvK v = 3 := by rw [ev']
        have := (G.2.2.2.2.2.2.1 k3).2.2.2.2.2
        have pH : ∀ d, pzH Z d = 0 := fun d => by rw [hZ]; rfl
        rw [pH] at this
        omega
    obtain ⟨r1, r2, r3, r4⟩ := bgn_187 (g := g) (dk_self k10) q0 q64 n6 S10.2.2.2.1 S10.2.2.2.2 km6 S10.2.2.1 S10.2.1 m5 k12 sd2 e1 e2 M10 lm mj F (i := 0) k10g (dk_self k10) fw_0 (fun _ _ => rfl) (fun a b hb => ⟨fun z => Or.inl z, fun z => z.elim id (fun ⟨i', _, _, l, _⟩ => absurd l (Nat.not_lt_zero _))⟩) rfl (Nat.zero_le _) e
    have FF : FrW (fun a i => RS n a i ∨ (a = n + 595 ∧ i = at0) ∨ a = km) h o := fw_t (fw_s F6 (fun _ _ c => Or.inl c)) (fw_t (fw_s F10' (fun _ _ c => Or.inr (Or.inl c))) (fw_s r3 (fun _ _ c => Or.inr (Or.inr c))))
    refine ⟨r1, dk_t k10 r2, FF, ?_, fun a b hb => ?_⟩
    · rw [(r3.2 (n + 595) at0 (by omega) (fun c => by omega)).1, w10, rI_s, v0v_n vn]
      rfl
    · have base : hJ h10 km a = hJ h km a := by
        rw [w10]
        show hJ o6.2 km a = hJ h km a
        exact (F6.2 km a kmS (fun c => by unfold RS at c; omega)).2
      rw [r4 a b hb, base]
      have mkE : ∀ j, mskI n h10 k num sd j = mskI n h k num sd j := fun j => (mki_f (dk_self k6) F10' (fun i => ⟨fun c => by omega, fun c => by omega, fun c => by omega⟩)).trans (mki_f kh F6 (fun i => ⟨fun c => by unfold RS at c; omega, fun c => by unfold RS at c; omega, fun c => by unfold RS at c; omega⟩))
      constructor
      · intro z
        rcases z with z | ⟨i', v, j, l, ev, hj, a1, a2, a3⟩
        · exact Or.inl z
        · exact Or.inr ⟨vn, v, j, List.mem_of_getElem? ev, hj, a1, a2, by rw [← mkE]; exact a3⟩
      · intro z
        rcases z with z | ⟨_, v, j, hv, hj, a1, a2, a3⟩
        · exact Or.inl z
        · obtain ⟨i', ev⟩ := List.mem_iff_getElem?.mp hv
          exact Or.inr ⟨i', v, j, (List.getElem?_eq_some_iff.mp ev).1, ev, hj, a1, a2, by rw [mkE]; exact a3⟩
  · have c := nle_i c
    rw [y6, z0] at c
    have nn : ¬ (enE L Z).1 ≤ 0 := by omega
    have wn := win (by omega)
    have vs : ∀ x, (if (enE L Z).2 = 2 then 0 else if (enE L Z).2 = (pzS Z : Int) then (1000000 : Int) else -1000000) = x → v0N L Z = some x := fun x hx => by
      unfold v0N
      rw [if_neg nn, hx]
    replace e := ce_e (dk_e (a := 513) (f := 51) (b := 595) k6 (by decide +kernel)) e
    have fin : ∀ {y : Int32}, (if (enE L Z).2 = 2 then 0 else if (enE L Z).2 = (pzS Z : Int) then (1000000 : Int) else -1000000) = y.toInt → sX15_begin_173 F o6.2 y x3 (n + 595) = some o → DyK n g o ∧ DyK n h o ∧ FrW (fun a i => RS n a i ∨ (a = n + 595 ∧ i = at0) ∨ a = km) h o ∧ (hI o (n + 595) at0).toInt = v0V L Z ∧ MkN n h o km k num sd m q L Z (v0N L Z = none) := fun {y} hy e => by
      unfold sX15_begin_173 at e
      replace e := gg_e e
      have eo := so_e (nx_e e)
      rw [n3] at eo
      have v := vs _ hy
      rw [eo]
      refine ⟨dk_wI k6g, dk_wI k6, fw_wI (fw_s F6 (fun _ _ c => Or.inl c)) (Or.inr (Or.inl ⟨rfl, rfl⟩)), ?_, mkn_0 (fun z => by rw [v] at z; exact nomatch z) (fun a => ?_)⟩
      · rw [rI_s, v0v_s v]
      · show hJ o6.2 km a = hJ h km a
        exact (F6.2 km a kmS (fun c => by unfold RS at c; omega)).2
    have wv : (hI o6.2 (n + 513) 29).toInt = (enE L Z).2 := wn
    rcases br_s e with ⟨c1, e⟩ | ⟨c1, e⟩
    · have : (enE L Z).2 = 2 := by rw [← wv, c1]; rfl
      exact fin (by rw [if_pos this]; rfl) e
    have n2' : ¬ (enE L Z).2 = 2 := fun z => c1 (Int32.toInt_inj.mp (by rw [wv, z2]; exact z))
    replace e := ce_e (dk_e (a := 513) (f := 60) (b := 602) k6 (by decide +kernel)) e
    have sv : (hI o6.2 (n + 602) 1).toInt = (pzS Z : Int) := A6.2.2.1
    rcases br_s e with ⟨c2, e⟩ | ⟨c2, e⟩
    · have : (enE L Z).2 = (pzS Z : Int) := by rw [← wv, c2]; exact sv
      exact fin (by rw [if_neg n2', if_pos this]; rfl) e
    · have : ¬ (enE L Z).2 = (pzS Z : Int) := fun z => c2 (Int32.toInt_inj.mp (by rw [wv, z]; exact sv.symm))
      exact fin (by rw [if_neg n2', if_neg this]; rfl) e
end
end
