section
/-! ENDINGS, the class: what a square counts; SETS found by key and by place -/
section
variable {n F m q N : Nat} {g h h0 : Hp} {o : Int32 × Hp} {f : Nat → Int} {x1 x2 x3 : Int32} {y : Int} {nk : Nat → Nat} {rk : Nat → Nat → Int} {sb : Nat → Nat}
theorem wei_4 (k0 : DyK n g h) (Pw : PwE n h q) (R : RwE n h m f) (m4 : m ≤ 5) (S : ∀ i, i + 1 < m → f i < f (i + 1)) (e1 : x1.toInt = y - 1) : ∀ (fu : Nat) {x2 x3 : Int32} {i j : Nat}, x3.toInt = (i : Int) → i ≤ m → x2.toInt = (j : Int) → j ≤ i → (∀ a, a < j → f a / 64 < y) → (∀ a, j ≤ a → a < i → y < f a / 64) → sX0_weightOf_4 F fu h (n + 62) x1 x2 x3 = some o → o.2 = h ∧ ((o.1 = 0 ∧ ∃ i, i < m ∧ f i / 64 = y) ∨ ∃ p, p ≤ m ∧ o.1.toInt = ((q ^ p : Nat) : Int) ∧ (∀ a, a < p → f a / 64 < y) ∧ ∀ a, p ≤ a → a < m → y < f a / 64) := by
  have z1 : (1 : Int32).toInt = 1 := rfl
  have z0 : (0 : Int32).toInt = 0 := rfl
  intro fu
  induction fu with
  | zero => intro x2 x3 i j _ _ _ _ _ _ e; exact absurd e (by rw [sX0_weightOf_4]; exact fun z => nomatch z)
  | succ fu ih =>
    intro x2 x3 i j e3 im e2 ji lo hi e
    rw [sX0_weightOf_4] at e
    have n3 : x3.toNatClampNeg = i := by have := nc_i (x := x3) (by omega); omega
    have n2 : x2.toNatClampNeg = j := by have := nc_i (x := x2) (by omega); omega
    rcases br_s e with ⟨c, e⟩ | ⟨c, e⟩
    · have c := le_i c
      rw [R.1] at c
      replace e := ce_e (dk_e (a := 62) (f := 6) (b := 71) k0 (by decide +kernel)) e
      replace e := gg_e e
      rw [so_e e, n2]
      exact ⟨rfl, Or.inr ⟨j, by omega, Pw j (by omega), lo, fun a h1 h2 => hi a h1 (by omega)⟩⟩
    · have c := nle_i c
      rw [R.1] at c
      have r7 := dk_e (a := 62) (f := 7) (b := 72) k0 (by decide +kernel)
      have sh : ((hI h (n + 72) i) >>> ((6 : Int32) &&& 31)).toInt = f i / 64 - 1 := by
        rw [shr_i 6 rfl, R.2 i (by omega)]
        show (f i - 64) / 64 = f i / 64 - 1
        omega
      replace e := ce_e r7 e
      replace e := gg_e e
      rcases br_s e with ⟨c2, e⟩ | ⟨c2, e⟩ <;> rw [n3] at c2
      · rw [so_e e]
        refine ⟨rfl, Or.inl ⟨rfl, i, by omega, ?_⟩⟩
        rw [← c2, sh] at e1
        omega
      · have ne : ¬ f i / 64 = y := fun z => c2 (Int32.toInt_inj.mp (by rw [sh, e1, z]))
        replace e := ce_e r7 e
        replace e := gg_e e
        have nxt : ∀ {t0 : Int32} {j' : Nat}, x2.toInt + t0.toInt = (j' : Int) → 0 ≤ t0.toInt ∧ t0.toInt ≤ 1 → j' ≤ i + 1 → (∀ a, a < j' → f a / 64 < y) → (∀ a, j' ≤ a → a < i + 1 → y < f a / 64) → sX0_weightOf_46 F (sX0_weightOf_4 F fu) h (n + 62) x1 x3 t0 x2 = some o → o.2 = h ∧ ((o.1 = 0 ∧ ∃ i, i < m ∧ f i / 64 = y) ∨ ∃ p, p ≤ m ∧ o.1.toInt = ((q ^ p : Nat) : Int) ∧ (∀ a, a < p → f a / 64 < y) ∧ ∀ a, p ≤ a → a < m → y < f a / 64) := fun {t0 j'} ej t1 ji' lo' hi' e => by
          unfold sX0_weightOf_46 at e
          obtain ⟨v1, w1, e⟩ := nm_s e
          obtain ⟨v2, w2, e⟩ := nm_s e
          exact ih (i := i + 1) (j := j') (by rw [w2, ta (by rw [z1]; omega), z1]; omega) (by omega) (by rw [w1, ta (by omega)]; exact ej) ji' lo' hi' e
        rcases br_s e with ⟨c3, e⟩ | ⟨c3, e⟩ <;> rw [n3] at c3
        · have c3 := le_i c3
          rw [sh, e1] at c3
          refine nxt (j' := j) (by rw [z0]; omega) (by rw [z0]; omega) (by omega) lo (fun a h1 h2 => ?_) e
          by_cases z : a = i
          · rw [z]; omega
          · exact hi a h1 (by omega)
        · have c3 := nle_i c3
          rw [sh, e1] at c3
          have ij : j = i := by
            apply Classical.byContradiction
            intro z
            have a := hi j (Nat.le_refl _) (by omega)
            have mono : ∀ b a : Nat, a ≤ b → b < m → f a ≤ f b := by
              intro b
              induction b with
              | zero => intro a ha _; have : a = 0 := by omega
                        rw [this]; exact Int.le_refl _
              | succ b ihb =>
                intro a ha hb
                by_cases w : a = b + 1
                · rw [w]; exact Int.le_refl _
                · have := ihb a (by omega) (by omega)
                  have := S b hb
                  omega
            have := mono i j (by omega) (by omega)
            omega
          refine nxt (j' := j + 1) (by rw [z1]; omega) (by rw [z1]; omega) (by omega) (fun a ha => ?_) (fun a h1 h2 => by omega) e
          by_cases z : a = i
          · rw [z]; omega
          · exact lo a (by omega)
theorem wei_k (k0 : DyK n g h) (Pw : PwE n h q) (R : RwE n h m f) (m4 : m ≤ 5) (S : ∀ i, i + 1 < m → f i < f (i + 1)) (e1 : x1.toInt = y - 1) (e : sX0_weightOf F h (n + 62) x1 = some o) : o.2 = h ∧ ((o.1 = 0 ∧ ∃ i, i < m ∧ f i / 64 = y) ∨ ∃ p, p ≤ m ∧ o.1.toInt = ((q ^ p : Nat) : Int) ∧ (∀ a, a < p → f a / 64 < y) ∧ ∀ a, p ≤ a → a < m → y < f a / 64) := by
  unfold sX0_weightOf at e
  exact wei_4 k0 Pw R m4 S e1 F (i := 0) (j := 0) rfl (Nat.zero_le _) rfl (Nat.le_refl _) (fun a h => by omega) (fun a _ h => by omega) e
/-- keys rise -/
def SoK (n : Nat) (h : Hp) (N : Nat) : Prop := ∀ j k, j < k → k < N → (hI h (n + 69) j).toInt < (hI h (n + 69) k).toInt
theorem fis_9 (k0 : DyK n g h) (So : SoK n h N) (N10 : N ≤ 1024) : ∀ (fu : Nat) {x2 x3 : Int32} {a : Nat} {b : Int}, x2.toInt = (a : Int) → x3.toInt = b → -1 ≤ b → b < (N : Int) → a ≤ N → (∀ k, k < a → (hI h (n + 69) k).toInt < x1.toInt) → (∀ k : Nat, b < (k : Int) → k < N → x1.toInt < (hI h (n + 69) k).toInt) → sX0_findSet_9 F fu h (n + 62) x1 x2 x3 = some o → o.2 = h ∧ ((o.1 = (-1 : Int32) ∧ ∀ k, k < N → ¬ hI h (n + 69) k = x1) ∨ ∃ k, k < N ∧ o.1.toInt = (k : Int) ∧ hI h (n + 69) k = x1) := by
  have z1 : (1 : Int32).toInt = 1 := rfl
  intro fu
  induction fu with
  | zero => intro x2 x3 a b _ _ _ _ _ _ _ e; exact absurd e (by rw [sX0_findSet_9]; exact fun z => nomatch z)
  | succ fu ih =>
    intro x2 x3 a b e2 e3 b1 bN aN lo hi e
    rw [sX0_findSet_9] at e
    rcases br_s e with ⟨c, e⟩ | ⟨c, e⟩
    · have c := lt_i c
      rw [so_e e]
      refine ⟨rfl, Or.inl ⟨rfl, fun k hk z => ?_⟩⟩
      by_cases q : k < a
      · have := lo k q
        rw [z] at this; omega
      · have := hi k (by omega) hk
        rw [z] at this; omega
    · have c := nlt_i c
      obtain ⟨v2, w2, e⟩ := nm_s e
      have y2 : v2.toInt = (((a : Int) + b) / 2 : Int) := by
        rw [w2, ti_shr1, ta (by omega), e2, e3]
      obtain ⟨k, hk⟩ : ∃ k : Nat, (k : Int) = ((a : Int) + b) / 2 := ⟨(((a : Int) + b) / 2).toNat, by omega⟩
      have kN : k < N := by omega
      have n2 : v2.toNatClampNeg = k := by have := nc_i (x := v2) (by omega); omega
      have r4 := dk_e (a := 62) (f := 4) (b := 69) k0 (by decide +kernel)
      replace e := ce_e r4 e
      replace e := gg_e e
      rcases br_s e with ⟨c2, e⟩ | ⟨c2, e⟩ <;> rw [n2] at c2
      · rw [so_e e]
        exact ⟨rfl, Or.inr ⟨k, kN, by show v2.toInt = _; omega, c2⟩⟩
      · have ne : ¬ (hI h (n + 69) k).toInt = x1.toInt := fun z => c2 (Int32.toInt_inj.mp z)
        replace e := ce_e r4 e
        replace e := gg_e e
        unfold sX0_findSet_59 at e
        rcases br_s e with ⟨c3, e⟩ | ⟨c3, e⟩ <;> rw [n2] at c3
        · have c3 := le_i c3
          obtain ⟨v9, w9, e⟩ := nm_s e
          have y9 : v9.toInt = (k : Int) - 1 := by rw [w9, ts (by rw [z1]; omega), z1]; omega
          refine ih (a := a) (b := (k : Int) - 1) e2 y9 (by omega) (by omega) aN lo (fun k' h1 h2 => ?_) e
          by_cases z : k' = k
          · rw [z]; omega
          · have := So k k' (by omega) h2
            omega
        · have c3 := nle_i c3
          obtain ⟨v10, w10, e⟩ := nm_s e
          have y10 : v10.toInt = ((k + 1 : Nat) : Int) := by rw [w10, ta (by rw [z1]; omega), z1]; omega
          refine ih (a := k + 1) (b := b) y10 e3 b1 bN (by omega) (fun k' h1 => ?_) hi e
          by_cases z : k' = k
          · rw [z]; omega
          · have := So k' k (by omega) kN
            omega
theorem fis_k (k0 : DyK n g h) (So : SoK n h N) (S : FmC n h N nk rk sb q) (e : sX0_findSet F h (n + 62) x1 = some o) : o.2 = h ∧ ((o.1 = (-1 : Int32) ∧ ∀ k, k < N → ¬ hI h (n + 69) k = x1) ∨ ∃ k, k < N ∧ o.1.toInt = (k : Int) ∧ hI h (n + 69) k = x1) := by
  have z1 : (1 : Int32).toInt = 1 := rfl
  have N10 := S.1.1
  have e9 := S.1.2
  unfold sX0_findSet at e
  obtain ⟨v1, w1, e⟩ := nm_s e
  exact fis_9 k0 So N10 F (a := 0) (b := (N : Int) - 1) rfl (by rw [w1, ts (by rw [z1, e9]; omega), z1, e9]) (by omega) (by omega) (Nat.zero_le _) (fun k hk => by omega) (fun k h1 h2 => by omega) e
theorem sto_9 (k0 : DyK n g h) (S : FmC n h N nk rk sb q) {i : Nat} (e1 : x1.toInt = (i : Int)) : ∀ (fu : Nat) {x2 x3 : Int32} {a b : Nat}, x2.toInt = (a : Int) → x3.toInt = (b : Int) → a ≤ b → b < N → sb a ≤ i → i < sb (b + 1) → sX0_setOf_9 F fu h (n + 62) x1 x2 x3 = some o → o.2 = h ∧ ∃ k, k < N ∧ o.1.toInt = (k : Int) ∧ sb k ≤ i ∧ i < sb (k + 1) := by
  have z1 : (1 : Int32).toInt = 1 := rfl
  have N10 := S.1.1
  intro fu
  induction fu with
  | zero => intro x2 x3 a b _ _ _ _ _ _ e; exact absurd e (by rw [sX0_setOf_9]; exact fun z => nomatch z)
  | succ fu ih =>
    intro x2 x3 a b e2 e3 ab bN lo hi e
    rw [sX0_setOf_9] at e
    rcases br_s e with ⟨c, e⟩ | ⟨c, e⟩
    · have c := le_i c
      have ab' : a = b := by omega
      rw [so_e e]
      exact ⟨rfl, a, by omega, e2, lo, by rw [ab']; exact hi⟩
    · have c := nle_i c
      obtain ⟨v2, w2, e⟩ := nm_s e
      have y1 : (x2 + x3).toInt = (a : Int) + (b : Int) := by rw [ta (by omega), e2, e3]
      have y2 : v2.toInt = ((a : Int) + (b : Int) + 1) / 2 := by
        rw [w2, ti_shr1, ta (by rw [y1, z1]; omega), y1, z1]
      obtain ⟨k, hk⟩ : ∃ k : Nat, (k : Int) = ((a : Int) + (b : Int) + 1) / 2 := ⟨(((a : Int) + (b : Int) + 1) / 2).toNat, by omega⟩
      have n2 : v2.toNatClampNeg = k := by have := nc_i (x := v2) (by omega); omega
      replace e := ce_e (dk_e (a := 62) (f := 5) (b := 70) k0 (by decide +kernel)) e
      replace e := gg_e e
      rw [n2] at e
      have sk := S.2.2.1 k (by omega)
      unfold sX0_setOf_45 at e
      rcases br_s e with ⟨c2, e⟩ | ⟨c2, e⟩
      · have c2 := lt_i c2
        obtain ⟨v6, w6, e⟩ := nm_s e
        have y6 : v6.toInt = ((k - 1 : Nat) : Int) := by rw [w6, ts (by rw [z1]; omega), z1]; omega
        refine ih (a := a) (b := k - 1) e2 y6 (by omega) (by omega) lo ?_ e
        rw [show k - 1 + 1 = k by omega]
        omega
      · have c2 := nlt_i c2
        exact ih (a := k) (b := b) (by omega) e3 (by omega) bN (by omega) hi e
theorem sto_k (k0 : DyK n g h) (S : FmC n h N nk rk sb q) (N1 : 1 ≤ N) {i : Nat} (e1 : x1.toInt = (i : Int)) (iN : i < sb N) (e : sX0_setOf F h (n + 62) x1 = some o) : o.2 = h ∧ ∃ k, k < N ∧ o.1.toInt = (k : Int) ∧ sb k ≤ i ∧ i < sb (k + 1) := by
  have z1 : (1 : Int32).toInt = 1 := rfl
  have N10 := S.1.1
  have e9 := S.1.2
  unfold sX0_setOf at e
  obtain ⟨v1, w1, e⟩ := nm_s e
  exact sto_9 k0 S e1 F (a := 0) (b := N - 1) rfl (by rw [w1, ts (by rw [z1, e9]; omega), z1, e9]; omega) (by omega) (by omega) (by rw [S.2.2.2.1]; exact Nat.zero_le _) (by rw [show N - 1 + 1 = N by omega]; exact iN) e
end
end
section
/-! ENDINGS, the class: a man comes to a row: its key, its number -/
section
variable {n F m q N p s : Nat} {h : Hp} {o : Int32 × Hp} {f : Nat → Int} {x x1 : Int32} {y v : Int} {row row' : Nat → Int} {m' : Nat} {d d' : Nat → Nat} {tg : Nat → Int}
theorem key_u (K : KeyR x row m) (K' : KeyR x row' m') : m = m' ∧ ∀ i, i < m → row i = row' i := by
  have e : K5 (fun i => if i < m then row i else 0) = K5 (fun i => if i < m' then row' i else 0) := by rw [← K.2.2, ← K'.2.2]
  have a := k5_inj (key_24 K) (key_24 K') e
  have a : ∀ i, i < 5 → (if i < m then row i else 0) = (if i < m' then row' i else 0) := a
  have mm : m = m' := by
    rcases Nat.lt_trichotomy m m' with c | c | c
    · have := a m (by have := K'.1; omega)
      rw [if_neg (Nat.lt_irrefl _), if_pos c] at this
      have := (K'.2.1 m c).1
      omega
    · exact c
    · have := a m' (by have := K.1; omega)
      rw [if_neg (Nat.lt_irrefl _), if_pos c] at this
      have := (K.2.1 m' c).1
      omega
  refine ⟨mm, fun i hi => ?_⟩
  have := a i (by have := K.1; omega)
  rw [if_pos hi, if_pos (by omega)] at this
  exact this
theorem key_e (m5 : m ≤ 5) (K : KeyR x row m) (e : ∀ i, i < m → row i = row' i) : KeyR x row' m := by
  refine ⟨m5, fun i hi => by rw [← e i hi]; exact K.2.1 i hi, ?_⟩
  rw [K.2.2]
  refine k5_eq (fun j _ => ?_)
  show (if j < m then row j else 0) = (if j < m then row' j else 0)
  by_cases c : j < m
  · rw [if_pos c, if_pos c, e j c]
  · rw [if_neg c, if_neg c]
theorem key_x {x' : Int32} (K : KeyR x row m) (K' : KeyR x' row m) : x = x' := Int32.toInt_inj.mp (by rw [K.2.2, K'.2.2])
theorem wi_r (K : KeyR x row m) (m4 : m ≤ 4) (i : Rg 0 23 x1) (e : sX0_with F h x x1 = some o) : o.2 = h ∧ ∃ p, p ≤ m ∧ (∀ j, j < p → row j ≤ x1.toInt + 1) ∧ (p < m → x1.toInt + 1 < row p) ∧ KeyR o.1 (inFx row p (x1.toInt + 1)) (m + 1) := by
  obtain ⟨a, p, p4, pa, pb, ek⟩ := wi_k (D := fun i => if i < m then row i else 0) (key_24 K) (if_neg (by omega)) K.2.2 i e
  have pa : ∀ j, j < p → ¬ (if j < m then row j else 0) = 0 ∧ (if j < m then row j else 0) ≤ x1.toInt + 1 := pa
  have pb : (if p < m then row p else 0) = 0 ∨ x1.toInt + 1 < (if p < m then row p else 0) := pb
  have pm : p ≤ m := by
    apply Classical.byContradiction
    intro z
    have := (pa m (by omega)).1
    rw [if_neg (Nat.lt_irrefl _)] at this
    exact this rfl
  refine ⟨a, p, pm, fun j hj => ?_, fun hp => ?_, by omega, fun j hj => ?_, ?_⟩
  · have := (pa j hj).2
    rw [if_pos (by omega)] at this
    exact this
  · rw [if_pos hp] at pb
    rcases pb with z | z
    · have := (K.2.1 p hp).1; omega
    · exact z
  · show 1 ≤ inFx row p (x1.toInt + 1) j ∧ inFx row p (x1.toInt + 1) j ≤ 24
    have := i.1
    have := i.2
    unfold inFx
    by_cases c : j < p
    · rw [if_pos c]; exact K.2.1 j (by omega)
    · rw [if_neg c]
      by_cases c' : j = p
      · rw [if_pos c']; omega
      · rw [if_neg c']; exact K.2.1 (j - 1) (by omega)
  · rw [ek]
    refine k5_eq (fun j _ => ?_)
    show (if j < p then (if j < m then row j else 0) else if j = p then x1.toInt + 1 else (if j - 1 < m then row (j - 1) else 0)) = (if j < m + 1 then inFx row p (x1.toInt + 1) j else 0)
    unfold inFx
    by_cases c : j < p
    · rw [if_pos c, if_pos (by omega), if_pos (by omega), if_pos c]
    · rw [if_neg c]
      by_cases c' : j = p
      · rw [if_pos c', if_pos (by omega), if_neg c, if_pos c']
      · rw [if_neg c']
        by_cases c2 : j < m + 1
        · rw [if_pos (by omega), if_pos c2, if_neg c, if_neg c']
        · rw [if_neg (by omega), if_neg c2]
/-- rising, equal ones too -/
theorem insl_s (S : ∀ i, i + 1 < m → row i ≤ row (i + 1)) (pm : p ≤ m) (a : ∀ i, i < p → row i ≤ v) (b : p < m → v < row p) : ∀ i, i + 1 < m + 1 → inFx row p v i ≤ inFx row p v (i + 1) := fun i hi => by
  unfold inFx
  by_cases c : i + 1 < p
  · rw [if_pos (by omega), if_pos c]; exact S i (by omega)
  · rw [if_neg c]
    by_cases c1 : i + 1 = p
    · rw [if_pos c1, if_pos (by omega)]; exact a i (by omega)
    · rw [if_neg c1, if_neg (by omega)]
      by_cases c2 : i = p
      · rw [if_pos c2]
        have := b (by omega)
        rw [show i + 1 - 1 = p by omega]; omega
      · rw [if_neg c2]
        have := S (i - 1) (by omega)
        rw [show i - 1 + 1 = i + 1 - 1 by omega] at this
        exact this
/-- the values of a row with one more are the same, wherever it is put among like ones -/
theorem row_eq (S : ∀ i, i + 1 < m → f i < f (i + 1)) (pm : p ≤ m) (a : ∀ i, i < p → f i < 64 * y + (s : Int)) (b : ∀ i, p ≤ i → i < m → 64 * y + (s : Int) < f i) (s64 : s < 64) {p' : Nat} (pm' : p' ≤ m) (a' : ∀ i, i < p' → f i / 64 ≤ y) (b' : p' < m → y < f p' / 64) : ∀ i, i < m + 1 → inFx f p (64 * y + (s : Int)) i / 64 = inFx (fun i => f i / 64) p' y i := by
  have S1 := ins_s S pm a b
  have S2 : ∀ i, i + 1 < m + 1 → inFx f p (64 * y + (s : Int)) i / 64 ≤ inFx f p (64 * y + (s : Int)) (i + 1) / 64 := fun i hi => by
    have := S1 i hi
    omega
  have S3 := insl_s (row := fun i => f i / 64) (v := y) (fun i hi => by have := S i hi; show f i / 64 ≤ f (i + 1) / 64; omega) pm' a' b'
  refine (srt_u (row := fun i => inFx f p (64 * y + (s : Int)) i / 64) S2 S3 (fun v => ?_)).2
  have c1 := ins_c (f := f) (x := 64 * y + (s : Int)) (v := v) (y := fun z => z / 64) m pm
  have c2 := ins_c (f := fun i => f i / 64) (x := y) (v := v) (y := fun z => z) m pm'
  have e : (64 * y + (s : Int)) / 64 = y := by omega
  have c1 : ctR (fun i => inFx f p (64 * y + (s : Int)) i / 64) v (m + 1) = ctR (fun i => f i / 64) v m + (if (64 * y + (s : Int)) / 64 = v then 1 else 0) := c1
  have c2 : ctR (fun i => inFx (fun i => f i / 64) p' y i) v (m + 1) = ctR (fun i => f i / 64) v m + (if y = v then 1 else 0) := c2
  rw [e] at c1
  rw [c1]
  exact c2.symm
theorem nmv_e : ∀ (k : Nat), (∀ i, i < k → d i = d' i) → nmV q d k = nmV q d' k := by
  intro k
  induction k with
  | zero => intro _; rfl
  | succ k ih =>
    intro h
    show nmV q d k + d k * q ^ k = nmV q d' k + d' k * q ^ k
    rw [ih (fun i hi => h i (by omega)), h k (Nat.lt_succ_self _)]
theorem nmv_p (dp : d p = 0) (dp' : d' p = s) (o : ∀ i, ¬ i = p → d' i = d i) : ∀ (k : Nat), p < k → nmV q d' k = nmV q d k + s * q ^ p := by
  intro k
  induction k with
  | zero => intro h; exact absurd h (Nat.not_lt_zero _)
  | succ k ih =>
    intro h
    show nmV q d' k + d' k * q ^ k = nmV q d k + d k * q ^ k + s * q ^ p
    by_cases c : k = p
    · have e : nmV q d' k = nmV q d k := nmv_e k (fun i hi => o i (by omega))
      rw [e, c, dp, dp', Nat.zero_mul]
      omega
    · rw [ih (by omega), o k c]
      omega
theorem ins_p (S : ∀ i, i + 1 < m → f i < f (i + 1)) (v : Int) : ∃ p, p ≤ m ∧ (∀ i, i < p → f i ≤ v) ∧ ∀ i, p ≤ i → i < m → v < f i := by
  have mono : ∀ b a : Nat, a ≤ b → b < m → f a ≤ f b := by
    intro b
    induction b with
    | zero => intro a ha _; have : a = 0 := by omega
              rw [this]; exact Int.le_refl _
    | succ b ihb =>
      intro a ha hb
      by_cases w : a = b + 1
      · rw [w]; exact Int.le_refl _
      · have := ihb a (by omega) (by omega)
        have := S b hb
        omega
  obtain ⟨p, hp, mn⟩ := min_ex (p := fun j => j = m ∨ (j < m ∧ v < f j)) ⟨m, Or.inl rfl⟩
  have pm := mn m (Or.inl rfl)
  refine ⟨p, pm, fun i hi => ?_, fun i h1 h2 => ?_⟩
  · apply Classical.byContradiction
    intro z
    have := mn i (Or.inr ⟨by omega, by omega⟩)
    omega
  · rcases hp with c | c
    · omega
    · have := mono i p h1 h2
      omega
end
end
section
/-! ENDINGS, the class: what is touched from a position -/
def TcC (L : Nat → Nat → Int) (N : Nat) (nk : Nat → Nat) (rk : Nat → Nat → Int) (q : Nat) (B : Pz) (c : Cd) : Prop := CdK L B c ∧ ¬ (c.2.2.2 : Int) = L 10 0 ∧ BfW L B c.1 c.2.1 c.2.2.1 c.2.2.2 ∧ ∃ k num, NdO N nk rk q (cdP B c).1 k num
noncomputable def ndW (N : Nat) (nk : Nat → Nat) (rk : Nat → Nat → Int) (q : Nat) (M : Nat → Int) (d : Nat) : Nod := by
  classical
  exact if h : ∃ u : Nat × Nat, NdO N nk rk q M u.1 u.2 then ((Classical.choose h).1, (Classical.choose h).2, d) else (0, 0, 0)
noncomputable def tnC (N : Nat) (nk : Nat → Nat) (rk : Nat → Nat → Int) (q : Nat) (M : Nat → Int) (d : Nat) (c : Cd) : Nod × Bool := (ndW N nk rk q (cdP (ndZ M d) c).1 d, !decide (c.2.2.2 = 15))
def ixC (sb : Nat → Nat) (ν : Nod) : Nat := sb ν.1 + 2 * ν.2.1 + ν.2.2
def WTc (n wA lA qA a i : Nat) : Prop := a = wA ∨ a = lA ∨ a = qA ∨ (a = n + 62 ∧ i = 16)
def WGb (n wA lA qA a i : Nat) : Prop := WRo n a i ∨ WTc n wA lA qA a i
/-- what is kept over touches -/
def TcI (n N : Nat) (nk : Nat → Nat) (sb : Nat → Nat) (q wA lA qA : Nat) (I : Hp → List (Nod × Bool) → Prop) : Prop := (∀ (h o : Hp) A, DyK n h h → I h A → DkT n h o → FrW (WRo n) h o → I o A) ∧ ∀ (h o : Hp) A (ν : Nod) (b : Bool) (x1 x2 : Int32), DyK n h h → I h A → NdA N nk q ν → x1.toInt = (ixC sb ν : Int) → ((x2 = 0 ∧ b = false) ∨ (x2 = 1 ∧ b = true)) → sX0_touch h (n + 62) x1 x2 = some o → I o (A ++ [(ν, b)]) ∧ DkT n h o ∧ FrW (WTc n wA lA qA) h o
def GbB (n : Nat) (h : Hp) (L : Nat → Nat → Int) (N : Nat) (nk : Nat → Nat) (rk : Nat → Nat → Int) (sb : Nat → Nat) (q : Nat) (M : Nat → Int) : Prop := (ClL n h L ∧ FmC n h N nk rk sb q ∧ SoK n h N ∧ PwE n h q ∧ FmB n h L) ∧ PosC h (n + 64) (n + 65) (n + 66) M (L 10 0)
def GbS (n : Nat) (L : Nat → Nat → Int) (N : Nat) (nk : Nat → Nat) (rk : Nat → Nat → Int) (q : Nat) (M : Nat → Int) (d wA lA qA : Nat) (I : Hp → List (Nod × Bool) → Prop) (A : List (Nod × Bool)) (h0 : Hp) (Pr : Cd → Prop) (h : Hp) : Prop := (DkT n h0 h ∧ FrW (WGb n wA lA qA) h0 h) ∧ ∃ l : List Cd, l.Nodup ∧ (∀ c, c ∈ l ↔ (Pr c ∧ TcC L N nk rk q (ndZ M d) c)) ∧ I h (A ++ l.map (tnC N nk rk q M d))
section
variable {n F N q wA lA qA d t m a : Nat} {h h0 o : Hp} {nk : Nat → Nat} {rk : Nat → Nat → Int} {sb : Nat → Nat} {L : Nat → Nat → Int} {M : Nat → Int} {I : Hp → List (Nod × Bool) → Prop} {A : List (Nod × Bool)} {Pr Pr' : Cd → Prop} {x1 x2 x3 : Int32} {c : Cd}
theorem ndw_e (q0 : 0 < q) (q64 : q ≤ 64) (Fm : Fam L N nk rk) {k num : Nat} (O : NdO N nk rk q M k num) : ndW N nk rk q M d = (k, num, d) := by
  have ex : ∃ u : Nat × Nat, NdO N nk rk q M u.1 u.2 := ⟨(k, num), O⟩
  have e : ndW N nk rk q M d = ((Classical.choose ex).1, (Classical.choose ex).2, d) := by unfold ndW; exact dif_pos ex
  obtain ⟨a, b⟩ := ndo_u q0 q64 Fm (Classical.choose_spec ex) O
  rw [e, a, b]
theorem gbb_f (w6 : n + 610 ≤ wA ∧ n + 610 ≤ lA ∧ n + 610 ≤ qA) (k0 : DyK n h0 h0) (dk : DkT n h0 h) (Fr : FrW (WGb n wA lA qA) h0 h) (B : GbB n h0 L N nk rk sb q M) : GbB n h L N nk rk sb q M := by
  have s0 := dk_610 k0
  obtain ⟨⟨a, b, c, e, f⟩, P⟩ := B
  have X : ∀ j i, j < 610 → ¬ j = 72 → ¬ (j = 62 ∧ (i = 8 ∨ i = 16)) → hI h (n + j) i = hI h0 (n + j) i ∧ hJ h (n + j) i = hJ h0 (n + j) i := fun j i h1 h2 h3 => Fr.2 _ _ (by omega) (fun z => by unfold WGb WRo WTc at z; omega)
  refine ⟨⟨cll_f k0 (dk.1 _ k0) (fun j i hj => X j i (by omega) (by omega) (by omega)) a, ⟨⟨b.1.1, by rw [(X 62 9 (by omega) (by omega) (by omega)).1]; exact b.1.2⟩, fun j hj => by rw [(X 69 j (by omega) (by omega) (by omega)).1]; exact b.2.1 j hj, fun j hj => by rw [(X 70 j (by omega) (by omega) (by omega)).1]; exact b.2.2.1 j hj, b.2.2.2⟩, fun j k h1 h2 => by rw [(X 69 j (by omega) (by omega) (by omega)).1, (X 69 k (by omega) (by omega) (by omega)).1]; exact c j k h1 h2, fun i hi => by rw [(X 71 i (by omega) (by omega) (by omega)).1]; exact e i hi, fun i hi s hs z => by rw [(X 26 i (by omega) (by omega) (by omega)).2] at z; exact f i hi s hs z⟩, ?_⟩
  refine ⟨fun s hs => by rw [(X 64 s (by omega) (by omega) (by omega)).1]; exact P.1 s hs, fun d hd => ?_, fun d hd => ?_, P.2.2.2⟩
  · rw [(X 65 d (by omega) (by omega) (by omega)).2]; exact P.2.1 d hd
  · rw [(X 66 d (by omega) (by omega) (by omega)).1]; exact P.2.2.1 d hd
theorem gbs_w (S : GbS n L N nk rk q M d wA lA qA I A h0 Pr h) (w : ∀ c, TcC L N nk rk q (ndZ M d) c → (Pr c ↔ Pr' c)) : GbS n L N nk rk q M d wA lA qA I A h0 Pr' h := by
  obtain ⟨S1, l, l1, l2, l3⟩ := S
  exact ⟨S1, l, l1, fun c => by rw [l2]; exact ⟨fun z => ⟨(w c z.2).mp z.1, z.2⟩, fun z => ⟨(w c z.2).mpr z.1, z.2⟩⟩, l3⟩
theorem gbs_f (TI : TcI n N nk sb q wA lA qA I) (k0 : DyK n h0 h0) (S : GbS n L N nk rk q M d wA lA qA I A h0 Pr h) (dk : DkT n h o) (Fr : FrW (WRo n) h o) : GbS n L N nk rk q M d wA lA qA I A h0 Pr o := by
  obtain ⟨⟨S1, S2⟩, l, l1, l2, l3⟩ := S
  exact ⟨⟨dkt_t S1 dk, fw_t S2 (fw_s Fr (fun _ _ c => Or.inl c))⟩, l, l1, l2, TI.1 _ _ _ (dk_self (S1.1 _ k0)) l3 dk Fr⟩
theorem gbs_a (TI : TcI n N nk sb q wA lA qA I) (k0 : DyK n h0 h0) (S : GbS n L N nk rk q M d wA lA qA I A h0 Pr h) (np : ¬ Pr c) (tc : TcC L N nk rk q (ndZ M d) c) {ν : Nod} (na : NdA N nk q ν) (eν : (tnC N nk rk q M d c).1 = ν) (e1 : x1.toInt = (ixC sb ν : Int)) (e2 : (x2 = 0 ∧ c.2.2.2 = 15) ∨ (x2 = 1 ∧ ¬ c.2.2.2 = 15)) (e : sX0_touch h (n + 62) x1 x2 = some o) : GbS n L N nk rk q M d wA lA qA I A h0 (fun x => Pr x ∨ x = c) o := by
  obtain ⟨⟨S1, S2⟩, l, l1, l2, l3⟩ := S
  obtain ⟨r1, r2, r3⟩ := TI.2 h o _ ν (tnC N nk rk q M d c).2 x1 x2 (dk_self (S1.1 _ k0)) l3 na e1 (by
    rcases e2 with ⟨z1, z2⟩ | ⟨z1, z2⟩
    · exact Or.inl ⟨z1, by show (!decide (c.2.2.2 = 15)) = false; rw [decide_eq_true z2]; rfl⟩
    · exact Or.inr ⟨z1, by show (!decide (c.2.2.2 = 15)) = true; rw [decide_eq_false z2]; rfl⟩) e
  refine ⟨⟨dkt_t S1 r2, fw_t S2 (fw_s r3 (fun _ _ z => Or.inr z))⟩, l ++ [c], ?_, fun x => ?_, ?_⟩
  · rw [List.nodup_append]
    refine ⟨l1, by simp, fun x hx y hy => ?_⟩
    rw [List.mem_singleton.mp hy]
    exact fun z => np ((l2 c).mp (by rw [← z]; exact hx)).1
  · rw [List.mem_append, l2, List.mem_singleton]
    constructor
    · intro z
      rcases z with z | z
      · exact ⟨Or.inl z.1, z.2⟩
      · exact ⟨Or.inr z, by rw [z]; exact tc⟩
    · intro ⟨z, w⟩
      rcases z with z | z
      · exact Or.inl ⟨z, w⟩
      · exact Or.inr z
  · rw [List.map_append, ← List.append_assoc]
    show I o (A ++ l.map (tnC N nk rk q M d) ++ [tnC N nk rk q M d c])
    have : tnC N nk rk q M d c = (ν, (tnC N nk rk q M d c).2) := by rw [← eν]
    rw [this]
    exact r1
theorem nda_o {k num : Nat} (d2 : d < 2) (O : NdO N nk rk q M k num) : NdA N nk q (k, num, d) := ⟨O.1, O.2.1, d2⟩
/-- all squares that a man may have come from: each touches -/
theorem tbt_92 {kk mr : Nat} {f : Nat → Int} {x5 x6 x7 : Int32} (TI : TcI n N nk sb q wA lA qA I) (E : LwE L N nk rk q) (k0 : DyK n h0 h0) (w6 : n + 610 ≤ wA ∧ n + 610 ≤ lA ∧ n + 610 ≤ qA) (B0 : GbB n h0 L N nk rk sb q M) (d2 : d < 2) (kN : kk < N) (x5e : x5.toInt = ((sb kk + d : Nat) : Int)) (bo : ∀ s : Nat, s < 64 → (s : Int) < L 0 0 * L 1 0 → M s = 0 → BfO L (ndZ M d) s t m) (Aa : BfA L a) (nr : ¬ (a : Int) = L 10 0) (e3 : (x3 = (-1 : Int32) ∧ a = 15) ∨ (¬ x3 = (-1 : Int32) ∧ ¬ a = 15)) (npA : ∀ c, Pr c → ¬ (c.2.1 = t ∧ c.2.2.1 = m ∧ c.2.2.2 = a)) (num : ∀ (s : Nat) (u : Hp) (w : Int32), s < 64 → (s : Int) < L 0 0 * L 1 0 → M s = 0 → DyK n u u → GbB n u L N nk rk sb q M → RwE n u mr f → w.toInt = (s : Int) → (x7 ≤ 0 → ∀ v, sX0_numberOf F u (n + 62) ((x2 <<< ((6 : Int32) &&& 31)) ||| w) = some v → v.2 = u ∧ ∃ nu, NdO N nk rk q (cdP (ndZ M d) (s, t, m, a)).1 kk nu ∧ v.1.toInt = (nu : Int)) ∧ (¬ x7 ≤ 0 → ∃ nu, NdO N nk rk q (cdP (ndZ M d) (s, t, m, a)).1 kk nu ∧ (x6 + (w * x7)).toInt = (nu : Int))) : ∀ (fu : Nat) {h : Hp} {x8 : Int64} {x10 : Int32}, RwE n h mr f → GbS n L N nk rk q M d wA lA qA I A h0 (fun c => Pr c ∨ (c.2.1 = t ∧ c.2.2.1 = m ∧ c.2.2.2 = a ∧ ¬ (c.1 < 64 ∧ bitJ x8 c.1 = true))) h → (∀ s : Nat, s < 64 → bitJ x8 s = true → (s : Int) < L 0 0 * L 1 0 ∧ M s = 0 ∧ BfW L (ndZ M d) s t m a) → 0 ≤ x10.toInt → (∀ s : Nat, s < 64 → (s : Int) < x10.toInt → bitJ x8 s = false) → sX0_takeBackTaking_92 F fu h (n + 62) x2 x3 x5 x6 x7 x8 x10 = some o → GbS n L N nk rk q M d wA lA qA I A h0 (fun c => Pr c ∨ (c.2.1 = t ∧ c.2.2.1 = m ∧ c.2.2.2 = a)) o := by
  have z1 : (1 : Int32).toInt = 1 := rfl
  have z2 : (2 : Int32).toInt = 2 := rfl
  have z64 : (64 : Int32).toInt = 64 := rfl
  obtain ⟨_, Fm, q0, q64, eq⟩ := E
  intro fu
  induction fu with
  | zero => intro h x8 x10 _ _ _ _ _ e; exact absurd e (by rw [sX0_takeBackTaking_92]; exact fun z => nomatch z)
  | succ fu ih =>
    intro h x8 x10 R S B8 l10 lo e
    rw [sX0_takeBackTaking_92] at e
    unfold sX0_takeBackTaking_178 at e
    have all : (∀ s, s < 64 → bitJ x8 s = false) → some h = some o → GbS n L N nk rk q M d wA lA qA I A h0 (fun c => Pr c ∨ (c.2.1 = t ∧ c.2.2.1 = m ∧ c.2.2.2 = a)) o := fun z e => by
      rw [so_e e]
      refine gbs_w S (fun c _ => ⟨fun y => ?_, fun y => ?_⟩)
      · rcases y with y | y
        · exact Or.inl y
        · exact Or.inr ⟨y.1, y.2.1, y.2.2.1⟩
      · rcases y with y | y
        · exact Or.inl y
        · exact Or.inr ⟨y.1, y.2.1, y.2.2, fun w => by rw [z _ w.1] at w; exact absurd w.2 (by decide)⟩
    rcases br_s e with ⟨c1, e⟩ | ⟨c1, e⟩
    · have c1 := le_i c1
      rw [z64] at c1
      exact all (fun s hs => lo s hs (by omega)) e
    have c1 := nle_i c1
    rw [z64] at c1
    rcases br_s e with ⟨c2, e⟩ | ⟨c2, e⟩
    · exact all (j_zero.mp (cmp_eq c2)) e
    obtain ⟨o3, e3', e⟩ := cl_s e
    obtain ⟨p3, s, s64, v3, bs, kl, rest⟩ := low_v e3' c2
    rw [p3] at e
    obtain ⟨v4, w4, e⟩ := nm_s e
    rw [← w4] at rest
    obtain ⟨sL, s0, sW⟩ := B8 s s64 bs
    have O := bo s s64 sL s0
    have kh := S.1.1.1 _ k0
    have Bh := gbb_f w6 k0 S.1.1 S.1.2 B0
    obtain ⟨nu1, nu2⟩ := num s h o3.1 s64 sL s0 (dk_self kh) Bh R v3
    have body : ∀ {t0 : Int32} {nu : Nat}, NdO N nk rk q (cdP (ndZ M d) (s, t, m, a)).1 kk nu → t0.toInt = (nu : Int) → sX0_takeBackTaking_149 F (sX0_takeBackTaking_92 F fu) h (n + 62) x2 x3 x5 x6 x7 v4 x10 t0 = some o → GbS n L N nk rk q M d wA lA qA I A h0 (fun c => Pr c ∨ (c.2.1 = t ∧ c.2.2.1 = m ∧ c.2.2.2 = a)) o := fun {t0 nu} O' et e => by
      have na := nda_o d2 O'
      have il := at_l (ν := (kk, nu, d)) Bh.1.2.1 na
      have il : sb kk + 2 * nu + d < 600000 := il
      have m2 : ((2 : Int32) * t0).toInt = 2 * (nu : Int) := by rw [tm (by rw [z2, et]; omega), z2, et]
      have ix : (x5 + ((2 : Int32) * t0)).toInt = (ixC sb (kk, nu, d) : Int) := by
        rw [ta (by rw [x5e, m2]; omega), x5e, m2]
        show _ = ((sb kk + 2 * nu + d : Nat) : Int)
        omega
      have tc : TcC L N nk rk q (ndZ M d) (s, t, m, a) := ⟨⟨O, Aa⟩, nr, sW, kk, nu, O'⟩
      have np : ¬ (Pr (s, t, m, a) ∨ ((s, t, m, a).2.1 = t ∧ (s, t, m, a).2.2.1 = m ∧ (s, t, m, a).2.2.2 = a ∧ ¬ ((s, t, m, a).1 < 64 ∧ bitJ x8 (s, t, m, a).1 = true))) := fun y => by
        rcases y with y | ⟨_, _, _, y⟩
        · exact npA _ y ⟨rfl, rfl, rfl⟩
        · exact y ⟨s64, bs⟩
      have fin : ∀ {b : Int32}, ((b = 0 ∧ a = 15) ∨ (b = 1 ∧ ¬ a = 15)) → sX0_takeBackTaking_169 F (sX0_takeBackTaking_92 F fu) h (n + 62) x2 x3 x5 x6 x7 v4 x10 b (x5 + ((2 : Int32) * t0)) (n + 62) = some o → GbS n L N nk rk q M d wA lA qA I A h0 (fun c => Pr c ∨ (c.2.1 = t ∧ c.2.2.1 = m ∧ c.2.2.2 = a)) o := fun {b} eb e => by
        unfold sX0_takeBackTaking_169 at e
        obtain ⟨o1, e1, e⟩ := cl_s e
        obtain ⟨v2, w2, e⟩ := nm_s e
        have S1 := gbs_a (c := (s, t, m, a)) TI k0 S np tc na (ndw_e q0 q64 Fm O') ix eb e1
        have R1 : RwE n o1 mr f := by
          have F1 : FrW (WTc n wA lA qA) h o1 := by
            obtain ⟨⟨_, _⟩, l, _, _, l3⟩ := S
            exact (TI.2 h o1 _ (kk, nu, d) (!decide (a = 15)) _ b (dk_self kh) l3 na ix (by
              rcases eb with ⟨z1, z2⟩ | ⟨z1, z2⟩
              · exact Or.inl ⟨z1, by rw [decide_eq_true z2]; rfl⟩
              · exact Or.inr ⟨z1, by rw [decide_eq_false z2]; rfl⟩) e1).2.2
          have s6 := dk_610 kh
          exact ⟨by rw [(F1.2 (n + 62) 8 (by omega) (fun z => by unfold WTc at z; omega)).1]; exact R.1, fun i hi => by rw [(F1.2 (n + 72) i (by omega) (fun z => by unfold WTc at z; omega)).1]; exact R.2 i hi⟩
        refine ih R1 (gbs_w S1 (fun c _ => ⟨fun y => ?_, fun y => ?_⟩)) (fun x hx bx => B8 x hx (by
          rw [rest x hx, Bool.and_eq_true] at bx
          exact bx.1)) (by rw [w2, ta (by rw [z1]; omega), z1]; omega) (fun x hx lx => ?_) e
        · rcases y with (y | ⟨y1, y2, y3, y4⟩) | y
          · exact Or.inl y
          · refine Or.inr ⟨y1, y2, y3, fun w => y4 ⟨w.1, ?_⟩⟩
            have := w.2
            rw [rest _ w.1, Bool.and_eq_true] at this
            exact this.1
          · rw [y]
            refine Or.inr ⟨rfl, rfl, rfl, fun w => ?_⟩
            have := w.2
            rw [rest _ s64, decide_eq_true rfl, Bool.not_true, Bool.and_false] at this
            exact absurd this (by decide)
        · rcases y with y | ⟨y1, y2, y3, y4⟩
          · exact Or.inl (Or.inl y)
          · by_cases w : c.1 = s
            · exact Or.inr (Prod.ext w (Prod.ext y1 (Prod.ext y2 y3)))
            · refine Or.inl (Or.inr ⟨y1, y2, y3, fun u => y4 ⟨u.1, ?_⟩⟩)
              rw [rest _ u.1, u.2, decide_eq_false (fun v => w v.symm)]; rfl
        · rw [w2, ta (by rw [z1]; omega), z1] at lx
          rw [rest x hx]
          by_cases c : x < s
          · rw [kl x c]; rfl
          · by_cases d : s = x
            · rw [decide_eq_true d]; cases bitJ x8 x <;> rfl
            · have : (s : Int) < x10.toInt := by omega
              rw [lo s s64 this] at bs
              exact absurd bs (by decide)
      unfold sX0_takeBackTaking_149 at e
      rcases br_s e with ⟨c3, e⟩ | ⟨c3, e⟩
      · rcases e3 with ⟨_, z⟩ | ⟨z, _⟩
        · exact fin (Or.inl ⟨rfl, z⟩) e
        · exact absurd c3 z
      · rcases e3 with ⟨z, _⟩ | ⟨_, z⟩
        · exact absurd z c3
        · exact fin (Or.inr ⟨rfl, z⟩) e
    rcases br_s e with ⟨c3, e⟩ | ⟨c3, e⟩
    · obtain ⟨o6, e6, e⟩ := cl_s e
      obtain ⟨p6, nu, O', ev⟩ := nu1 c3 o6 e6
      rw [p6] at e
      exact body O' ev e
    · obtain ⟨nu, O', ev⟩ := nu2 c3
      exact body O' ev e
end
end
section
/-! ENDINGS, the class: a man taken back, whole -/
section
variable {n F N q wA lA qA d t m a : Nat} {h h0 o : Hp} {nk : Nat → Nat} {rk : Nat → Nat → Int} {sb : Nat → Nat} {L : Nat → Nat → Int} {M tg : Nat → Int} {I : Hp → List (Nod × Bool) → Prop} {A : List (Nod × Bool)} {Pr Pr' : Cd → Prop} {x1 x2 x3 : Int32} {mr p s : Nat} {f : Nat → Int} {y : Int}
/-- the SET of a board with one man more -/
theorem stw_r (q0 : 0 < q) (q64 : q ≤ 64) (Fm : Fam L N nk rk) (Eg : EnU tg mr f) (s64 : s < 64) (ts' : tg s = 0) (y0 : 0 < y) {p' : Nat} (pm' : p' ≤ mr) (a' : ∀ i, i < p' → f i / 64 ≤ y) (b' : p' < mr → y < f p' / 64) {k num : Nat} (O : NdO N nk rk q (updM tg s y) k num) : nk k = mr + 1 ∧ ∀ i, i < mr + 1 → rk k i = inFx (fun i => f i / 64) p' y i := by
  have ni := enu_ni (y := y) Eg s64 ts'
  obtain ⟨p, pm, pa, pb⟩ := ins_x Eg.1 ni
  have E1 := enu_in Eg s64 ts' y0 pm pa pb
  have E2 := enu_g O.2.2.2 (enu_l q0 q64 (Fm.1 k O.1) O.2.2.1)
  obtain ⟨e1, e2⟩ := enu_u E2 E1
  refine ⟨e1, fun i hi => ?_⟩
  have z := e2 i (by omega)
  have z : 64 * rk k i + (sqi q num i : Int) = inFx f p (64 * y + (s : Int)) i := z
  have lt := sqi_lt (num := num) (i := i) q0
  rw [← row_eq Eg.1 pm pa pb s64 pm' a' b' i hi, ← z]
  omega
/-- its number -/
theorem stw_n (q0 : 0 < q) (Fm : Fam L N nk rk) (Eg : EnU tg mr f) (s64 : s < 64) (sq : s < q) (ts' : tg s = 0) (y0 : 0 < y) (g0 : ∀ s, 0 ≤ tg s) (gq : ∀ i, i < mr → (f i % 64).toNat < q) (pm : p ≤ mr) (pa : ∀ i, i < p → f i < 64 * y + (s : Int)) (pb : ∀ i, p ≤ i → i < mr → 64 * y + (s : Int) < f i) {k : Nat} (kN : k < N) (nn : nk k = mr + 1) (rr : ∀ i, i < mr + 1 → inFx f p (64 * y + (s : Int)) i / 64 = rk k i) : NdO N nk rk q (updM tg s y) k (nmV q (fun i => (inFx f p (64 * y + (s : Int)) i % 64).toNat) (mr + 1)) ∧ ∀ i, i < mr + 1 → (inFx f p (64 * y + (s : Int)) i % 64).toNat < q := by
  have E1 := enu_in Eg s64 ts' y0 pm pa pb
  have dq : ∀ i, i < mr + 1 → (inFx f p (64 * y + (s : Int)) i % 64).toNat < q := fun i hi => by
    rcases (ins_r (f := f) (x := 64 * y + (s : Int)) pm).1 i hi with z | ⟨j, hj, z⟩
    · rw [z]; omega
    · rw [z]; exact gq j hj
  have R := Fm.1 k kN
  rw [nn] at R
  obtain ⟨a, b, c⟩ := nd_ex q0 R E1 rr dq (fun x => by
    show 0 ≤ (if x = s then y else tg x)
    split
    · omega
    · exact g0 x)
  refine ⟨⟨kN, ?_, ?_, ?_⟩, dq⟩
  · rw [nn]; exact b
  · rw [nn]; exact a
  · rw [nn]; exact c
theorem tbt_k (TI : TcI n N nk sb q wA lA qA I) (E : LwE L N nk rk q) (k0 : DyK n h0 h0) (w6 : n + 610 ≤ wA ∧ n + 610 ≤ lA ∧ n + 610 ≤ qA) (B0 : GbB n h0 L N nk rk sb q M) (d2 : d < 2) (HM : MOk L M) (M0 : ∀ s, 0 ≤ M s) (tt : t < 64) (mt : 0 < M t) (mm : (m : Int) < L 2 0) (bo : ∀ s : Nat, s < 64 → (s : Int) < L 0 0 * L 1 0 → M s = 0 → BfO L (ndZ M d) s t m) (Aa : BfA L a) (nr : ¬ (a : Int) = L 10 0) (c4 : mnC (updM M t (if a = 15 then 0 else cdV a (1 - (d : Int)))) 64 ≤ 4) (e1 : x1.toInt = (t : Int)) (e2 : x2.toInt = 2 * (m : Int) + (d : Int)) (e3 : (x3 = (-1 : Int32) ∧ a = 15) ∨ (¬ x3 = (-1 : Int32) ∧ ¬ a = 15 ∧ x3.toInt = 2 * (a : Int) + (1 - (d : Int)))) (np : ∀ c, Pr c → ¬ (c.2.1 = t ∧ c.2.2.1 = m ∧ c.2.2.2 = a)) (S : GbS n L N nk rk q M d wA lA qA I A h0 Pr h) (e : sX0_takeBackTaking F h (n + 62) x1 x2 x3 = some o) : GbS n L N nk rk q M d wA lA qA I A h0 (fun c => Pr c ∨ (c.2.1 = t ∧ c.2.2.1 = m ∧ c.2.2.2 = a)) o := by
  have zm : (-1 : Int32).toInt = -1 := rfl
  obtain ⟨⟨OK, LD, Nc⟩, Fm, q0, q64, eq⟩ := id E
  have L2 := OK.1.2.2.1
  obtain ⟨tg, htg⟩ : ∃ tg, tg = updM M t (if a = 15 then 0 else cdV a (1 - (d : Int))) := ⟨_, rfl⟩
  rw [← htg] at c4
  have tkv : (if a = 15 then 0 else cdV a (1 - (d : Int))) = x3.toInt + 1 := by
    rcases e3 with ⟨z1, z2⟩ | ⟨_, z2, z3⟩
    · rw [if_pos z2, z1, zm]; rfl
    · rw [if_neg z2, z3]; unfold cdV; omega
  have a12 : ¬ a = 15 → (a : Int) < 12 := fun z => by have := Aa.resolve_left z; omega
  have tgt : tg t = x3.toInt + 1 := by rw [htg, ← tkv]; exact if_pos rfl
  have tgo : ∀ s, ¬ s = t → tg s = M s := fun s z => by rw [htg]; exact if_neg z
  have x3r : 0 ≤ x3.toInt + 1 ∧ x3.toInt + 1 ≤ 24 := by
    rcases e3 with ⟨z1, z2⟩ | ⟨_, z2, z3⟩
    · rw [z1, zm]; omega
    · have := a12 z2; omega
  have m24 : ∀ s, s < 64 → 0 ≤ M s ∧ M s ≤ 24 := B0.2.2.2.2
  have t24 : ∀ s, s < 64 → 0 ≤ tg s ∧ tg s ≤ 24 := fun s hs => by
    by_cases z : s = t
    · rw [z, tgt]; exact x3r
    · rw [tgo s z]; exact m24 s hs
  have g0 : ∀ s, 0 ≤ tg s := fun s => by
    by_cases z : s = t
    · rw [z, tgt]; exact x3r.1
    · rw [tgo s z]; exact M0 s
  have kh := S.1.1.1 _ k0
  have kh0 := dk_self kh
  have s6 := dk_610 kh
  have Bh := gbb_f w6 k0 S.1.1 S.1.2 B0
  have t63 := e63f kh
  unfold sX0_takeBackTaking at e
  replace e := ce_e (dk_e (a := 62) (f := 3) (b := 63) kh (by decide +kernel)) e
  obtain ⟨h2, e2', e⟩ := cl_s e
  obtain ⟨dk2, F2, mr, f, Eg, R2⟩ := gat_k (b := n + 63) (M := M) (tg := tg) kh0 (t63 (0, 1) (by decide)) (t63 (1, 2) (by decide)) (fun i z => by unfold WRo at z; omega) (by omega) Bh.2.1 Bh.2.2.1 m24 t24 (by omega) (fun s hs ms => ⟨fun z => by rw [show s = t by omega]; exact tgt, fun z => tgo s (fun w => z (by rw [w]; exact e1))⟩) (fun s hs ms => by
    have := M0 s
    rw [tgo s (fun w => ms (by rw [w]; exact mt))]
    omega) (by omega) e2'
  have mr4 : mr ≤ 4 := by rw [enu_n Eg]; exact c4
  have V : RwV mr f := fun i hi => by
    obtain ⟨s, s64, b1, b2⟩ := Eg.2.1 i hi
    have := t24 s s64
    omega
  have gq : ∀ i, i < mr → (f i % 64).toNat < q := fun i hi => by
    obtain ⟨s, s64, b1, b2⟩ := Eg.2.1 i hi
    have ms : 0 < M s := by
      by_cases z : s = t
      · rw [z]; exact mt
      · rw [← tgo s z]; exact b1
    have := ((HM s s64).2 ms).1
    omega
  have S2 := gbs_f TI k0 S dk2 F2
  have k2 := S2.1.1.1 _ k0
  have B2 := gbb_f w6 k0 S2.1.1 S2.1.2 B0
  obtain ⟨⟨C2, Fc2, So2, Pw2, Fb2⟩, Po2⟩ := id B2
  obtain ⟨o3, e3', e⟩ := cl_s e
  obtain ⟨p3, K3⟩ := kor_k k2 (by omega) R2 V e3'
  rw [p3] at e
  obtain ⟨o4, e4', e⟩ := cl_s e
  have r2 : Rg 0 23 x2 := ⟨by omega, by omega⟩
  obtain ⟨p4, pw, pwm, pwa, pwb, K4⟩ := wi_r K3 mr4 r2 e4'
  rw [p4] at e
  obtain ⟨y, hy⟩ : ∃ y, y = x2.toInt + 1 := ⟨_, rfl⟩
  rw [← hy] at pwa pwb K4
  have ey : y = cdV (m : Int) (d : Int) := by unfold cdV; omega
  have y0 : 0 < y := by omega
  have brd : ∀ s, (cdP (ndZ M d) (s, t, m, a)).1 = updM tg s y := fun s => by rw [htg, ey]; rfl
  have sz : ∀ s, s < 64 → M s = 0 → tg s = 0 := fun s hs z => by rw [tgo s (fun w => by rw [w] at z; omega)]; exact z
  obtain ⟨o5, e5', e⟩ := cl_s e
  obtain ⟨p5, fs⟩ := fis_k k2 So2 Fc2 e5'
  have fnd : ∀ s k num, s < 64 → M s = 0 → NdO N nk rk q (updM tg s y) k num → hI h2 (n + 69) k = o4.1 := fun s k num s64 s0 O => by
    obtain ⟨z1, z2⟩ := stw_r q0 q64 Fm Eg s64 (sz s s64 s0) y0 pwm pwa pwb O
    have Kk := (Fc2.2.1 k O.1).1
    rw [z1] at Kk
    exact key_x (key_e (by omega) Kk z2) K4
  rcases br_s e with ⟨c5, e⟩ | ⟨c5, e⟩
  · rw [so_e e, p5]
    refine gbs_w S2 (fun c tc => ⟨fun z => Or.inl z, fun z => ?_⟩)
    rcases z with z | ⟨z1, z2, z3⟩
    · exact z
    · exfalso
      obtain ⟨⟨O, _⟩, _, _, k, num, No⟩ := tc
      obtain ⟨cs, ct, cm, ca⟩ := c
      have z1 : ct = t := z1
      have z2 : cm = m := z2
      have z3 : ca = a := z3
      subst z1
      subst z2
      subst z3
      rw [brd] at No
      have w := fnd cs k num O.1.1 O.1.2.2 No
      rcases fs with ⟨_, fs⟩ | ⟨k', _, fs, _⟩
      · exact fs k No.1 w
      · rw [c5, zm] at fs; omega
  rcases fs with ⟨fs, _⟩ | ⟨kk, kN, vk, ek⟩
  · exact absurd fs c5
  rw [p5] at e
  have n5 : o5.1.toNatClampNeg = kk := by have := nc_i (x := o5.1) (by omega); omega
  have Kk := (Fc2.2.1 kk kN).1
  rw [ek] at Kk
  obtain ⟨nn, rkk⟩ := key_u Kk K4
  replace e := ce_e (dk_e (a := 62) (f := 5) (b := 70) k2 (by decide +kernel)) e
  replace e := gg_e e
  obtain ⟨v9, w9, e⟩ := nm_s e
  rw [n5] at w9
  have sbk : sb kk ≤ 600000 := Nat.le_trans (sbc_m Fc2 (Nat.le_of_lt kN) (Nat.le_refl _)) Fc2.2.2.2.2
  have y9 : v9.toInt = ((sb kk + d : Nat) : Int) := by
    have a1 : (x2 &&& (1 : Int32)).toInt = (d : Int) := by rw [and1_i (by omega), e2]; omega
    have a2 := Fc2.2.2.1 kk (by omega)
    rw [w9, ta (by rw [a1, a2]; omega), a1, a2]; omega
  obtain ⟨o10, e10, e⟩ := cl_s e
  have ex : (x2 <<< ((6 : Int32) &&& 31)).toInt = 64 * y - 64 := by
    have : (x2 <<< ((6 : Int32) &&& 31)).toInt = x2.toInt * ((2 ^ 6 : Nat) : Int) := shl_i (m := 6) rfl (by omega) (by omega)
    rw [this]; omega
  have num10 : ∀ p0, p0 ≤ mr → (∀ i, i < p0 → f i ≤ 64 * y) → (∀ i, p0 ≤ i → i < mr → 64 * y < f i) → o10.2 = h2 ∧ o10.1.toInt = (nmV q (fun i => (inFx f p0 (64 * y) i % 64).toNat) (mr + 1) : Int) := fun p0 h1 ha hb => num_k k2 Pw2 q0 q64 R2 V mr4 ex (by omega) h1 ha hb (fun i hi => by
    rcases (ins_r (f := f) (x := 64 * y) h1).1 i hi with z | ⟨j, hj, z⟩
    · rw [z]; omega
    · rw [z]; exact gq j hj) e10
  have p10 : o10.2 = h2 := by
    obtain ⟨p0, h1, ha, hb⟩ := ins_p Eg.1 (64 * y)
    exact (num10 p0 h1 ha hb).1
  rw [p10] at e
  obtain ⟨o11, e11, e⟩ := cl_s e
  obtain ⟨p11, wt⟩ := wei_k (y := y) k2 Pw2 R2 (by omega) Eg.1 (by omega) e11
  rw [p11] at e
  replace e := ce_e (dk_e (a := 62) (f := 1) (b := 22) k2 (by decide +kernel)) e
  -- what each square counts
  have num : ∀ (s : Nat) (u : Hp) (w : Int32), s < 64 → (s : Int) < L 0 0 * L 1 0 → M s = 0 → DyK n u u → GbB n u L N nk rk sb q M → RwE n u mr f → w.toInt = (s : Int) → (o11.1 ≤ 0 → ∀ v, sX0_numberOf F u (n + 62) ((x2 <<< ((6 : Int32) &&& 31)) ||| w) = some v → v.2 = u ∧ ∃ nu, NdO N nk rk q (cdP (ndZ M d) (s, t, m, a)).1 kk nu ∧ v.1.toInt = (nu : Int)) ∧ (¬ o11.1 ≤ 0 → ∃ nu, NdO N nk rk q (cdP (ndZ M d) (s, t, m, a)).1 kk nu ∧ (o10.1 + (w * o11.1)).toInt = (nu : Int)) := fun s u w s64 sL s0 ku Bu Ru ew => by
    have sq : s < q := by omega
    have tz := sz s s64 s0
    rw [brd]
    have rowk : ∀ p, p ≤ mr → (∀ i, i < p → f i < 64 * y + (s : Int)) → (∀ i, p ≤ i → i < mr → 64 * y + (s : Int) < f i) → ∀ i, i < mr + 1 → inFx f p (64 * y + (s : Int)) i / 64 = rk kk i := fun p h1 ha hb i hi => by
      rw [row_eq Eg.1 h1 ha hb s64 pwm pwa pwb i hi, rkk i (by omega)]
    constructor
    · intro _ v ev
      obtain ⟨p, pm, pa, pb⟩ := ins_x Eg.1 (enu_ni (y := y) Eg s64 tz)
      obtain ⟨N1, N2⟩ := stw_n q0 Fm Eg s64 sq tz y0 g0 gq pm pa pb kN nn (rowk p pm pa pb)
      have em : ((x2 <<< ((6 : Int32) &&& 31)) ||| w).toInt = (64 * y + (s : Int)) - 64 := by
        rw [Int32.or_comm, or_i (x := w) (y := x2 <<< ((6 : Int32) &&& 31)) (m := 6) (z := y - 1) (by omega) (by omega) (by omega) (by rw [ex]; omega) (by rw [ex]; omega), ex]
        omega
      obtain ⟨v1, v2⟩ := num_k ku Bu.1.2.2.2.1 q0 q64 Ru V mr4 em (by omega) pm (fun i hi => Int.le_of_lt (pa i hi)) pb N2 ev
      exact ⟨v1, _, N1, v2⟩
    · intro n7
      rcases wt with ⟨z, _⟩ | ⟨pq, h1, hq, ha, hb⟩
      · rw [z] at n7; exact absurd (by decide) n7
      · have pa : ∀ i, i < pq → f i < 64 * y + (s : Int) := fun i hi => by have := ha i hi; omega
        have pb : ∀ i, pq ≤ i → i < mr → 64 * y + (s : Int) < f i := fun i hi hm => by have := hb i hi hm; omega
        obtain ⟨N1, N2⟩ := stw_n q0 Fm Eg s64 sq tz y0 g0 gq h1 pa pb kN nn (rowk pq h1 pa pb)
        refine ⟨_, N1, ?_⟩
        obtain ⟨_, v10⟩ := num10 pq h1 (fun i hi => by have := ha i hi; omega) (fun i hi hm => by have := hb i hi hm; omega)
        have st := nmv_p (q := q) (p := pq) (s := s) (d := fun i => (inFx f pq (64 * y) i % 64).toNat) (d' := fun i => (inFx f pq (64 * y + (s : Int)) i % 64).toNat) (by
          show (inFx f pq (64 * y) pq % 64).toNat = 0
          unfold inFx
          rw [if_neg (Nat.lt_irrefl _), if_pos rfl]; omega) (by
          show (inFx f pq (64 * y + (s : Int)) pq % 64).toNat = s
          unfold inFx
          rw [if_neg (Nat.lt_irrefl _), if_pos rfl]; omega) (fun i hi => by
          show (inFx f pq (64 * y + (s : Int)) i % 64).toNat = (inFx f pq (64 * y) i % 64).toNat
          unfold inFx
          by_cases c : i < pq
          · rw [if_pos c, if_pos c]
          · rw [if_neg c, if_neg c, if_neg hi, if_neg hi]) (mr + 1) (by omega)
        have bd := nmv_lt q0 (mr + 1) (s := fun i => (inFx f pq (64 * y + (s : Int)) i % 64).toNat) N2
        have b30 := pow_30 (j := mr + 1) q64 (by omega)
        have mw : (w * o11.1).toInt = ((s * q ^ pq : Nat) : Int) := by
          have c : w.toInt * o11.1.toInt = ((s * q ^ pq : Nat) : Int) := by rw [ew, hq]; exact (Int.natCast_mul _ _).symm
          rw [tm (by rw [c]; omega), c]
        rw [ta (by rw [v10, mw]; omega), v10, mw, st]
        omega
  have go : ∀ {t0 : Int32}, (if t0 = 0 then 1 else 0 : Nat) = (if a = 15 then 1 else 0) → sX0_takeBackTaking_77 F h2 (n + 62) x2 x3 v9 o10.1 o11.1 t0 x1 x2 (n + 22) = some o → GbS n L N nk rk q M d wA lA qA I A h0 (fun c => Pr c ∨ (c.2.1 = t ∧ c.2.2.1 = m ∧ c.2.2.2 = a)) o := fun {t0} et e => by
    unfold sX0_takeBackTaking_77 at e
    replace e := ce_e (dk_e (a := 62) (f := 3) (b := 63) k2 (by decide +kernel)) e
    obtain ⟨ob, eb, e⟩ := cl_s e
    obtain ⟨q1, bits⟩ := occ_w (M := M) ((e63f k2) (1, 2) (by decide)) Po2.2.1 eb
    rw [q1] at e
    obtain ⟨oo, eo, e⟩ := cl_s e
    obtain ⟨r1, r2⟩ := or_c (V := vK n 0 0 0 0 0 0) (M := M) (c := 2 * m + d) (t := t) OK.1 C2.1.2.1 C2.1.2.2.1 Fb2 bits (by omega) tt (by omega) e1 eo
    rw [r1] at e
    have cd2 : (2 * m + d) / 2 = m := by omega
    have cm2 : (2 * m + d) % 2 = d := by omega
    have r2' : ∀ s, s < 64 → (bitJ oo.1 s = true ↔ ((s : Int) < L 0 0 * L 1 0 ∧ ¬ 0 < M s ∧ BfW L (ndZ M d) s t m a)) := fun s hs => by
      rw [r2 s hs, et]
      unfold OrS BfW
      rw [cd2, cm2]
      exact Iff.rfl
    refine tbt_92 (Pr := Pr) (kk := kk) (mr := mr) (f := f) (x6 := o10.1) (x7 := o11.1) TI E k0 w6 B0 d2 kN y9 bo Aa nr (by
      rcases e3 with z | z
      · exact Or.inl z
      · exact Or.inr ⟨z.1, z.2.1⟩) np num F R2 (gbs_w S2 (fun c tc => ⟨fun z => Or.inl z, fun z => ?_⟩)) (fun s hs b => ?_) (by decide) (fun s _ ls => by have : (0 : Int32).toInt = 0 := rfl; omega) e
    · rcases z with z | ⟨z1, z2, z3, z4⟩
      · exact z
      · have cs := tc.1.1.1
        refine absurd ⟨cs.1, (r2' _ cs.1).mpr ⟨cs.2.1, ?_, ?_⟩⟩ z4
        · have : M c.1 = 0 := cs.2.2
          omega
        · have w := tc.2.2.1
          rw [z1, z2, z3] at w
          exact w
    · obtain ⟨b1, b2, b3⟩ := (r2' s hs).mp b
      have := M0 s
      exact ⟨b1, by omega, b3⟩
  rcases br_s e with ⟨c6, e⟩ | ⟨c6, e⟩
  · rcases e3 with ⟨_, z⟩ | ⟨z, _⟩
    · exact go (by rw [if_pos rfl, if_pos z]) e
    · exact absurd c6 z
  · rcases e3 with ⟨z, _⟩ | ⟨_, z, _⟩
    · exact absurd z c6
    · exact go (by rw [if_neg (by decide), if_neg z]) e
end
end
