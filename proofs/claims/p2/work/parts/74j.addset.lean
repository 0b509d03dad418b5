/-! sets are added -/
theorem t64 {z : Int} (h1 : -9223372036854775808 ≤ z) (h2 : z ≤ 9223372036854775807) : (Int64.ofInt z).toInt = z := by
  rw [Int64.toInt_ofInt]
  exact Int.bmod_eq_of_le (by show -(((2 ^ 64 : Nat) : Int) / 2) ≤ z; omega) (by show z < (((2 ^ 64 : Nat) : Int) + 1) / 2; omega)
theorem tm64 {x y : Int64} (h1 : -9223372036854775808 ≤ x.toInt * y.toInt) (h2 : x.toInt * y.toInt ≤ 9223372036854775807) : (x * y).toInt = x.toInt * y.toInt := by
  have ex : x = Int64.ofInt x.toInt := (Int64.ofInt_toInt x).symm
  have ey : y = Int64.ofInt y.toInt := (Int64.ofInt_toInt y).symm
  rw [ex, ey, ← Int64.ofInt_mul, t64 h1 h2, ← ex, ← ey]
theorem ta64 {x y : Int64} (h1 : -9223372036854775808 ≤ x.toInt + y.toInt) (h2 : x.toInt + y.toInt ≤ 9223372036854775807) : (x + y).toInt = x.toInt + y.toInt := by
  have ex : x = Int64.ofInt x.toInt := (Int64.ofInt_toInt x).symm
  have ey : y = Int64.ofInt y.toInt := (Int64.ofInt_toInt y).symm
  rw [ex, ey, ← Int64.ofInt_add, t64 h1 h2, ← ex, ← ey]
theorem cmp_le {a b : Int64} (h : ¬ 0 < lg_cmp a b) : a.toInt ≤ b.toInt := by
  unfold lg_cmp at h
  by_cases q : a > b
  · rw [if_pos q] at h; exact absurd (by decide) h
  · have : ¬ b < a := q
    rw [Int64.lt_iff_toInt_lt] at this
    omega
theorem t6432 {x : Int64} (h1 : 0 ≤ x.toInt) (h2 : x.toInt ≤ 600000) : x.toInt32.toInt = x.toInt := by
  rw [Int64.toInt_toInt32]
  exact Int.bmod_eq_of_le (by show -(((2 ^ 32 : Nat) : Int) / 2) ≤ _; omega) (by show _ < (((2 ^ 32 : Nat) : Int) + 1) / 2; omega)
theorem pow_sq {s : Int} (a : 0 ≤ s) (b : s ≤ 64) : ∀ n, n ≤ 5 → 0 ≤ s ^ n ∧ s ^ n ≤ 1073741824 := by
  have st : ∀ n (m : Int), 0 ≤ s ^ n ∧ s ^ n ≤ m → 0 ≤ s ^ (n + 1) ∧ s ^ (n + 1) ≤ m * 64 := fun n m ⟨p, q⟩ => by
    rw [Int.pow_succ]
    exact ⟨Int.mul_nonneg p a, Int.mul_le_mul q b a (by omega)⟩
  have p0 : 0 ≤ s ^ 0 ∧ s ^ 0 ≤ 1 := by rw [Int.pow_zero]; omega
  have p1 := st 0 1 p0
  have p2 := st 1 64 p1
  have p3 := st 2 4096 p2
  have p4 := st 3 262144 p3
  have p5 := st 4 16777216 p4
  intro n hn
  rcases (by omega : n = 0 ∨ n = 1 ∨ n = 2 ∨ n = 3 ∨ n = 4 ∨ n = 5) with rfl | rfl | rfl | rfl | rfl | rfl
  · exact ⟨p0.1, Int.le_trans p0.2 (by decide)⟩
  · exact ⟨p1.1, Int.le_trans p1.2 (by decide)⟩
  · exact ⟨p2.1, Int.le_trans p2.2 (by decide)⟩
  · exact ⟨p3.1, Int.le_trans p3.2 (by decide)⟩
  · exact ⟨p4.1, Int.le_trans p4.2 (by decide)⟩
  · exact ⟨p5.1, Int.le_trans p5.2 (by decide)⟩
def S1 (x0 : Nat) (h : Hp) : Prop := ∀ r, hR h x0 56 = some r → (uC h r 16384 : Int) ≤ (hI h x0 49).toInt
def S2 (x0 : Nat) (h : Hp) : Prop := 0 ≤ (hJ h x0 59).toInt ∧ (hJ h x0 59).toInt ≤ 600000
def S3 (x0 : Nat) (h : Hp) : Prop := ∀ rm rb, hR h x0 46 = some rm → hR h x0 48 = some rb → ∀ k : Nat, (k : Int) < (hI h x0 49).toInt → (hI h rb k).toInt + 2 * (hI h x0 13).toInt ^ (hI h rm k).toNatClampNeg ≤ (hJ h x0 59).toInt
def S4 (x0 : Nat) (h : Hp) : Prop := ∀ rs rk rm re, hR h x0 56 = some rs → hR h x0 55 = some rk → hR h x0 46 = some rm → hR h x0 47 = some re → ∀ j, j < 16384 → 0 < (hI h rs j).toInt → (hI h rs j).toInt ≤ (hI h x0 49).toInt ∧ hI h rk j = pkN h re (5 * ((hI h rs j).toInt.toNat - 1)) (hI h rm ((hI h rs j).toInt.toNat - 1)) (hI h rm ((hI h rs j).toInt.toNat - 1)).toNatClampNeg
/-- nobody is missing from a set -/
def S5 (x0 : Nat) (h : Hp) : Prop := ∀ rm re, hR h x0 46 = some rm → hR h x0 47 = some re → ∀ k : Nat, (k : Int) < (hI h x0 49).toInt → ∀ i, i < (hI h rm k).toNatClampNeg → 1 ≤ (hI h re (5 * k + i)).toInt
/-- the states of one set lie before those of the next -/
def S6 (x0 : Nat) (h : Hp) : Prop := ∀ rm rb, hR h x0 46 = some rm → hR h x0 48 = some rb → ∀ k : Nat, (k : Int) + 1 < (hI h x0 49).toInt → (hI h rb k).toInt + 2 * (hI h x0 13).toInt ^ (hI h rm k).toNatClampNeg ≤ (hI h rb (k + 1)).toInt
def SE (x0 : Nat) (h : Hp) : Prop := S1 x0 h ∧ S2 x0 h ∧ S3 x0 h ∧ S4 x0 h ∧ S5 x0 h ∧ S6 x0 h
/-- where no set is yet -/
theorem se_init {x0 : Nat} {h : Hp} (e49 : (hI h x0 49).toInt = 0) (e59 : (hJ h x0 59).toInt = 0) (z : ∀ r, hR h x0 56 = some r → ∀ j, j < 16384 → (hI h r j).toInt ≤ 0) : SE x0 h := by
  refine ⟨fun r er => ?_, ⟨by omega, by omega⟩, fun rm rb _ _ k hk => by omega, fun rs rk rm re es _ _ _ j hj hp => by have := z rs es j hj; omega, fun rm re _ _ k hk => by omega, fun rm rb _ _ k hk => by omega⟩
  have u : ∀ n, n ≤ 16384 → uC h r n = 0 := fun n => by
    induction n with
    | zero => intro _; rfl
    | succ n ih =>
      intro hn
      show uC h r n + (if 0 < (hI h r n).toInt then 1 else 0) = 0
      rw [ih (by omega), if_neg (by have := z r er n (by omega); omega)]
  rw [u 16384 (Nat.le_refl _)]
  omega
/-- nobody is missing from the row -/
def RW (x0 : Nat) (n : Int) (h : Hp) : Prop := ∀ ro, hR h x0 57 = some ro → ∀ i : Nat, (i : Int) < n → 1 ≤ (hI h ro i).toInt
section
variable {ρ : Nat → Nat} {c : Cm} {h o : Hp} {S : Nat → Nat → Nat → Bool} {x0 a F r4 r : Nat} {n0 : Int} {x1 x2 x3 x4 : Int32}
/-- what is read of the sets -/
theorem se_of (e : ∀ i, hR o x0 i = hR h x0 i) (e13 : hI o x0 13 = hI h x0 13) (e49 : hI o x0 49 = hI h x0 49) (e59 : hJ o x0 59 = hJ h x0 59)
    (am : ∀ r, hR h x0 46 = some r → ∀ k : Nat, (k : Int) < (hI h x0 49).toInt → hI o r k = hI h r k) (ab : ∀ r, hR h x0 48 = some r → ∀ k : Nat, (k : Int) < (hI h x0 49).toInt → hI o r k = hI h r k) (ae : ∀ r, hR h x0 47 = some r → ∀ k : Nat, (k : Int) < 5 * (hI h x0 49).toInt → hI o r k = hI h r k)
    (ak : ∀ r, hR h x0 55 = some r → ∀ k, hI o r k = hI h r k) (as : ∀ r, hR h x0 56 = some r → ∀ k, hI o r k = hI h r k) (m5 : ∀ r, hR h x0 46 = some r → ∀ k, (hI h r k).toNatClampNeg ≤ 5) (P : SE x0 h) : SE x0 o := by
  obtain ⟨p1, p2, p3, p4, p5, p6⟩ := P
  refine ⟨fun r er => ?_, ?_, fun rm rb em eb k hk => ?_, fun rs rk rm re es ek em ee j hj hp => ?_, fun rm re em ee k hk i hi => ?_, fun rm rb em eb k hk => ?_⟩
  · rw [e] at er
    rw [e49, uC_eq 16384 (fun j _ => as r er j)]
    exact p1 r er
  · unfold S2; rw [e59]; exact p2
  · rw [e] at em eb
    rw [e49] at hk
    rw [e13, e59, am rm em k hk, ab rb eb k hk]
    exact p3 rm rb em eb k hk
  · rw [e] at es ek em ee
    rw [as rs es j] at hp ⊢
    rw [ak rk ek j, e49]
    obtain ⟨q1, q2⟩ := p4 rs rk rm re es ek em ee j hj hp
    have lt : (((hI h rs j).toInt.toNat - 1 : Nat) : Int) < (hI h x0 49).toInt := by omega
    refine ⟨q1, ?_⟩
    rw [q2, am rm em _ lt]
    refine (pkN_eq _ (fun i hi => ?_)).symm
    have := m5 rm em ((hI h rs j).toInt.toNat - 1)
    exact ae re ee _ (by omega)
  · rw [e] at em ee
    rw [e49] at hk
    rw [am rm em k hk] at hi
    have := m5 rm em k
    rw [ae re ee (5 * k + i) (by omega)]
    exact p5 rm re em ee k hk i hi
  · rw [e] at em eb
    rw [e49] at hk
    rw [e13, am rm em k (by omega), ab rb eb k (by omega), ab rb eb (k + 1) (by omega)]
    exact p6 rm rb em eb k hk
theorem m5_of (T : TH ρ c h) (r0 : ρ x0 = 16) : ∀ r, hR h x0 46 = some r → ∀ k, (hI h r k).toNatClampNeg ≤ 5 := fun r er k => by
  have qr : ρ r = 99 := rr T (thR T r0 (i := 46) (k2 := 99) rfl (by decide)) er
  exact rg_clamp (thI T qr (k := 99) (i := k) (lo := 0) (hi := 5) rfl) (by decide)
/-- writes of the row leave the sets alone -/
theorem se_108 (T : TH ρ c h) (r0 : ρ x0 = 16) (f : Fr ρ (cat c (fS [(108, 999)] []) h) h o) (P : SE x0 h) : SE x0 o := by
  have g : ∀ {i k2 r k : Nat}, rfK 16 i = k2 → k2 ≠ 0 → mS [(108, 999)] k2 k = false → hR h x0 i = some r → hI o r k = hI h r k := fun {i k2 r k} e1 e2 e3 er => (fr_RI f (rr T (thR T r0 (i := i) (k2 := k2) e1 e2) er) e2 (fun _ => fs_nf e3)).1
  exact se_of (fun i => (fr_RI f r0 (by decide) (fun _ => rfl)).2.2) (fr_RI f r0 (by decide) (fun _ => rfl)).1 (fr_RI f r0 (by decide) (fun _ => rfl)).1 (fr_RI f r0 (by decide) (fun _ => rfl)).2.1 (fun r er k _ => g (i := 46) (k2 := 99) rfl (by decide) rfl er) (fun r er k _ => g (i := 48) (k2 := 101) rfl (by decide) rfl er) (fun r er k _ => g (i := 47) (k2 := 100) rfl (by decide) rfl er) (fun r er k => g (i := 55) (k2 := 106) rfl (by decide) rfl er) (fun r er k => g (i := 56) (k2 := 107) rfl (by decide) rfl er) (m5_of T r0) P
/-- a set is being written down -/
def PD (x0 : Nat) (n0 : Int) (x1 : Int32) (m : Int) (h : Hp) : Prop := SE x0 h ∧ (hI h x0 49).toInt = n0 ∧ (hJ h x0 59).toInt + 2 * (hI h x0 13).toInt ^ x1.toNatClampNeg ≤ 600000 ∧ (∀ r, hR h x0 46 = some r → hI h r n0.toNat = x1) ∧ (∀ r, hR h x0 48 = some r → (hI h r n0.toNat).toInt = (hJ h x0 59).toInt) ∧ (∀ re ro, hR h x0 47 = some re → hR h x0 57 = some ro → ∀ i : Nat, (i : Int) < m → hI h re (5 * n0.toNat + i) = hI h ro i) ∧ RW x0 x1.toInt h
end
