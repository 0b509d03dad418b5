section
/-! endings of the reference: sets and their slots -/
theorem and14 {x : Int32} (i : Rg 0 16384 x) : (x &&& (16383 : Int32)).toInt = x.toInt % 16384 := by
  obtain ⟨j, ej, tj, hj⟩ := rg_nI i (Int.le_refl 0)
  have ek : (16383 : Int32) = nI 16383 := rfl
  have hz : ∀ i, i < 2 ^ 31 → (nI i).toBitVec.toNat = i := fun i hi => by
    show (BitVec.ofNat 32 i).toNat = i
    rw [BitVec.toNat_ofNat]
    exact Nat.mod_eq_of_lt (by omega)
  have m : j &&& 16383 = j % 16384 := Nat.and_two_pow_sub_one_eq_mod j 14
  have eo : x &&& (16383 : Int32) = nI (j % 16384) := by
    rw [ej, ek]
    apply Int32.toBitVec_inj.mp
    apply BitVec.eq_of_toNat_eq
    show ((nI j).toBitVec &&& (nI 16383).toBitVec).toNat = (nI (j % 16384)).toBitVec.toNat
    rw [BitVec.toNat_and, hz j hj, hz 16383 (by decide), hz _ (by omega), m]
  rw [eo, z_toInt (by omega), tj]
  omega
theorem ush18 (z : Int32) : Rg 0 16383 ((z.toUInt32 >>> ((18 : Int32).toUInt32 &&& Int32.toUInt32 31)).toInt32) := by
  have h := Jvm.RoadKit.c_iushr z (18 : Int32) 18 rfl (by decide)
  have e : ((18 : Int32).toUInt32 &&& Int32.toUInt32 31) = ((18 : Int32) &&& 31).toUInt32 := rfl
  rw [e]
  unfold Rg
  rw [h]
  have : ((2 ^ 18 : Nat) : Int) = 262144 := rfl
  rw [this]
  have := Int.emod_nonneg z.toInt (show (4294967296 : Int) ≠ 0 by decide)
  have := Int.emod_lt_of_pos z.toInt (show (0 : Int) < 4294967296 by decide)
  omega
/-- how many slots are used -/
def uC (h : Hp) (r : Nat) : Nat → Nat
  | 0 => 0
  | n + 1 => uC h r n + if 0 < (hI h r n).toInt then 1 else 0
theorem uC_free {h : Hp} {r : Nat} : ∀ n, uC h r n < n → ∃ k, k < n ∧ (hI h r k).toInt ≤ 0 := by
  intro n
  induction n with
  | zero => intro h; omega
  | succ n ih =>
    intro q
    by_cases z : 0 < (hI h r n).toInt
    · have e : uC h r (n + 1) = uC h r n + 1 := by show uC h r n + (if 0 < (hI h r n).toInt then 1 else 0) = _; rw [if_pos z]
      obtain ⟨k, k1, k2⟩ := ih (by omega)
      exact ⟨k, by omega, k2⟩
    · exact ⟨n, by omega, by omega⟩
theorem uC_eq {h o : Hp} {r : Nat} : ∀ n, (∀ j, j < n → hI o r j = hI h r j) → uC o r n = uC h r n := by
  intro n
  induction n with
  | zero => intro _; rfl
  | succ n ih =>
    intro q
    show uC o r n + (if 0 < (hI o r n).toInt then 1 else 0) = uC h r n + (if 0 < (hI h r n).toInt then 1 else 0)
    rw [ih (fun j hj => q j (by omega)), q n (by omega)]
theorem uC_w {h o : Hp} {r j : Nat} {v : Int32} (e : o = wI h r j v) : ∀ n, uC o r n ≤ uC h r n + if j < n then 1 else 0 := by
  intro n
  induction n with
  | zero => exact Nat.zero_le _
  | succ n ih =>
    show uC o r n + (if 0 < (hI o r n).toInt then 1 else 0) ≤ (uC h r n + (if 0 < (hI h r n).toInt then 1 else 0)) + _
    by_cases z : n = j
    · subst z
      rw [if_neg (show ¬ n < n by omega)] at ih
      rw [if_pos (show n < n + 1 by omega)]
      split <;> split <;> omega
    · have : hI o r n = hI h r n := by rw [e, r_I, if_neg (fun y => z y.2)]
      rw [this]
      by_cases q : j < n
      · rw [if_pos q] at ih
        rw [if_pos (show j < n + 1 by omega)]; omega
      · rw [if_neg q] at ih
        rw [if_neg (show ¬ j < n + 1 by omega)]; omega
/-- the key of a row of men -/
def pkN (h : Hp) (a p : Nat) (x : Int32) : Nat → Int32
  | 0 => x
  | i + 1 => ((pkN h a p x i) <<< ((5 : Int32) &&& 31)) ||| (hI h a (p + i))
theorem pkN_eq {h o : Hp} {a b p q : Nat} {x : Int32} : ∀ n, (∀ i, i < n → hI o b (q + i) = hI h a (p + i)) → pkN o b q x n = pkN h a p x n := by
  intro n
  induction n with
  | zero => intro _; rfl
  | succ n ih =>
    intro z
    show ((pkN o b q x n) <<< ((5 : Int32) &&& 31)) ||| (hI o b (q + n)) = ((pkN h a p x n) <<< ((5 : Int32) &&& 31)) ||| (hI h a (p + n))
    rw [ih (fun i hi => z i (by omega)), z n (by omega)]
section
variable {ρ : Nat → Nat} {c : Cm} {h o : Hp} {x0 a F r4 r : Nat} {x1 x2 x3 : Int32}
theorem pkn_loop (hn : hN h a = 6) (i1 : Rg 0 6 x1) : ∀ (f : Nat) {x2 x3 : Int32}, 0 ≤ x3.toInt → x3.toInt ≤ x1.toInt → x2 = pkN h a 0 x1 x3.toNatClampNeg → (7 - x3.toInt).toNat < f → Sat (sX15_packed_4 F f h a x1 x2 x3) (fun o => o.2 = h ∧ o.1 = pkN h a 0 x1 x1.toNatClampNeg) := by
  intro f
  induction f with
  | zero => intros; omega
  | succ f ih =>
    intro x2 x3 a3 b3 e2 hf
    rw [sX15_packed_4]
    have b1 := i1.2
    refine s_br (fun l1 => ?_) (fun n1 => ?_)
    · have l3 := le_i l1
      have : x3.toNatClampNeg = x1.toNatClampNeg := by have := clamp_i a3; have := clamp_i i1.1; omega
      exact s_some ⟨rfl, by rw [← this]; exact e2⟩
    · have l3 := nle_i n1
      have i3 : Rg 0 5 x3 := ⟨a3, by omega⟩
      refine s_gd (by rw [hn]; exact rg_inB i3 (by decide)) ?_
      refine s_q (fun v ev => ?_)
      refine s_q (fun y ey => ?_)
      have ny := nc_s i3 (by decide)
      have ey2 : y.toInt = x3.toInt + 1 := by rw [ey]; exact ny.2
      have ey3 : y.toNatClampNeg = x3.toNatClampNeg + 1 := by rw [ey]; exact ny.1
      refine ih (by omega) (by omega) ?_ (by omega)
      rw [ey3, ev, e2]
      show _ = ((pkN h a 0 x1 x3.toNatClampNeg) <<< ((5 : Int32) &&& 31)) ||| (hI h a (0 + x3.toNatClampNeg))
      rw [Nat.zero_add]
theorem packed_q (hF : 700000 ≤ F) (hn : hN h a = 6) (i1 : Rg 0 6 x1) : Sat (sX15_packed F h a x1) (fun o => o.2 = h ∧ o.1 = pkN h a 0 x1 x1.toNatClampNeg) := by
  unfold sX15_packed
  have z0 : (0 : Int32).toInt = 0 := rfl
  exact pkn_loop hn i1 F (by decide) (by rw [z0]; exact i1.1) rfl (by rw [z0]; omega)
theorem slot_loop {k0 : Nat} (T : TH ρ c h) (r0 : ρ x0 = 16) (er : hR h x0 56 = some r) (e4 : hR h x0 55 = some r4) (hk : k0 < 16384) (z0 : (hI h r k0).toInt ≤ 0) : ∀ (f : Nat) {x2 : Int32}, Rg 0 16383 x2 → (((k0 : Int) + 16384 - x2.toInt) % 16384).toNat < f → Sat (sX15_slotOf_14 F f h x0 x1 x2) (fun o => o.2 = h ∧ Rg 0 16383 o.1 ∧ ((hI h r o.1.toNatClampNeg).toInt ≤ 0 ∨ hI h r4 o.1.toNatClampNeg = x1)) := by
  have qr : ρ r = 107 := rr T (thR T r0 (i := 56) (k2 := 107) rfl (by decide)) er
  have q4 : ρ r4 = 106 := rr T (thR T r0 (i := 55) (k2 := 106) rfl (by decide)) e4
  intro f
  induction f with
  | zero => intros; omega
  | succ f ih =>
    intro x2 i2 hf
    rw [sX15_slotOf_14]
    unfold sX15_slotOf_44
    have a2 := i2.1
    have b2 := i2.2
    have c2 := clamp_i a2
    refine s_ref er ?_
    refine s_gd (by rw [thN T qr (k := 107) (n := 16384) rfl (by decide)]; exact rg_inB i2 (by decide)) ?_
    refine s_br (fun l => s_some ⟨rfl, i2, Or.inl (le_i l)⟩) (fun n => ?_)
    have n' : 0 < (hI h r x2.toNatClampNeg).toInt := nle_i n
    refine s_ref e4 ?_
    refine s_gd (by rw [thN T q4 (k := 106) (n := 16384) rfl (by decide)]; exact rg_inB i2 (by decide)) ?_
    refine s_br (fun l => s_some ⟨rfl, i2, Or.inr l⟩) (fun _ => ?_)
    refine s_q (fun y ey => ?_)
    have es := (nc_s i2 (by decide)).2
    have ey2 : y.toInt = (x2.toInt + 1) % 16384 := by
      rw [ey, and14 ⟨by omega, by omega⟩, es]
    clear ey
    have ne : x2.toInt ≠ (k0 : Int) := fun z => by
      have : x2.toNatClampNeg = k0 := by omega
      rw [this] at n'
      omega
    exact ih ⟨by omega, by omega⟩ (by omega)
theorem zX15_slotOf (hF : 700000 ≤ F) (T : TH ρ c h) (r0 : ρ x0 = 16) (er : hR h x0 56 = some r) (e4 : hR h x0 55 = some r4) (u : uC h r 16384 < 16384) : Sat (sX15_slotOf F h x0 x1) (fun o => o.2 = h ∧ Rg 0 16383 o.1 ∧ ((hI h r o.1.toNatClampNeg).toInt ≤ 0 ∨ hI h r4 o.1.toNatClampNeg = x1)) := by
  unfold sX15_slotOf
  refine s_q (fun v ev => ?_)
  have iv : Rg 0 16383 v := by rw [ev]; exact ush18 _
  clear ev
  obtain ⟨k0, hk, z0⟩ := uC_free _ u
  exact slot_loop T r0 er e4 hk z0 F iv (by have := iv.1; have := iv.2; omega)
/-- a set is looked up: its number, or -1 -/
theorem zX15_findSet (hF : 700000 ≤ F) (T : TH ρ c h) (r0 : ρ x0 = 16) (ra : ρ a = 108) (i1 : Rg 0 6 x1) (er : hR h x0 56 = some r) (e4 : hR h x0 55 = some r4) (u : uC h r 16384 < 16384) : Sat (sX15_findSet F h x0 a x1) (fun o => o.2 = h ∧ Rg (-1) 4095 o.1 ∧ (¬ o.1 = -1 → ∃ j, j < 16384 ∧ (hI h r j).toInt = o.1.toInt + 1 ∧ 0 < (hI h r j).toInt ∧ hI h r4 j = pkN h a 0 x1 x1.toNatClampNeg)) := by
  unfold sX15_findSet
  refine s_ref er ?_
  refine s_cl (s_imp (packed_q hF (thN T ra (k := 108) (n := 6) rfl (by decide)) i1) (fun o2 ⟨e2, p2⟩ => ?_))
  rw [e2]
  refine s_cl (s_imp (zX15_slotOf hF T r0 er e4 u) (fun o3 ⟨e3, i3, p3⟩ => ?_))
  rw [e3]
  have qr : ρ r = 107 := rr T (thR T r0 (i := 56) (k2 := 107) rfl (by decide)) er
  refine s_gd (by rw [thN T qr (k := 107) (n := 16384) rfl (by decide)]; exact rg_inB i3 (by decide)) ?_
  have iv := thI T qr (k := 107) (i := o3.1.toNatClampNeg) (lo := 0) (hi := 4096) rfl
  have ed := rg_decs iv (by decide)
  have a0 := iv.1
  have b0 := iv.2
  refine s_some ⟨rfl, ⟨by show -1 ≤ ((hI h r o3.1.toNatClampNeg) - (1 : Int32)).toInt; omega, by show ((hI h r o3.1.toNatClampNeg) - (1 : Int32)).toInt ≤ 4095; omega⟩, fun nz => ?_⟩
  have nz' : 0 < (hI h r o3.1.toNatClampNeg).toInt := by
    rcases Int.lt_or_le 0 (hI h r o3.1.toNatClampNeg).toInt with q | q
    · exact q
    · refine absurd ?_ nz
      apply Int32.toInt_inj.mp
      show ((hI h r o3.1.toNatClampNeg) - (1 : Int32)).toInt = -1
      omega
  have l3 : o3.1.toNatClampNeg ≤ 16383 := rg_clamp i3 (by decide)
  refine ⟨o3.1.toNatClampNeg, by omega, ?_, nz', ?_⟩
  · show _ = ((hI h r o3.1.toNatClampNeg) - (1 : Int32)).toInt + 1
    omega
  · rcases p3 with q | q
    · omega
    · rw [q, p2]
end
end
section
/-! sets are added -/
theorem t64 {z : Int} (h1 : -9223372036854775808 ≤ z) (h2 : z ≤ 9223372036854775807) : (Int64.ofInt z).toInt = z := by
  rw [Int64.toInt_ofInt]
  exact Int.bmod_eq_of_le (by show -(((2 ^ 64 : Nat) : Int) / 2) ≤ z; omega) (by show z < (((2 ^ 64 : Nat) : Int) + 1) / 2; omega)
theorem tm64 {x y : Int64} (h1 : -9223372036854775808 ≤ x.toInt * y.toInt) (h2 : x.toInt * y.toInt ≤ 9223372036854775807) : (x * y).toInt = x.toInt * y.toInt := by
  have ex : x = Int64.ofInt x.toInt := (Int64.ofInt_toInt x).symm
  have ey : y = Int64.ofInt y.toInt := (Int64.ofInt_toInt y).symm
  rw [ex, ey, ← Int64.ofInt_mul, t64 h1 h2, ← ex, ← ey]
theorem ta64 {x y : Int64} (h1 : -9223372036854775808 ≤ x.toInt + y.toInt) (h2 : x.toInt + y.toInt ≤ 9223372036854775807) : (x + y).toInt = x.toInt + y.toInt := by
  have ex : x = Int64.ofInt x.toInt := (Int64.ofInt_toInt x).symm
  have ey : y = Int64.ofInt y.toInt := (Int64.ofInt_toInt y).symm
  rw [ex, ey, ← Int64.ofInt_add, t64 h1 h2, ← ex, ← ey]
theorem cmp_le {a b : Int64} (h : ¬ 0 < lg_cmp a b) : a.toInt ≤ b.toInt := by
  unfold lg_cmp at h
  by_cases q : a > b
  · rw [if_pos q] at h; exact absurd (by decide) h
  · have : ¬ b < a := q
    rw [Int64.lt_iff_toInt_lt] at this
    omega
theorem t6432 {x : Int64} (h1 : 0 ≤ x.toInt) (h2 : x.toInt ≤ 600000) : x.toInt32.toInt = x.toInt := by
  rw [Int64.toInt_toInt32]
  exact Int.bmod_eq_of_le (by show -(((2 ^ 32 : Nat) : Int) / 2) ≤ _; omega) (by show _ < (((2 ^ 32 : Nat) : Int) + 1) / 2; omega)
theorem pow_sq {s : Int} (a : 0 ≤ s) (b : s ≤ 64) : ∀ n, n ≤ 5 → 0 ≤ s ^ n ∧ s ^ n ≤ 1073741824 := by
  have st : ∀ n (m : Int), 0 ≤ s ^ n ∧ s ^ n ≤ m → 0 ≤ s ^ (n + 1) ∧ s ^ (n + 1) ≤ m * 64 := fun n m ⟨p, q⟩ => by
    rw [Int.pow_succ]
    exact ⟨Int.mul_nonneg p a, Int.mul_le_mul q b a (by omega)⟩
  have p0 : 0 ≤ s ^ 0 ∧ s ^ 0 ≤ 1 := by rw [Int.pow_zero]; omega
  have p1 := st 0 1 p0
  have p2 := st 1 64 p1
  have p3 := st 2 4096 p2
  have p4 := st 3 262144 p3
  have p5 := st 4 16777216 p4
  intro n hn
  rcases (by omega : n = 0 ∨ n = 1 ∨ n = 2 ∨ n = 3 ∨ n = 4 ∨ n = 5) with rfl | rfl | rfl | rfl | rfl | rfl
  · exact ⟨p0.1, Int.le_trans p0.2 (by decide)⟩
  · exact ⟨p1.1, Int.le_trans p1.2 (by decide)⟩
  · exact ⟨p2.1, Int.le_trans p2.2 (by decide)⟩
  · exact ⟨p3.1, Int.le_trans p3.2 (by decide)⟩
  · exact ⟨p4.1, Int.le_trans p4.2 (by decide)⟩
  · exact ⟨p5.1, Int.le_trans p5.2 (by decide)⟩
def S1 (x0 : Nat) (h : Hp) : Prop := ∀ r, hR h x0 56 = some r → (uC h r 16384 : Int) ≤ (hI h x0 49).toInt
def S2 (x0 : Nat) (h : Hp) : Prop := 0 ≤ (hJ h x0 59).toInt ∧ (hJ h x0 59).toInt ≤ 600000
def S3 (x0 : Nat) (h : Hp) : Prop := ∀ rm rb, hR h x0 46 = some rm → hR h x0 48 = some rb → ∀ k : Nat, (k : Int) < (hI h x0 49).toInt → (hI h rb k).toInt + 2 * (hI h x0 13).toInt ^ (hI h rm k).toNatClampNeg ≤ (hJ h x0 59).toInt
def S4 (x0 : Nat) (h : Hp) : Prop := ∀ rs rk rm re, hR h x0 56 = some rs → hR h x0 55 = some rk → hR h x0 46 = some rm → hR h x0 47 = some re → ∀ j, j < 16384 → 0 < (hI h rs j).toInt → (hI h rs j).toInt ≤ (hI h x0 49).toInt ∧ hI h rk j = pkN h re (5 * ((hI h rs j).toInt.toNat - 1)) (hI h rm ((hI h rs j).toInt.toNat - 1)) (hI h rm ((hI h rs j).toInt.toNat - 1)).toNatClampNeg
/-- nobody is missing from a set -/
def S5 (x0 : Nat) (h : Hp) : Prop := ∀ rm re, hR h x0 46 = some rm → hR h x0 47 = some re → ∀ k : Nat, (k : Int) < (hI h x0 49).toInt → ∀ i, i < (hI h rm k).toNatClampNeg → 1 ≤ (hI h re (5 * k + i)).toInt
/-- the states of one set lie before those of the next -/
def S6 (x0 : Nat) (h : Hp) : Prop := ∀ rm rb, hR h x0 46 = some rm → hR h x0 48 = some rb → ∀ k : Nat, (k : Int) + 1 < (hI h x0 49).toInt → (hI h rb k).toInt + 2 * (hI h x0 13).toInt ^ (hI h rm k).toNatClampNeg ≤ (hI h rb (k + 1)).toInt
def SE (x0 : Nat) (h : Hp) : Prop := S1 x0 h ∧ S2 x0 h ∧ S3 x0 h ∧ S4 x0 h ∧ S5 x0 h ∧ S6 x0 h
/-- where no set is yet -/
theorem se_init {x0 : Nat} {h : Hp} (e49 : (hI h x0 49).toInt = 0) (e59 : (hJ h x0 59).toInt = 0) (z : ∀ r, hR h x0 56 = some r → ∀ j, j < 16384 → (hI h r j).toInt ≤ 0) : SE x0 h := by
  refine ⟨fun r er => ?_, ⟨by omega, by omega⟩, fun rm rb _ _ k hk => by omega, fun rs rk rm re es _ _ _ j hj hp => by have := z rs es j hj; omega, fun rm re _ _ k hk => by omega, fun rm rb _ _ k hk => by omega⟩
  have u : ∀ n, n ≤ 16384 → uC h r n = 0 := fun n => by
    induction n with
    | zero => intro _; rfl
    | succ n ih =>
      intro hn
      show uC h r n + (if 0 < (hI h r n).toInt then 1 else 0) = 0
      rw [ih (by omega), if_neg (by have := z r er n (by omega); omega)]
  rw [u 16384 (Nat.le_refl _)]
  omega
/-- nobody is missing from the row -/
def RW (x0 : Nat) (n : Int) (h : Hp) : Prop := ∀ ro, hR h x0 57 = some ro → ∀ i : Nat, (i : Int) < n → 1 ≤ (hI h ro i).toInt
section
variable {ρ : Nat → Nat} {c : Cm} {h o : Hp} {S : Nat → Nat → Nat → Bool} {x0 a F r4 r : Nat} {n0 : Int} {x1 x2 x3 x4 : Int32}
/-- what is read of the sets -/
theorem se_of (e : ∀ i, hR o x0 i = hR h x0 i) (e13 : hI o x0 13 = hI h x0 13) (e49 : hI o x0 49 = hI h x0 49) (e59 : hJ o x0 59 = hJ h x0 59)
    (am : ∀ r, hR h x0 46 = some r → ∀ k : Nat, (k : Int) < (hI h x0 49).toInt → hI o r k = hI h r k) (ab : ∀ r, hR h x0 48 = some r → ∀ k : Nat, (k : Int) < (hI h x0 49).toInt → hI o r k = hI h r k) (ae : ∀ r, hR h x0 47 = some r → ∀ k : Nat, (k : Int) < 5 * (hI h x0 49).toInt → hI o r k = hI h r k)
    (ak : ∀ r, hR h x0 55 = some r → ∀ k, hI o r k = hI h r k) (as : ∀ r, hR h x0 56 = some r → ∀ k, hI o r k = hI h r k) (m5 : ∀ r, hR h x0 46 = some r → ∀ k, (hI h r k).toNatClampNeg ≤ 5) (P : SE x0 h) : SE x0 o := by
  obtain ⟨p1, p2, p3, p4, p5, p6⟩ := P
  refine ⟨fun r er => ?_, ?_, fun rm rb em eb k hk => ?_, fun rs rk rm re es ek em ee j hj hp => ?_, fun rm re em ee k hk i hi => ?_, fun rm rb em eb k hk => ?_⟩
  · rw [e] at er
    rw [e49, uC_eq 16384 (fun j _ => as r er j)]
    exact p1 r er
  · unfold S2; rw [e59]; exact p2
  · rw [e] at em eb
    rw [e49] at hk
    rw [e13, e59, am rm em k hk, ab rb eb k hk]
    exact p3 rm rb em eb k hk
  · rw [e] at es ek em ee
    rw [as rs es j] at hp ⊢
    rw [ak rk ek j, e49]
    obtain ⟨q1, q2⟩ := p4 rs rk rm re es ek em ee j hj hp
    have lt : (((hI h rs j).toInt.toNat - 1 : Nat) : Int) < (hI h x0 49).toInt := by omega
    refine ⟨q1, ?_⟩
    rw [q2, am rm em _ lt]
    refine (pkN_eq _ (fun i hi => ?_)).symm
    have := m5 rm em ((hI h rs j).toInt.toNat - 1)
    exact ae re ee _ (by omega)
  · rw [e] at em ee
    rw [e49] at hk
    rw [am rm em k hk] at hi
    have := m5 rm em k
    rw [ae re ee (5 * k + i) (by omega)]
    exact p5 rm re em ee k hk i hi
  · rw [e] at em eb
    rw [e49] at hk
    rw [e13, am rm em k (by omega), ab rb eb k (by omega), ab rb eb (k + 1) (by omega)]
    exact p6 rm rb em eb k hk
theorem m5_of (T : TH ρ c h) (r0 : ρ x0 = 16) : ∀ r, hR h x0 46 = some r → ∀ k, (hI h r k).toNatClampNeg ≤ 5 := fun r er k => by
  have qr : ρ r = 99 := rr T (thR T r0 (i := 46) (k2 := 99) rfl (by decide)) er
  exact rg_clamp (thI T qr (k := 99) (i := k) (lo := 0) (hi := 5) rfl) (by decide)
/-- writes of the row leave the sets alone -/
theorem se_108 (T : TH ρ c h) (r0 : ρ x0 = 16) (f : Fr ρ (cat c (fS [(108, 999)] []) h) h o) (P : SE x0 h) : SE x0 o := by
  have g : ∀ {i k2 r k : Nat}, rfK 16 i = k2 → k2 ≠ 0 → mS [(108, 999)] k2 k = false → hR h x0 i = some r → hI o r k = hI h r k := fun {i k2 r k} e1 e2 e3 er => (fr_RI f (rr T (thR T r0 (i := i) (k2 := k2) e1 e2) er) e2 (fun _ => fs_nf e3)).1
  exact se_of (fun i => (fr_RI f r0 (by decide) (fun _ => rfl)).2.2) (fr_RI f r0 (by decide) (fun _ => rfl)).1 (fr_RI f r0 (by decide) (fun _ => rfl)).1 (fr_RI f r0 (by decide) (fun _ => rfl)).2.1 (fun r er k _ => g (i := 46) (k2 := 99) rfl (by decide) rfl er) (fun r er k _ => g (i := 48) (k2 := 101) rfl (by decide) rfl er) (fun r er k _ => g (i := 47) (k2 := 100) rfl (by decide) rfl er) (fun r er k => g (i := 55) (k2 := 106) rfl (by decide) rfl er) (fun r er k => g (i := 56) (k2 := 107) rfl (by decide) rfl er) (m5_of T r0) P
/-- a set is being written down -/
def PD (x0 : Nat) (n0 : Int) (x1 : Int32) (m : Int) (h : Hp) : Prop := SE x0 h ∧ (hI h x0 49).toInt = n0 ∧ (hJ h x0 59).toInt + 2 * (hI h x0 13).toInt ^ x1.toNatClampNeg ≤ 600000 ∧ (∀ r, hR h x0 46 = some r → hI h r n0.toNat = x1) ∧ (∀ r, hR h x0 48 = some r → (hI h r n0.toNat).toInt = (hJ h x0 59).toInt) ∧ (∀ re ro, hR h x0 47 = some re → hR h x0 57 = some ro → ∀ i : Nat, (i : Int) < m → hI h re (5 * n0.toNat + i) = hI h ro i) ∧ RW x0 x1.toInt h
end
end
section
section
variable {ρ : Nat → Nat} {c : Cm} {h o : Hp} {S : Nat → Nat → Nat → Bool} {x0 a F r4 r : Nat} {n0 m : Int} {x1 x2 x3 x4 : Int32} {J : Int64}
abbrev seL : List (Nat × Nat) := [(99, 999), (100, 999), (101, 999), (106, 999), (107, 999), (108, 999), (16, 49), (16, 59)]
/-- the set's slot is found and filled: it counts -/
theorem as_end (hF : 700000 ≤ F) (hA : pmA c seL) (T : TH ρ c h) (r0 : ρ x0 = 16) (i1 : Rg 0 5 x1) (l0 : 0 ≤ n0) (ln : n0 < 4096) (eJ : J.toInt = 2 * (hI h x0 13).toInt ^ x1.toNatClampNeg) (J0 : 0 ≤ J.toInt) (P : PD x0 n0 x1 x1.toInt h) : Sat (nm (wJ h x0 59 ((hJ h x0 59) + J)) fun h_2 => nm (wI h_2 x0 49 ((hI h_2 x0 49) + (1 : Int32))) fun h_3 => cl (hR h_3 x0 57) fun r_4 => cl (sX15_packed F h_3 r_4 x1) fun o_5 => cl (sX15_slotOf F o_5.2 x0 o_5.1) fun o_6 => cl (hR o_6.2 x0 55) fun r_7 => cl (hR o_6.2 x0 57) fun r_8 => cl (sX15_packed F o_6.2 r_8 x1) fun o_9 => gd (inB o_6.1 (hN o_9.2 r_7)) <| nm (wI o_9.2 r_7 o_6.1.toNatClampNeg o_9.1) fun h_11 => cl (hR h_11 x0 56) fun r_12 => gd (inB o_6.1 (hN h_11 r_12)) <| nm (wI h_11 r_12 o_6.1.toNatClampNeg (hI h_11 x0 49)) fun h_14 => some ((1 : Int32), h_14)) (fun o => TH ρ c o.2 ∧ Rg 0 1 o.1 ∧ SE x0 o.2 ∧ n0 ≤ (hI o.2 x0 49).toInt ∧ (¬ o.1 = 0 → 1 ≤ (hI o.2 x0 49).toInt)) := by
  obtain ⟨⟨p1, p2, p3, p4, p5, p6⟩, pn, pA, pm, pb, pe, pw⟩ := P
  obtain ⟨rs, es, qs⟩ := thR T r0 (i := 56) (k2 := 107) rfl (by decide)
  obtain ⟨rk, ek, qk⟩ := thR T r0 (i := 55) (k2 := 106) rfl (by decide)
  obtain ⟨rm, em, qm⟩ := thR T r0 (i := 46) (k2 := 99) rfl (by decide)
  obtain ⟨re, ee, qe⟩ := thR T r0 (i := 47) (k2 := 100) rfl (by decide)
  obtain ⟨rb, eb, qb⟩ := thR T r0 (i := 48) (k2 := 101) rfl (by decide)
  obtain ⟨ro, eo, qo⟩ := thR T r0 (i := 57) (k2 := 108) rfl (by decide)
  have z1 : (1 : Int32).toInt = 1 := rfl
  have n14 : ¬ (0 : Nat) = 1 := by decide
  have eA : ((hJ h x0 59) + J).toInt = (hJ h x0 59).toInt + J.toInt := ta64 (by have := p2.1; omega) (by have := p2.2; omega)
  have eN : ((hI h x0 49) + (1 : Int32)).toInt = n0 + 1 := by rw [ta (by rw [pn, z1]; omega), pn, z1]
  refine s_hq (th_wJ T r0 (by decide) (pm_a hA rfl)) (fun h2 T2 w2 => ?_)
  have e49 : hI h2 x0 49 = hI h x0 49 := by rw [w2]; rfl
  rw [e49]
  refine s_hq (th_wI T2 r0 (k := 16) (lo := 0) (hi := 4096) rfl ⟨by omega, by omega⟩ (by decide) (by decide) (pm_a hA rfl)) (fun h3 T3 w3 => ?_)
  have R3 : ∀ a i, hR h3 a i = hR h a i := fun a i => by rw [w3, w2]; rfl
  have I3 : ∀ a i, ¬ (a = x0 ∧ i = 49) → hI h3 a i = hI h a i := fun a i n => by rw [w3, r_I, if_neg n, w2]; rfl
  have ne16 : ∀ {a k : Nat}, ρ a = k → k ≠ 16 → ∀ i, ¬ (a = x0 ∧ i = 49) := fun ea hk i y => hk (by rw [← ea, ← r0, y.1])
  refine s_ref (by rw [R3]; exact eo) ?_
  refine s_cl (s_imp (packed_q hF (thN T3 qo (k := 108) (n := 6) rfl (by decide)) (rg_m i1 (by decide))) (fun o5 ⟨e5, k5⟩ => ?_))
  rw [e5]
  have u3 : uC h3 rs 16384 < 16384 := by
    rw [uC_eq 16384 (fun j _ => I3 rs j (ne16 qs (by decide) j))]
    have := p1 rs es
    omega
  refine s_cl (s_imp (zX15_slotOf (r4 := rk) hF T3 r0 (by rw [R3]; exact es) (by rw [R3]; exact ek) u3) (fun o6 ⟨e6, i6, _⟩ => ?_))
  rw [e6]
  refine s_ref (by rw [R3]; exact ek) ?_
  refine s_ref (by rw [R3]; exact eo) ?_
  refine s_cl (s_imp (packed_q hF (thN T3 qo (k := 108) (n := 6) rfl (by decide)) (rg_m i1 (by decide))) (fun o9 ⟨e9, k9⟩ => ?_))
  rw [e9]
  refine s_gd (by rw [thN T3 qk (k := 106) (n := 16384) rfl (by decide)]; exact rg_inB i6 (by decide)) ?_
  refine s_hq (th_wI T3 qk (k := 106) (lo := -2147483648) (hi := 2147483647) rfl (rg_top _) (by decide) (by decide) (pm_a hA rfl)) (fun h11 T11 w11 => ?_)
  have R11 : ∀ a i, hR h11 a i = hR h a i := fun a i => by rw [w11]; exact R3 a i
  refine s_ref (by rw [R11]; exact es) ?_
  refine s_gd (by rw [thN T11 qs (k := 107) (n := 16384) rfl (by decide)]; exact rg_inB i6 (by decide)) ?_
  have n49 : hI h11 x0 49 = (hI h x0 49) + (1 : Int32) := by rw [w11, r_I, if_neg (ne_r r0 qk (by decide)), he_s w3]
  refine s_hq (th_wI T11 qs (k := 107) (lo := 0) (hi := 4096) rfl (thI T11 r0 (k := 16) (i := 49) (lo := 0) (hi := 4096) rfl) (by decide) (by decide) (pm_a hA rfl)) (fun h14 T14 w14 => ?_)
  have R14 : ∀ a i, hR h14 a i = hR h a i := fun a i => by rw [w14]; exact R11 a i
  have N14 : hI h14 x0 49 = (hI h x0 49) + (1 : Int32) := by rw [w14, r_I, if_neg (ne_r r0 qs (by decide))]; exact n49
  have N14' : (hI h14 x0 49).toInt = n0 + 1 := by rw [N14]; exact eN
  have J14 : hJ h14 x0 59 = (hJ h x0 59) + J := by
    rw [w14, w11, w3, w2]
    show hJ (wJ h x0 59 _) x0 59 = _
    rw [r_J, if_pos ⟨rfl, rfl⟩]
  have I14 : ∀ {a k : Nat}, ρ a = k → k ≠ 16 → k ≠ 106 → k ≠ 107 → ∀ i, hI h14 a i = hI h a i := fun {a k} ea h1 h2 h3 i => by
    rw [w14, r_I, if_neg (fun y => h3 (by rw [← ea, ← qs, y.1])), w11, r_I, if_neg (fun y => h2 (by rw [← ea, ← qk, y.1])), I3 a i (ne16 ea h1 i)]
  have X13 : hI h14 x0 13 = hI h x0 13 := by
    rw [w14, r_I, if_neg (ne_r r0 qs (by decide)), w11, r_I, if_neg (ne_r r0 qk (by decide)), I3 x0 13 (fun y => absurd y.2 (by decide))]
  have c6 := clamp_i i6.1
  have sl : ∀ j, hI h14 rs j = if j = o6.1.toNatClampNeg then (hI h x0 49) + (1 : Int32) else hI h rs j := fun j => by
    rw [w14, r_I]
    by_cases z : j = o6.1.toNatClampNeg
    · rw [if_pos ⟨rfl, z⟩, if_pos z]; exact n49
    · rw [if_neg (fun y => z y.2), if_neg z, w11, r_I, if_neg (ne_r qs qk (by decide)), I3 rs j (ne16 qs (by decide) j)]
  have sk : ∀ j, ¬ j = o6.1.toNatClampNeg → hI h14 rk j = hI h rk j := fun j z => by
    rw [w14, r_I, if_neg (ne_r qk qs (by decide)), w11, r_I, if_neg (fun y => z y.2), I3 rk j (ne16 qk (by decide) j)]
  have sk0 : hI h14 rk o6.1.toNatClampNeg = pkN h ro 0 x1 x1.toNatClampNeg := by
    rw [w14, r_I, if_neg (ne_r qk qs (by decide)), he_s w11, k9]
    exact pkN_eq _ (fun i _ => I3 ro _ (ne16 qo (by decide) _))
  have c1 := clamp_i i1.1
  refine s_some ⟨T14, rg_b rfl, ⟨fun r er => ?_, ?_, fun rm' rb' em' eb' k hk => ?_, fun rs' rk' rm' re' es' ek' em' ee' j hj hp => ?_, fun rm' re' em' ee' k hk i hi => ?_, fun rm' rb' em' eb' k hk => ?_⟩, ?_⟩
  · rw [R14] at er
    have hz := r_eq es er
    subst hz
    show (uC h14 r 16384 : Int) ≤ (hI h14 x0 49).toInt
    rw [N14']
    have a1 := uC_w w14 16384
    have a2 : uC h11 r 16384 = uC h r 16384 := uC_eq 16384 (fun j _ => by rw [w11, r_I, if_neg (ne_r qs qk (by decide)), I3 r j (ne16 qs (by decide) j)])
    have a3 := p1 r er
    split at a1 <;> omega
  · show 0 ≤ (hJ h14 x0 59).toInt ∧ (hJ h14 x0 59).toInt ≤ 600000
    rw [J14, eA]
    have := p2.1
    omega
  · rw [R14] at em' eb'
    have hz := r_eq em em'
    subst hz
    have hz := r_eq eb eb'
    subst hz
    show (hI h14 rb' k).toInt + 2 * (hI h14 x0 13).toInt ^ (hI h14 rm' k).toNatClampNeg ≤ (hJ h14 x0 59).toInt
    rw [J14, eA, X13, I14 qm (by decide) (by decide) (by decide), I14 qb (by decide) (by decide) (by decide)]
    have hk' : (k : Int) < n0 + 1 := by rw [← N14']; exact hk
    by_cases z : (k : Int) < n0
    · have := p3 rm' rb' em' eb' k (by rw [pn]; exact z)
      omega
    · have ek2 : k = n0.toNat := by omega
      rw [ek2, pm rm' em', pb rb' eb', eJ]
      omega
  · rw [R14] at es' ek' em' ee'
    have hz := r_eq es es'
    subst hz
    have hz := r_eq ek ek'
    subst hz
    have hz := r_eq em em'
    subst hz
    have hz := r_eq ee ee'
    subst hz
    replace hp : 0 < (hI h14 rs' j).toInt := hp
    show (hI h14 rs' j).toInt ≤ (hI h14 x0 49).toInt ∧ hI h14 rk' j = pkN h14 re' (5 * ((hI h14 rs' j).toInt.toNat - 1)) (hI h14 rm' ((hI h14 rs' j).toInt.toNat - 1)) (hI h14 rm' ((hI h14 rs' j).toInt.toNat - 1)).toNatClampNeg
    by_cases z : j = o6.1.toNatClampNeg
    · have e1 : hI h14 rs' j = (hI h x0 49) + (1 : Int32) := by rw [sl j, if_pos z]
      have e2 : (hI h14 rs' j).toInt.toNat - 1 = n0.toNat := by rw [e1, eN]; omega
      rw [e2, I14 qm (by decide) (by decide) (by decide), pm rm' em']
      refine ⟨by rw [e1, N14]; exact Int.le_refl _, ?_⟩
      rw [z, sk0]
      refine (pkN_eq _ (fun i hi => ?_)).symm
      rw [I14 qe (by decide) (by decide) (by decide), Nat.zero_add]
      exact pe re' ro ee' eo i (by omega)
    · have e1 : hI h14 rs' j = hI h rs' j := by rw [sl j, if_neg z]
      rw [e1] at hp ⊢
      obtain ⟨q1, q2⟩ := p4 rs' rk' rm' re' es' ek' em' ee' j hj hp
      refine ⟨by rw [N14']; omega, ?_⟩
      rw [sk j z, q2, I14 qm (by decide) (by decide) (by decide)]
      exact (pkN_eq _ (fun i _ => I14 qe (by decide) (by decide) (by decide) _)).symm
  · rw [R14] at em' ee'
    have hz := r_eq em em'
    subst hz
    have hz := r_eq ee ee'
    subst hz
    show 1 ≤ (hI h14 re' (5 * k + i)).toInt
    rw [I14 qe (by decide) (by decide) (by decide)]
    replace hi : i < (hI h14 rm' k).toNatClampNeg := hi
    rw [I14 qm (by decide) (by decide) (by decide)] at hi
    have hk' : (k : Int) < n0 + 1 := by rw [← N14']; exact hk
    by_cases z : (k : Int) < n0
    · exact p5 rm' re' em' ee' k (by rw [pn]; exact z) i hi
    · have ek2 : k = n0.toNat := by omega
      rw [ek2, pm rm' em'] at hi
      rw [ek2, pe re' ro ee' eo i (by omega)]
      exact pw ro eo i (by omega)
  · rw [R14] at em' eb'
    have hz := r_eq em em'
    subst hz
    have hz := r_eq eb eb'
    subst hz
    show (hI h14 rb' k).toInt + 2 * (hI h14 x0 13).toInt ^ (hI h14 rm' k).toNatClampNeg ≤ (hI h14 rb' (k + 1)).toInt
    rw [X13, I14 qm (by decide) (by decide) (by decide), I14 qb (by decide) (by decide) (by decide), I14 qb (by decide) (by decide) (by decide)]
    have hk' : (k : Int) + 1 < n0 + 1 := by rw [← N14']; exact hk
    by_cases z : (k : Int) + 1 < n0
    · exact p6 rm' rb' em' eb' k (by rw [pn]; exact z)
    · have ek2 : k + 1 = n0.toNat := by omega
      have := p3 rm' rb' em' eb' k (by rw [pn]; omega)
      rw [ek2, pb rb' eb']
      omega
  · show n0 ≤ (hI h14 x0 49).toInt ∧ (_ → 1 ≤ (hI h14 x0 49).toInt)
    rw [N14']; exact ⟨by omega, fun _ => by omega⟩
end
end
section
section
variable {ρ : Nat → Nat} {c : Cm} {h o : Hp} {S : Nat → Nat → Nat → Bool} {x0 a F r4 r : Nat} {n0 m sq : Int} {x1 x2 x3 x4 : Int32} {J : Int64}
abbrev AQ (ρ : Nat → Nat) (c : Cm) (x0 : Nat) (n0 : Int) : Int32 × Hp → Prop := fun o => TH ρ c o.2 ∧ Rg 0 1 o.1 ∧ SE x0 o.2 ∧ n0 ≤ (hI o.2 x0 49).toInt ∧ (¬ o.1 = 0 → 1 ≤ (hI o.2 x0 49).toInt)
theorem as_165 (hF : 700000 ≤ F) (hA : pmA c seL) (r0 : ρ x0 = 16) (i1 : Rg 0 5 x1) (l0 : 0 ≤ n0) (ln : n0 < 4096) (eJ : J.toInt = 2 * sq ^ x1.toNatClampNeg) (J0 : 0 ≤ J.toInt) : ∀ (f : Nat) {h : Hp} {x4 : Int32}, TH ρ c h → (hI h x0 13).toInt = sq → 0 ≤ x4.toInt → x4.toInt ≤ x1.toInt → PD x0 n0 x1 x4.toInt h → (6 - x4.toInt).toNat < f → Sat (sX15_addSet_165 F f h x0 x1 J x4) (AQ ρ c x0 n0) := by
  intro f
  induction f with
  | zero => intros; omega
  | succ f ih =>
    intro h x4 T es a4 b4 P hf
    rw [sX15_addSet_165]
    have b1 := i1.2
    refine s_br (fun l => ?_) (fun n => ?_)
    · have l' := le_i l
      have e4 : x4.toInt = x1.toInt := by omega
      rw [e4] at P
      exact as_end hF hA T r0 i1 l0 ln (by rw [es]; exact eJ) J0 P
    · have l4 := nle_i n
      have i4 : Rg 0 4 x4 := ⟨a4, by omega⟩
      obtain ⟨p0, pn, pA, pm, pb, pe, pw⟩ := P
      obtain ⟨re, ee, qe⟩ := thR T r0 (i := 47) (k2 := 100) rfl (by decide)
      obtain ⟨ro, eo, qo⟩ := thR T r0 (i := 57) (k2 := 108) rfl (by decide)
      refine s_ref ee ?_
      refine s_ref eo ?_
      refine s_gd (by rw [thN T qo (k := 108) (n := 6) rfl (by decide)]; exact rg_inB (rg_m i4 (by decide) : Rg 0 5 x4) (by decide)) ?_
      have z5 : (5 : Int32).toInt = 5 := rfl
      have e5 : ((5 : Int32) * (hI h x0 49)).toInt = 5 * n0 := by rw [tm (by rw [pn, z5]; omega), pn, z5]
      have e6 : (((5 : Int32) * (hI h x0 49)) + x4).toInt = 5 * n0 + x4.toInt := by rw [ta (by rw [e5]; omega), e5]
      have i6 : Rg 0 20479 (((5 : Int32) * (hI h x0 49)) + x4) := ⟨by omega, by omega⟩
      have c6 := clamp_i i6.1
      have c4 := clamp_i a4
      have e7 : (((5 : Int32) * (hI h x0 49)) + x4).toNatClampNeg = 5 * n0.toNat + x4.toNatClampNeg := by omega
      refine s_gd (by rw [thN T qe (k := 100) (n := 20480) rfl (by decide)]; exact rg_inB i6 (by decide)) ?_
      refine s_hq (th_wI T qe (k := 100) (lo := 0) (hi := 24) rfl (thI T qo (k := 108) (lo := 0) (hi := 24) rfl) (by decide) (by decide) (pm_a hA rfl)) (fun h2 T2 w2 => ?_)
      rw [e7] at w2
      have g : ∀ a k, ¬ (a = re ∧ k = 5 * n0.toNat + x4.toNatClampNeg) → hI h2 a k = hI h a k := fun a k q => by rw [w2, r_I, if_neg q]
      have g1 : ∀ {a kk : Nat}, ρ a = kk → kk ≠ 100 → ∀ k, hI h2 a k = hI h a k := fun {a kk} ea hk k => g a k (ne_r ea qe hk)
      have R2 : ∀ a i, hR h2 a i = hR h a i := fun a i => by rw [w2]; rfl
      have q46 : ∀ r, hR h x0 46 = some r → ρ r = 99 := fun r er => rr T (thR T r0 (i := 46) (k2 := 99) rfl (by decide)) er
      have q48 : ∀ r, hR h x0 48 = some r → ρ r = 101 := fun r er => rr T (thR T r0 (i := 48) (k2 := 101) rfl (by decide)) er
      have q55 : ∀ r, hR h x0 55 = some r → ρ r = 106 := fun r er => rr T (thR T r0 (i := 55) (k2 := 106) rfl (by decide)) er
      have q56 : ∀ r, hR h x0 56 = some r → ρ r = 107 := fun r er => rr T (thR T r0 (i := 56) (k2 := 107) rfl (by decide)) er
      have J2 : hJ h2 x0 59 = hJ h x0 59 := by rw [w2]; rfl
      refine s_q (fun y ey => ?_)
      have ey2 : y.toInt = x4.toInt + 1 := by rw [ey]; exact (nc_s i4 (by decide)).2
      clear ey
      have P2 : PD x0 n0 x1 y.toInt h2 := by
        refine ⟨se_of (fun i => R2 _ i) (g1 r0 (by decide) _) (g1 r0 (by decide) _) J2 (fun r er k _ => g1 (q46 r er) (by decide) k) (fun r er k _ => g1 (q48 r er) (by decide) k) (fun r er k hk => g r k (fun y => by rw [pn] at hk; have := y.2; omega)) (fun r er k => g1 (q55 r er) (by decide) k) (fun r er k => g1 (q56 r er) (by decide) k) (m5_of T r0) p0, ?_, ?_, ?_, ?_, ?_, ?_⟩
        · rw [g1 r0 (by decide)]; exact pn
        · rw [J2, g1 r0 (by decide)]; exact pA
        · intro r er
          rw [R2] at er
          rw [g1 (q46 r er) (by decide)]; exact pm r er
        · intro r er
          rw [R2] at er
          rw [J2, g1 (q48 r er) (by decide)]; exact pb r er
        · intro re' ro' ee' eo' i hi
          rw [R2] at ee' eo'
          have hz := r_eq ee ee'
          subst hz
          have hz := r_eq eo eo'
          subst hz
          rw [g1 qo (by decide)]
          by_cases z : i = x4.toNatClampNeg
          · rw [z, he_s w2]
          · rw [g re' _ (fun y => by have := y.2; omega)]
            exact pe re' ro' ee' eo' i (by omega)
        · intro ro' eo' i hi
          rw [R2] at eo'
          have hz := r_eq eo eo'
          subst hz
          rw [g1 qo (by decide)]
          exact pw ro' eo' i hi
      exact ih T2 (by rw [g1 r0 (by decide)]; exact es) (by omega) (by omega) P2 (by omega)
theorem as_93 (hF : 700000 ≤ F) (hA : pmA c seL) (T : TH ρ c h) (r0 : ρ x0 = 16) (i1 : Rg 0 5 x1) (P : SE x0 h) (rw' : RW x0 x1.toInt h) (pn : (hI h x0 49).toInt = n0) : ∀ (f : Nat) {J : Int64} {x4 : Int32}, 0 ≤ x4.toInt → x4.toInt ≤ x1.toInt → J.toInt = 2 * (hI h x0 13).toInt ^ x4.toNatClampNeg → (6 - x4.toInt).toNat < f → Sat (sX15_addSet_93 F f h x0 x1 J x4) (AQ ρ c x0 n0) := by
  have s64 := thI T r0 (k := 16) (i := 13) (lo := 9) (hi := 64) rfl
  have b1 := i1.2
  have c1 := clamp_i i1.1
  have z0 : (0 : Int32).toInt = 0 := rfl
  intro f
  induction f with
  | zero => intros; omega
  | succ f ih =>
    intro J x4 a4 b4 eJ hf
    rw [sX15_addSet_93]
    unfold sX15_addSet_136
    have c4 := clamp_i a4
    have pw := pow_sq (by have := s64.1; omega) s64.2 x4.toNatClampNeg (by omega)
    refine s_br (fun l => ?_) (fun n => ?_)
    · have l' := le_i l
      have e4 : x4.toNatClampNeg = x1.toNatClampNeg := by omega
      have no : Sat (some ((0 : Int32), h)) (AQ ρ c x0 n0) := s_some ⟨T, rg_b rfl, P, by show n0 ≤ (hI h x0 49).toInt; omega, fun z => absurd rfl z⟩
      refine s_br (fun _ => no) (fun nA => s_br (fun _ => no) (fun nS => ?_))
      have lA := cmp_le nA
      have p2 := P.2.1
      rw [ta64 (by have := p2.1; omega) (by have := p2.2; omega)] at lA
      have z6 : (600000 : Int64).toInt = 600000 := rfl
      rw [z6] at lA
      have in0 := thI T r0 (k := 16) (i := 49) (lo := 0) (hi := 4096) rfl
      have l0 : 0 ≤ n0 := by have := in0.1; omega
      have ln : n0 < 4096 := by
        have := in0.2
        rcases Int.lt_or_le n0 4096 with q | q
        · exact q
        · exact absurd (Int32.toInt_inj.mp (by show (hI h x0 49).toInt = 4096; omega)) nS
      have in1 : Rg 0 4095 (hI h x0 49) := ⟨by omega, by omega⟩
      have cn := clamp_i in1.1
      have en : (hI h x0 49).toNatClampNeg = n0.toNat := by omega
      obtain ⟨rm, em, qm⟩ := thR T r0 (i := 46) (k2 := 99) rfl (by decide)
      refine s_ref em ?_
      refine s_gd (by rw [thN T qm (k := 99) (n := 4096) rfl (by decide)]; exact rg_inB in1 (by decide)) ?_
      refine s_hq (th_wI T qm (k := 99) (lo := 0) (hi := 5) rfl i1 (by decide) (by decide) (pm_a hA rfl)) (fun h6 T6 w6 => ?_)
      rw [en] at w6
      have R6 : ∀ a i, hR h6 a i = hR h a i := fun a i => by rw [w6]; rfl
      have g6 : ∀ {a kk : Nat}, ρ a = kk → kk ≠ 99 → ∀ k, hI h6 a k = hI h a k := fun {a kk} ea hk k => by rw [w6, r_I, if_neg (ne_r ea qm hk)]
      have J6 : hJ h6 x0 59 = hJ h x0 59 := by rw [w6]; rfl
      have e49 : hI h6 x0 49 = hI h x0 49 := g6 r0 (by decide) _
      obtain ⟨rb, eb, qb⟩ := thR T6 r0 (i := 48) (k2 := 101) rfl (by decide)
      refine s_ref eb ?_
      rw [e49, J6]
      refine s_gd (by rw [thN T6 qb (k := 101) (n := 4096) rfl (by decide)]; exact rg_inB in1 (by decide)) ?_
      have eA := t6432 p2.1 p2.2
      refine s_hq (th_wI T6 qb (k := 101) (lo := 0) (hi := 600000) rfl ⟨by rw [eA]; exact p2.1, by rw [eA]; exact p2.2⟩ (by decide) (by decide) (pm_a hA rfl)) (fun h9 T9 w9 => ?_)
      rw [en] at w9
      have R9 : ∀ a i, hR h9 a i = hR h a i := fun a i => by rw [w9]; exact R6 a i
      have g9 : ∀ {a kk : Nat}, ρ a = kk → kk ≠ 99 → kk ≠ 101 → ∀ k, hI h9 a k = hI h a k := fun {a kk} ea hk hk2 k => by rw [w9, r_I, if_neg (ne_r ea qb hk2)]; exact g6 ea hk k
      have J9 : hJ h9 x0 59 = hJ h x0 59 := by rw [w9]; exact J6
      have q47 : ∀ r, hR h x0 47 = some r → ρ r = 100 := fun r er => rr T (thR T r0 (i := 47) (k2 := 100) rfl (by decide)) er
      have q55 : ∀ r, hR h x0 55 = some r → ρ r = 106 := fun r er => rr T (thR T r0 (i := 55) (k2 := 106) rfl (by decide)) er
      have q56 : ∀ r, hR h x0 56 = some r → ρ r = 107 := fun r er => rr T (thR T r0 (i := 56) (k2 := 107) rfl (by decide)) er
      have ebh : hR h x0 48 = some rb := by rw [← R6]; exact eb
      have P9 : PD x0 n0 x1 (0 : Int32).toInt h9 := by
        refine ⟨se_of (fun i => R9 _ i) (g9 r0 (by decide) (by decide) _) (g9 r0 (by decide) (by decide) _) J9 (fun r er k hk => ?_) (fun r er k hk => ?_) (fun r er k hk => g9 (q47 r er) (by decide) (by decide) k) (fun r er k => g9 (q55 r er) (by decide) (by decide) k) (fun r er k => g9 (q56 r er) (by decide) (by decide) k) (m5_of T r0) P, ?_, ?_, ?_, ?_, ?_, ?_⟩
        · have hz := r_eq em er
          subst hz
          rw [w9, r_I, if_neg (ne_r qm qb (by decide)), w6, r_I, if_neg (fun y => by rw [pn] at hk; have := y.2; omega)]
        · have hz := r_eq ebh er
          subst hz
          rw [w9, r_I, if_neg (fun y => by rw [pn] at hk; have := y.2; omega)]
          exact g6 qb (by decide) k
        · rw [g9 r0 (by decide) (by decide)]; exact pn
        · rw [J9, g9 r0 (by decide) (by decide), ← e4, ← eJ]; exact lA
        · intro r er
          rw [R9] at er
          have hz := r_eq em er
          subst hz
          rw [w9, r_I, if_neg (ne_r qm qb (by decide)), he_s w6]
        · intro r er
          rw [R9] at er
          have hz := r_eq ebh er
          subst hz
          rw [he_s w9, J9]; exact eA
        · intro _ _ _ _ i hi
          rw [z0] at hi; omega
        · intro ro eo i hi
          rw [R9] at eo
          rw [g9 (rr T (thR T r0 (i := 57) (k2 := 108) rfl (by decide)) eo) (by decide) (by decide)]
          exact rw' ro eo i hi
      exact as_165 hF hA r0 i1 l0 ln (sq := (hI h x0 13).toInt) (by rw [← e4]; exact eJ) (by rw [eJ]; omega) F T9 (by rw [g9 r0 (by decide) (by decide)]) (by decide) (by rw [z0]; exact i1.1) P9 (by rw [z0]; omega)
    · have l4 := nle_i n
      refine s_q (fun v ev => ?_)
      refine s_q (fun y ey => ?_)
      have i4 : Rg 0 4 x4 := ⟨a4, by omega⟩
      have ny := nc_s i4 (by decide)
      have ey2 : y.toInt = x4.toInt + 1 := by rw [ey]; exact ny.2
      have ey3 : y.toNatClampNeg = x4.toNatClampNeg + 1 := by rw [ey]; exact ny.1
      clear ey
      have pw2 := pow_sq (s := (hI h x0 13).toInt) (by have := s64.1; omega) s64.2 (x4.toNatClampNeg + 1) (by omega)
      have e64 : ((hI h x0 13).toInt64).toInt = (hI h x0 13).toInt := Int32.toInt_toInt64 _
      have em2 : J.toInt * (hI h x0 13).toInt = 2 * (hI h x0 13).toInt ^ (x4.toNatClampNeg + 1) := by rw [eJ, Int.pow_succ, Int.mul_assoc]
      have ev2 : v.toInt = 2 * (hI h x0 13).toInt ^ (x4.toNatClampNeg + 1) := by
        rw [ev, tm64 (by rw [e64, em2]; omega) (by rw [e64, em2]; omega), e64, em2]
      clear ev
      exact ih (by omega) (by omega) (by rw [ey3]; exact ev2) (by omega)
end
end
section
section
variable {ρ : Nat → Nat} {c : Cm} {h o : Hp} {x0 a F r4 r : Nat} {n0 m sq : Int} {x1 x2 x3 x4 : Int32}
/-- one man of the row is written -/
theorem row_w {ro j : Nat} {v : Int32} {n : Int} (T : TH ρ c h) (r0 : ρ x0 = 16) (eo : hR h x0 57 = some ro) (qo : ρ ro = 108) (w : o = wI h ro j v) (P : SE x0 h) (pn : (hI h x0 49).toInt = n0) (iv : 1 ≤ v.toInt ∨ ¬ (j : Int) < n) (R : RW x0 n h) : SE x0 o ∧ (hI o x0 49).toInt = n0 ∧ RW x0 n o := by
  have f := fr1I (c := c) (A := [(108, 999)]) qo rfl w
  refine ⟨se_108 T r0 f P, by rw [(fr_RI f r0 (by decide) (fun _ => rfl)).1]; exact pn, fun ro' eo' i hi => ?_⟩
  rw [w] at eo'
  have hz := r_eq eo (show hR h x0 57 = some ro' from eo')
  subst hz
  rw [w, r_I]
  by_cases z : i = j
  · rw [if_pos ⟨rfl, z⟩]
    rcases iv with q | q
    · exact q
    · exact absurd (by rw [← z]; exact hi) q
  · rw [if_neg (fun y => z y.2)]
    exact R ro' eo i hi
theorem as_57 {k2 : Hp → Nat → Int32 → Int32 → Option (Int32 × Hp)} {Q : Int32 × Hp → Prop} (hA : pmA c seL) (T : TH ρ c h) (r0 : ρ x0 = 16) (i2 : Rg 1 4 x2) (i3 : Rg 1 24 x3) (i4 : Rg 0 5 x4) (P : SE x0 h) (pn : (hI h x0 49).toInt = n0) (R : RW x0 x1.toInt h)
    (K : ∀ o y, TH ρ c o → SE x0 o → (hI o x0 49).toInt = n0 → RW x0 x1.toInt o → y.toInt = x2.toInt + 1 → Sat (k2 o x0 x1 y) Q) : Sat (sX15_addSet_57 F k2 h x0 x1 x2 x3 x4) Q := by
  unfold sX15_addSet_57
  obtain ⟨ro, eo, qo⟩ := thR T r0 (i := 57) (k2 := 108) rfl (by decide)
  refine s_ref eo ?_
  refine s_gd (by rw [thN T qo (k := 108) (n := 6) rfl (by decide)]; exact rg_inB i4 (by decide)) ?_
  refine s_hq (th_wI T qo (k := 108) (lo := 0) (hi := 24) rfl (rg_m i3 (by decide)) (by decide) (by decide) (pm_a hA rfl)) (fun h3 T3 w3 => ?_)
  obtain ⟨P3, n3, R3⟩ := row_w T r0 eo qo w3 P pn (Or.inl i3.1) R
  refine s_q (fun y ey => ?_)
  have ey2 : y.toInt = x2.toInt + 1 := by rw [ey]; exact (nc_s (rg_m i2 (by decide) : Rg 0 4 x2) (by decide)).2
  exact K h3 y T3 P3 n3 R3 ey2
theorem as_17 {k2 : Hp → Nat → Int32 → Int32 → Option (Int32 × Hp)} {Q : Int32 × Hp → Prop} (hA : pmA c seL) (r0 : ρ x0 = 16) (i1 : Rg 0 5 x1) (i2 : Rg 1 4 x2) (l2 : x2.toInt < x1.toInt) (i3 : Rg 1 24 x3)
    (K : ∀ o y, TH ρ c o → SE x0 o → (hI o x0 49).toInt = n0 → RW x0 x1.toInt o → y.toInt = x2.toInt + 1 → Sat (k2 o x0 x1 y) Q) : ∀ (f : Nat) {h : Hp} {x4 : Int32}, TH ρ c h → Rg 0 5 x4 → x4.toInt ≤ x2.toInt → SE x0 h → (hI h x0 49).toInt = n0 → RW x0 x1.toInt h → x4.toInt.toNat < f → Sat (sX15_addSet_17 F k2 f h x0 x1 x2 x3 x4) Q := by
  intro f
  induction f with
  | zero => intros; omega
  | succ f ih =>
    intro h x4 T i4 l4 P pn R hf
    rw [sX15_addSet_17]
    have ex : Sat (sX15_addSet_57 F k2 h x0 x1 x2 x3 x4) Q := as_57 hA T r0 i2 i3 i4 P pn R K
    refine s_br (fun _ => ex) (fun n4 => ?_)
    have p4 : 0 < x4.toInt := nle_i n4
    have b4 := i4.2
    have ed := rg_decs i4 (by decide)
    have id : Rg 0 4 (x4 - (1 : Int32)) := ⟨by omega, by omega⟩
    have cd := clamp_i id.1
    have c4 := clamp_i i4.1
    obtain ⟨ro, eo, qo⟩ := thR T r0 (i := 57) (k2 := 108) rfl (by decide)
    have gd1 : inB (x4 - (1 : Int32)) (hN h ro) := by rw [thN T qo (k := 108) (n := 6) rfl (by decide)]; exact rg_inB id (by decide)
    refine s_ref eo (s_gd gd1 ?_)
    refine s_br (fun _ => ex) (fun _ => ?_)
    refine s_ref eo (s_ref eo (s_gd gd1 ?_))
    refine s_gd (by rw [thN T qo (k := 108) (n := 6) rfl (by decide)]; exact rg_inB i4 (by decide)) ?_
    refine s_hq (th_wI T qo (k := 108) (lo := 0) (hi := 24) rfl (thI T qo (k := 108) (lo := 0) (hi := 24) rfl) (by decide) (by decide) (pm_a hA rfl)) (fun h3 T3 w3 => ?_)
    obtain ⟨P3, n3, R3⟩ := row_w T r0 eo qo w3 P pn (Or.inl (R ro eo _ (by omega))) R
    refine s_q (fun y ey => ?_)
    have ey2 : y.toInt = x4.toInt - 1 := by rw [ey]; exact rg_dec i4 (by decide)
    clear ey
    exact ih T3 ⟨by omega, by omega⟩ (by omega) P3 n3 R3 (by omega)
theorem as_2 (hF : 700000 ≤ F) (hA : pmA c seL) (r0 : ρ x0 = 16) (i1 : Rg 0 5 x1) : ∀ (f : Nat) {h : Hp} {x2 : Int32}, TH ρ c h → 1 ≤ x2.toInt → SE x0 h → (hI h x0 49).toInt = n0 → RW x0 x1.toInt h → (6 - x2.toInt).toNat < f → Sat (sX15_addSet_2 F f h x0 x1 x2) (AQ ρ c x0 n0) := by
  intro f
  induction f with
  | zero => intros; omega
  | succ f ih =>
    intro h x2 T a2 P pn R hf
    rw [sX15_addSet_2]
    have b1 := i1.2
    obtain ⟨ro, eo, qo⟩ := thR T r0 (i := 57) (k2 := 108) rfl (by decide)
    refine s_br (fun _ => ?_) (fun n2 => ?_)
    · refine s_ref eo ?_
      obtain ⟨rs, es, qs⟩ := thR T r0 (i := 56) (k2 := 107) rfl (by decide)
      obtain ⟨rk, ek, qk⟩ := thR T r0 (i := 55) (k2 := 106) rfl (by decide)
      have in0 := thI T r0 (k := 16) (i := 49) (lo := 0) (hi := 4096) rfl
      have u : uC h rs 16384 < 16384 := by have := P.1 rs es; have := in0.2; omega
      refine s_cl (s_imp (zX15_findSet (r4 := rk) hF T r0 qo (rg_m i1 (by decide)) es ek u) (fun o3 ⟨e3, i3, p3⟩ => ?_))
      rw [e3]
      obtain ⟨rm, em, _⟩ := thR T r0 (i := 46) (k2 := 99) rfl (by decide)
      obtain ⟨re, ee, _⟩ := thR T r0 (i := 47) (k2 := 100) rfl (by decide)
      refine s_br (fun _ => ?_) (fun nz => s_some ⟨T, rg_b rfl, P, by show n0 ≤ (hI h x0 49).toInt; omega, fun _ => by
        obtain ⟨j, hj, _, j2, _⟩ := p3 nz
        have := (P.2.2.2.1 rs rk rm re es ek em ee j hj j2).1
        show 1 ≤ (hI h x0 49).toInt
        omega⟩)
      have z0 : (0 : Int32).toInt = 0 := rfl
      exact as_93 hF hA T r0 i1 P R pn F (by decide) (by rw [z0]; exact i1.1) (by show (2 : Int) = 2 * (hI h x0 13).toInt ^ 0; rw [Int.pow_zero]; rfl) (by rw [z0]; omega)
    · have l2 := nle_i n2
      have i2 : Rg 1 4 x2 := ⟨a2, by omega⟩
      have c2 := clamp_i (v := x2) (by omega)
      refine s_ref eo ?_
      refine s_gd (by rw [thN T qo (k := 108) (n := 6) rfl (by decide)]; exact rg_inB (rg_m i2 (by decide) : Rg 0 5 x2) (by decide)) ?_
      refine s_q (fun v ev => ?_)
      have iv : Rg 1 24 v := by rw [ev]; exact ⟨R ro eo _ (by omega), (thI T qo (k := 108) (i := x2.toNatClampNeg) (lo := 0) (hi := 24) rfl).2⟩
      clear ev
      exact as_17 hA r0 i1 i2 l2 iv (fun o y To Po no Ro ey => ih To (by omega) Po no Ro (by omega)) F T (rg_m i2 (by decide)) (Int.le_refl _) P pn R (by have := i2.2; omega)
/-- a set is added where it is new and there is room -/
theorem zX15_addSet (hF : 700000 ≤ F) (hA : pmA c seL) (T : TH ρ c h) (r0 : ρ x0 = 16) (i1 : Rg 0 5 x1) (P : SE x0 h) (R : RW x0 x1.toInt h) : Sat (sX15_addSet F h x0 x1) (AQ ρ c x0 (hI h x0 49).toInt) := by
  unfold sX15_addSet
  have z1 : (1 : Int32).toInt = 1 := rfl
  exact as_2 hF hA r0 i1 F T (by decide) P rfl R (by rw [z1]; omega)
theorem ix5 (i1 : Rg 0 4095 x1) (i4 : Rg 0 4 x4) : Rg 0 20479 (((5 : Int32) * x1) + x4) ∧ (((5 : Int32) * x1) + x4).toNatClampNeg = 5 * x1.toNatClampNeg + x4.toNatClampNeg := by
  have z5 : (5 : Int32).toInt = 5 := rfl
  have a1 := i1.1
  have b1 := i1.2
  have a4 := i4.1
  have b4 := i4.2
  have e5 : ((5 : Int32) * x1).toInt = 5 * x1.toInt := by rw [tm (by rw [z5]; omega), z5]
  have e6 : (((5 : Int32) * x1) + x4).toInt = 5 * x1.toInt + x4.toInt := by rw [ta (by rw [e5]; omega), e5]
  have i6 : Rg 0 20479 (((5 : Int32) * x1) + x4) := ⟨by omega, by omega⟩
  have c6 := clamp_i i6.1
  have c1 := clamp_i a1
  have c4 := clamp_i a4
  exact ⟨i6, by omega⟩
theorem cw_5 (hF : 700000 ≤ F) (hA : pmA c seL) (r0 : ρ x0 = 16) (i1 : Rg 0 4095 x1) : ∀ (f : Nat) {h : Hp} {x3 x4 : Int32}, TH ρ c h → 0 ≤ x3.toInt → x3.toInt ≤ x4.toInt → (∀ rm, hR h x0 46 = some rm → x4.toInt ≤ (hI h rm x1.toNatClampNeg).toInt) → x1.toInt < n0 → SE x0 h → (hI h x0 49).toInt = n0 → RW x0 x3.toInt h → (6 - x4.toInt).toNat < f → Sat (sX15_copyWithout_5 F f h x0 x1 x2 x3 x4) (AQ ρ c x0 n0) := by
  intro f
  induction f with
  | zero => intros; omega
  | succ f ih =>
    intro h x3 x4 T a3 b3 l4 ln P pn R hf
    rw [sX15_copyWithout_5]
    unfold sX15_copyWithout_42
    obtain ⟨rm, em, qm⟩ := thR T r0 (i := 46) (k2 := 99) rfl (by decide)
    have m5 := thI T qm (k := 99) (i := x1.toNatClampNeg) (lo := 0) (hi := 5) rfl
    have l4' := l4 rm em
    have b5 := m5.2
    refine s_ref em ?_
    refine s_gd (by rw [thN T qm (k := 99) (n := 4096) rfl (by decide)]; exact rg_inB i1 (by decide)) ?_
    refine s_br (fun _ => ?_) (fun n1 => ?_)
    · refine s_cl (s_imp (zX15_addSet hF hA T r0 ⟨a3, by omega⟩ P R) (fun o ⟨To, io, Po, no, n1'⟩ => ?_))
      exact s_gd (rg_bool io) (s_some ⟨To, io, Po, by show n0 ≤ (hI o.2 x0 49).toInt; omega, n1'⟩)
    · have l := nle_i n1
      have i4 : Rg 0 4 x4 := ⟨by omega, by omega⟩
      have c4 := clamp_i i4.1
      have go : ∀ {o : Hp} {y3 : Int32}, TH ρ c o → 0 ≤ y3.toInt → y3.toInt ≤ x4.toInt + 1 → (∀ rm, hR o x0 46 = some rm → x4.toInt + 1 ≤ (hI o rm x1.toNatClampNeg).toInt) → SE x0 o → (hI o x0 49).toInt = n0 → RW x0 y3.toInt o → Sat (nm (x4 + (1 : Int32)) fun v_1 => sX15_copyWithout_5 F f o x0 x1 x2 y3 v_1) (AQ ρ c x0 n0) := fun {o y3} To a b lo Po no Ro => by
        refine s_q (fun y ey => ?_)
        have ey2 : y.toInt = x4.toInt + 1 := by rw [ey]; exact (nc_s i4 (by decide)).2
        clear ey
        exact ih To a (by omega) (fun r er => by have := lo r er; omega) ln Po no Ro (by omega)
      refine s_br (fun _ => go T a3 (by omega) (fun r er => by rw [r_eq em er]; omega) P pn R) (fun _ => ?_)
      obtain ⟨ro, eo, qo⟩ := thR T r0 (i := 57) (k2 := 108) rfl (by decide)
      obtain ⟨re, ee, qe⟩ := thR T r0 (i := 47) (k2 := 100) rfl (by decide)
      obtain ⟨i6, e6⟩ := ix5 i1 i4
      have i3 : Rg 0 4 x3 := ⟨a3, by omega⟩
      have c3 := clamp_i a3
      have c1 := clamp_i i1.1
      refine s_ref eo (s_ref ee ?_)
      refine s_gd (by rw [thN T qe (k := 100) (n := 20480) rfl (by decide)]; exact rg_inB i6 (by decide)) ?_
      refine s_gd (by rw [thN T qo (k := 108) (n := 6) rfl (by decide)]; exact rg_inB (rg_m i3 (by decide) : Rg 0 5 x3) (by decide)) ?_
      have cm := clamp_i m5.1
      have v1 : 1 ≤ (hI h re (((5 : Int32) * x1) + x4).toNatClampNeg).toInt := by
        rw [e6]
        exact P.2.2.2.2.1 rm re em ee x1.toNatClampNeg (by omega) x4.toNatClampNeg (by omega)
      refine s_hq (th_wI T qo (k := 108) (lo := 0) (hi := 24) rfl (thI T qe (k := 100) (lo := 0) (hi := 24) rfl) (by decide) (by decide) (pm_a hA rfl)) (fun h3 T3 w3 => ?_)
      have f3 := fr1I (c := c) (A := [(108, 999)]) qo rfl w3
      refine s_q (fun y ey => ?_)
      have ey2 : y.toInt = x3.toInt + 1 := by rw [ey]; exact (nc_s i3 (by decide)).2
      clear ey
      have R' : RW x0 y.toInt h3 := fun ro' eo' i hi => by
        rw [w3] at eo'
        have hz := r_eq eo (show hR h x0 57 = some ro' from eo')
        subst hz
        rw [w3, r_I]
        by_cases z : i = x3.toNatClampNeg
        · rw [if_pos ⟨rfl, z⟩]; exact v1
        · rw [if_neg (fun q => z q.2)]
          exact R ro' eo i (by omega)
      refine go T3 (by omega) (by omega) (fun r er => ?_) (se_108 T r0 f3 P) (by rw [(fr_RI f3 r0 (by decide) (fun _ => rfl)).1]; exact pn) R'
      rw [w3] at er
      have hz := r_eq em (show hR h x0 46 = some r from er)
      subst hz
      rw [(fr_RI f3 qm (by decide) (fun _ => rfl)).1]
      omega
theorem zX15_copyWithout (hF : 700000 ≤ F) (hA : pmA c seL) (T : TH ρ c h) (r0 : ρ x0 = 16) (i1 : Rg 0 4095 x1) (ln : x1.toInt < (hI h x0 49).toInt) (P : SE x0 h) : Sat (sX15_copyWithout F h x0 x1 x2) (AQ ρ c x0 (hI h x0 49).toInt) := by
  unfold sX15_copyWithout
  have z0 : (0 : Int32).toInt = 0 := rfl
  refine cw_5 hF hA r0 i1 F T (by decide) (by decide) (fun rm em => ?_) ln P rfl (fun _ _ i hi => by rw [z0] at hi; omega) (by rw [z0]; omega)
  have qm : ρ rm = 99 := rr T (thR T r0 (i := 46) (k2 := 99) rfl (by decide)) em
  exact (thI T qm (k := 99) (i := x1.toNatClampNeg) (lo := 0) (hi := 5) rfl).1
end
end
section
section
variable {ρ : Nat → Nat} {c : Cm} {h o : Hp} {x0 a F r4 r : Nat} {n0 m sq : Int} {x1 x2 x3 x4 x5 : Int32}
abbrev AL (ρ : Nat → Nat) (c : Cm) (x0 : Nat) : Int32 × Hp → Prop := fun o => TH ρ c o.2 ∧ Rg 0 1 o.1 ∧ SE x0 o.2 ∧ 1 ≤ (hI o.2 x0 49).toInt
theorem man_r (i : Rg 1 24 x1) : Rg 0 11 ((x1 - (1 : Int32)) >>> ((1 : Int32) &&& 31)) := by
  have e := rg_decs i (by decide)
  unfold Rg
  rw [ti_shr1, e]
  have := i.1
  have := i.2
  omega
theorem side_r {x : Int32} : Rg 0 1 (x &&& (1 : Int32)) := rg_and (rg_b rfl : Rg 1 1 (1 : Int32)) (by decide)
theorem al_81 {k2 : Hp → Nat → Int32 → Option (Int32 × Hp)} {k12 : Hp → Nat → Int32 → Int32 → Option (Int32 × Hp)} {k61 : Hp → Nat → Int32 → Int32 → Int32 → Int32 → Option (Int32 × Hp)} (hF : 700000 ≤ F) (hA : pmA c seL) (r0 : ρ x0 = 16) (i1 : Rg 0 4095 x1) (i2 : Rg 0 4 x2) (i3 : Rg 1 24 x3) (i4 : Rg 0 5 x4)
    (K : ∀ o y, TH ρ c o → SE x0 o → x1.toInt < (hI o x0 49).toInt → y.toInt = x4.toInt + 1 → Sat (k61 o x0 x1 x2 x3 y) (AL ρ c x0)) : ∀ (f : Nat) {h : Hp} {x5 : Int32}, TH ρ c h → 0 ≤ x5.toInt → SE x0 h → x1.toInt < (hI h x0 49).toInt → RW x0 x5.toInt h → (∀ rm, hR h x0 46 = some rm → x5.toInt ≤ (hI h rm x1.toNatClampNeg).toInt) → (6 - x5.toInt).toNat < f → Sat (sX15_addAll_81 F k2 k12 k61 f h x0 x1 x2 x3 x4 x5) (AL ρ c x0) := by
  intro f
  induction f with
  | zero => intros; omega
  | succ f ih =>
    intro h x5 T a5 P ln R l5 hf
    rw [sX15_addAll_81]
    obtain ⟨rm, em, qm⟩ := thR T r0 (i := 46) (k2 := 99) rfl (by decide)
    have m5 := thI T qm (k := 99) (i := x1.toNatClampNeg) (lo := 0) (hi := 5) rfl
    have b5 := m5.2
    have l5' := l5 rm em
    have cm := clamp_i m5.1
    have c1 := clamp_i i1.1
    have c5 := clamp_i a5
    have gm : ∀ {g : Hp}, TH ρ c g → inB x1 (hN g rm) := fun Tg => by rw [thN Tg qm (k := 99) (n := 4096) rfl (by decide)]; exact rg_inB i1 (by decide)
    obtain ⟨ro, eo, qo⟩ := thR T r0 (i := 57) (k2 := 108) rfl (by decide)
    obtain ⟨re, ee, qe⟩ := thR T r0 (i := 47) (k2 := 100) rfl (by decide)
    refine s_ref em (s_gd (gm T) ?_)
    refine s_br (fun l => ?_) (fun n1 => ?_)
    · have l' := le_i l
      refine s_ref eo ?_
      obtain ⟨ru, eu, qu⟩ := thR T r0 (i := 4) (k2 := 15) rfl (by decide)
      refine s_ref eu ?_
      obtain ⟨r6, e6, q6⟩ := thR T qu (i := 13) (k2 := 80) rfl (by decide)
      refine s_ref e6 ?_
      unfold sX15_manOf sX15_sideOf sX15_valueOf
      refine s_cl (s_some ?_)
      dsimp only
      have im := man_r i3
      have iq : Rg 0 66 ((6 : Int32) * ((x3 - (1 : Int32)) >>> ((1 : Int32) &&& 31))) := by
        have e4 : (6 : Int32).toInt = 6 := rfl
        have := im.1
        have := im.2
        exact ⟨by rw [tm (by rw [e4]; omega), e4]; omega, by rw [tm (by rw [e4]; omega), e4]; omega⟩
      refine s_gd (by rw [thN T q6 (k := 80) (n := 72) rfl (by decide)]; exact rg_inB (rg_add iq i4 (by decide) : Rg 0 71 _) (by decide)) ?_
      refine s_cl (s_some ?_)
      refine s_cl (s_some ?_)
      dsimp only
      refine s_gd (by rw [thN T qo (k := 108) (n := 6) rfl (by decide)]; exact rg_inB (rg_m i2 (by decide) : Rg 0 5 x2) (by decide)) ?_
      have iv := val_r (thI T q6 (k := 80) (i := (((6 : Int32) * ((x3 - (1 : Int32)) >>> ((1 : Int32) &&& 31))) + x4).toNatClampNeg) (lo := 0) (hi := 11) rfl) (side_r (x := x3 - (1 : Int32)))
      refine s_hq (th_wI T qo (k := 108) (lo := 0) (hi := 24) rfl (rg_m iv (by decide)) (by decide) (by decide) (pm_a hA rfl)) (fun h12 T12 w12 => ?_)
      obtain ⟨P12, n12, R12⟩ := row_w T r0 eo qo w12 P rfl (Or.inl iv.1) R
      have em12 : hR h12 x0 46 = some rm := by rw [w12]; exact em
      have ev12 : hI h12 rm x1.toNatClampNeg = hI h rm x1.toNatClampNeg := by rw [w12, r_I, if_neg (ne_r qm qo (by decide))]
      refine s_ref em12 (s_gd (gm T12) ?_)
      rw [ev12]
      have e5 : x5.toInt = (hI h rm x1.toNatClampNeg).toInt := by omega
      rw [e5] at R12
      refine s_cl (s_imp (zX15_addSet hF hA T12 r0 m5 P12 R12) (fun o15 ⟨To, io, Po, no, _⟩ => ?_))
      refine s_br (fun _ => s_some ⟨To, rg_b rfl, Po, by show 1 ≤ (hI o15.2 x0 49).toInt; have := i1.1; omega⟩) (fun _ => ?_)
      refine s_q (fun y ey => ?_)
      have ey2 : y.toInt = x4.toInt + 1 := by rw [ey]; exact (nc_s i4 (by decide)).2
      clear ey
      exact K o15.2 y To Po (by omega) ey2
    · have l := nle_i n1
      have i5 : Rg 0 4 x5 := ⟨a5, by omega⟩
      obtain ⟨i6, e6⟩ := ix5 i1 i5
      refine s_ref eo (s_ref ee ?_)
      refine s_gd (by rw [thN T qe (k := 100) (n := 20480) rfl (by decide)]; exact rg_inB i6 (by decide)) ?_
      refine s_gd (by rw [thN T qo (k := 108) (n := 6) rfl (by decide)]; exact rg_inB (rg_m i5 (by decide) : Rg 0 5 x5) (by decide)) ?_
      have v1 : 1 ≤ (hI h re (((5 : Int32) * x1) + x5).toNatClampNeg).toInt := by
        rw [e6]
        exact P.2.2.2.2.1 rm re em ee x1.toNatClampNeg (by omega) x5.toNatClampNeg (by omega)
      refine s_hq (th_wI T qo (k := 108) (lo := 0) (hi := 24) rfl (thI T qe (k := 100) (lo := 0) (hi := 24) rfl) (by decide) (by decide) (pm_a hA rfl)) (fun h3 T3 w3 => ?_)
      have f3 := fr1I (c := c) (A := [(108, 999)]) qo rfl w3
      refine s_q (fun y ey => ?_)
      have ey2 : y.toInt = x5.toInt + 1 := by rw [ey]; exact (nc_s i5 (by decide)).2
      clear ey
      have R' : RW x0 y.toInt h3 := fun ro' eo' i hi => by
        rw [w3] at eo'
        have hz := r_eq eo (show hR h x0 57 = some ro' from eo')
        subst hz
        rw [w3, r_I]
        by_cases z : i = x5.toNatClampNeg
        · rw [if_pos ⟨rfl, z⟩]; exact v1
        · rw [if_neg (fun q => z q.2)]
          exact R ro' eo i (by omega)
      refine ih T3 (by omega) (se_108 T r0 f3 P) (by rw [(fr_RI f3 r0 (by decide) (fun _ => rfl)).1]; exact ln) R' (fun r er => ?_) (by omega)
      rw [w3] at er
      have hz := r_eq em (show hR h x0 46 = some r from er)
      subst hz
      rw [(fr_RI f3 qm (by decide) (fun _ => rfl)).1]
      omega
theorem al_61 {k2 : Hp → Nat → Int32 → Option (Int32 × Hp)} {k12 : Hp → Nat → Int32 → Int32 → Option (Int32 × Hp)} (hF : 700000 ≤ F) (hA : pmA c seL) (r0 : ρ x0 = 16) (i1 : Rg 0 4095 x1) (i2 : Rg 0 4 x2) (i3 : Rg 1 24 x3)
    (K : ∀ o y, TH ρ c o → SE x0 o → x1.toInt < (hI o x0 49).toInt → y.toInt = x2.toInt + 1 → Sat (k12 o x0 x1 y) (AL ρ c x0)) : ∀ (f : Nat) {h : Hp} {x4 : Int32}, TH ρ c h → 0 ≤ x4.toInt → SE x0 h → x1.toInt < (hI h x0 49).toInt → (7 - x4.toInt).toNat < f → Sat (sX15_addAll_61 F k2 k12 f h x0 x1 x2 x3 x4) (AL ρ c x0) := by
  intro f
  induction f with
  | zero => intros; omega
  | succ f ih =>
    intro h x4 T a4 P ln hf
    rw [sX15_addAll_61]
    obtain ⟨ru, eu, qu⟩ := thR T r0 (i := 4) (k2 := 15) rfl (by decide)
    refine s_ref eu ?_
    obtain ⟨r2, e2, q2⟩ := thR T qu (i := 14) (k2 := 81) rfl (by decide)
    refine s_ref e2 ?_
    unfold sX15_manOf
    refine s_cl (s_some ?_)
    dsimp only
    have im := man_r i3
    refine s_gd (by rw [thN T q2 (k := 81) (n := 12) rfl (by decide)]; exact rg_inB im (by decide)) ?_
    have m6 := thI T q2 (k := 81) (i := ((x3 - (1 : Int32)) >>> ((1 : Int32) &&& 31)).toNatClampNeg) (lo := 0) (hi := 6) rfl
    have b6 := m6.2
    refine s_br (fun _ => ?_) (fun n1 => ?_)
    · refine s_q (fun y ey => ?_)
      have ey2 : y.toInt = x2.toInt + 1 := by rw [ey]; exact (nc_s i2 (by decide)).2
      clear ey
      exact K h y T P ln ey2
    · have l := nle_i n1
      have i4 : Rg 0 5 x4 := ⟨a4, by omega⟩
      have z0 : (0 : Int32).toInt = 0 := rfl
      refine al_81 hF hA r0 i1 i2 i3 i4 (fun o y To Po lo ey => ih To (by omega) Po lo (by omega)) F T (by decide) P ln (fun _ _ i hi => by rw [z0] at hi; omega) (fun rm em => ?_) (by rw [z0]; omega)
      have qm : ρ rm = 99 := rr T (thR T r0 (i := 46) (k2 := 99) rfl (by decide)) em
      exact (thI T qm (k := 99) (i := x1.toNatClampNeg) (lo := 0) (hi := 5) rfl).1
theorem al_12 {k2 : Hp → Nat → Int32 → Option (Int32 × Hp)} (hF : 700000 ≤ F) (hA : pmA c seL) (r0 : ρ x0 = 16) (i1 : Rg 0 4095 x1)
    (K : ∀ o y, TH ρ c o → SE x0 o → 1 ≤ (hI o x0 49).toInt → y.toInt = x1.toInt + 1 → Sat (k2 o x0 y) (AL ρ c x0)) : ∀ (f : Nat) {h : Hp} {x2 : Int32}, TH ρ c h → 0 ≤ x2.toInt → SE x0 h → x1.toInt < (hI h x0 49).toInt → (6 - x2.toInt).toNat < f → Sat (sX15_addAll_12 F k2 f h x0 x1 x2) (AL ρ c x0) := by
  intro f
  induction f with
  | zero => intros; omega
  | succ f ih =>
    intro h x2 T a2 P ln hf
    rw [sX15_addAll_12]
    unfold sX15_addAll_58
    obtain ⟨rm, em, qm⟩ := thR T r0 (i := 46) (k2 := 99) rfl (by decide)
    have m5 := thI T qm (k := 99) (i := x1.toNatClampNeg) (lo := 0) (hi := 5) rfl
    have b5 := m5.2
    have cm := clamp_i m5.1
    have c1 := clamp_i i1.1
    have c2 := clamp_i a2
    refine s_ref em ?_
    refine s_gd (by rw [thN T qm (k := 99) (n := 4096) rfl (by decide)]; exact rg_inB i1 (by decide)) ?_
    refine s_br (fun _ => ?_) (fun n1 => ?_)
    · refine s_q (fun y ey => ?_)
      have ey2 : y.toInt = x1.toInt + 1 := by rw [ey]; exact (nc_s i1 (by decide)).2
      clear ey
      exact K h y T P (by have := i1.1; omega) ey2
    · have l := nle_i n1
      have i2 : Rg 0 4 x2 := ⟨a2, by omega⟩
      obtain ⟨re, ee, qe⟩ := thR T r0 (i := 47) (k2 := 100) rfl (by decide)
      obtain ⟨i6, e6⟩ := ix5 i1 i2
      refine s_ref ee ?_
      refine s_gd (by rw [thN T qe (k := 100) (n := 20480) rfl (by decide)]; exact rg_inB i6 (by decide)) ?_
      refine s_q (fun v ev => ?_)
      have iv : Rg 1 24 v := by
        rw [ev]
        refine ⟨?_, (thI T qe (k := 100) (lo := 0) (hi := 24) rfl).2⟩
        rw [e6]
        exact P.2.2.2.2.1 rm re em ee x1.toNatClampNeg (by omega) x2.toNatClampNeg (by omega)
      clear ev
      unfold sX15_manOf
      refine s_cl (s_some ?_)
      dsimp only
      obtain ⟨ru, eu, qu⟩ := thR T r0 (i := 4) (k2 := 15) rfl (by decide)
      refine s_ref eu ?_
      have z0 : (0 : Int32).toInt = 0 := rfl
      have go : ∀ {o : Hp}, TH ρ c o → SE x0 o → x1.toInt < (hI o x0 49).toInt → Sat (sX15_addAll_61 F k2 (sX15_addAll_12 F k2 f) F o x0 x1 x2 v (0 : Int32)) (AL ρ c x0) := fun {o} To Po lo => al_61 hF hA r0 i1 i2 iv (fun o y To Po lo ey => ih To (by omega) Po lo (by omega)) F To (by decide) Po lo (by rw [z0]; omega)
      refine s_br (fun _ => go T P ln) (fun _ => ?_)
      refine s_cl (s_imp (zX15_copyWithout hF hA T r0 i1 ln P) (fun o11 ⟨To, io, Po, no, _⟩ => ?_))
      exact s_br (fun _ => s_some ⟨To, rg_b rfl, Po, by show 1 ≤ (hI o11.2 x0 49).toInt; have := i1.1; omega⟩) (fun _ => go To Po (by omega))
theorem al_2 (hF : 700000 ≤ F) (hA : pmA c seL) (r0 : ρ x0 = 16) : ∀ (f : Nat) {h : Hp} {x1 : Int32}, TH ρ c h → 0 ≤ x1.toInt → SE x0 h → 1 ≤ (hI h x0 49).toInt → (4097 - x1.toInt).toNat < f → Sat (sX15_addAll_2 F f h x0 x1) (AL ρ c x0) := by
  intro f
  induction f with
  | zero => intros; omega
  | succ f ih =>
    intro h x1 T a1 P l1 hf
    rw [sX15_addAll_2]
    refine s_br (fun _ => s_some ⟨T, rg_b rfl, P, l1⟩) (fun n1 => ?_)
    have l := nle_i n1
    have in0 := thI T r0 (k := 16) (i := 49) (lo := 0) (hi := 4096) rfl
    have i1 : Rg 0 4095 x1 := ⟨a1, by have := in0.2; omega⟩
    have b1 := i1.2
    have z0 : (0 : Int32).toInt = 0 := rfl
    exact al_12 hF hA r0 i1 (fun o y To Po lo ey => ih To (by omega) Po lo (by omega)) F T (by decide) P l (by rw [z0]; omega)
/-- all sets that come of the first are added, as far as there is room -/
theorem zX15_addAll (hF : 700000 ≤ F) (hA : pmA c seL) (T : TH ρ c h) (r0 : ρ x0 = 16) (P : SE x0 h) (l1 : 1 ≤ (hI h x0 49).toInt) : Sat (sX15_addAll F h x0) (AL ρ c x0) := by
  unfold sX15_addAll
  have z0 : (0 : Int32).toInt = 0 := rfl
  exact al_2 hF hA r0 F T (by decide) P l1 (by rw [z0]; omega)
end
end
