/-! endings of the reference: sets and their slots -/
theorem and14 {x : Int32} (i : Rg 0 16384 x) : (x &&& (16383 : Int32)).toInt = x.toInt % 16384 := by
  obtain ⟨j, ej, tj, hj⟩ := rg_nI i (Int.le_refl 0)
  have ek : (16383 : Int32) = nI 16383 := rfl
  have hz : ∀ i, i < 2 ^ 31 → (nI i).toBitVec.toNat = i := fun i hi => by
    show (BitVec.ofNat 32 i).toNat = i
    rw [BitVec.toNat_ofNat]
    exact Nat.mod_eq_of_lt (by omega)
  have m : j &&& 16383 = j % 16384 := Nat.and_two_pow_sub_one_eq_mod j 14
  have eo : x &&& (16383 : Int32) = nI (j % 16384) := by
    rw [ej, ek]
    apply Int32.toBitVec_inj.mp
    apply BitVec.eq_of_toNat_eq
    show ((nI j).toBitVec &&& (nI 16383).toBitVec).toNat = (nI (j % 16384)).toBitVec.toNat
    rw [BitVec.toNat_and, hz j hj, hz 16383 (by decide), hz _ (by omega), m]
  rw [eo, z_toInt (by omega), tj]
  omega
theorem ush18 (z : Int32) : Rg 0 16383 ((z.toUInt32 >>> ((18 : Int32).toUInt32 &&& Int32.toUInt32 31)).toInt32) := by
  have h := Jvm.RoadKit.c_iushr z (18 : Int32) 18 rfl (by decide)
  have e : ((18 : Int32).toUInt32 &&& Int32.toUInt32 31) = ((18 : Int32) &&& 31).toUInt32 := rfl
  rw [e]
  unfold Rg
  rw [h]
  have : ((2 ^ 18 : Nat) : Int) = 262144 := rfl
  rw [this]
  have := Int.emod_nonneg z.toInt (show (4294967296 : Int) ≠ 0 by decide)
  have := Int.emod_lt_of_pos z.toInt (show (0 : Int) < 4294967296 by decide)
  omega
/-- how many slots are used -/
def uC (h : Hp) (r : Nat) : Nat → Nat
  | 0 => 0
  | n + 1 => uC h r n + if 0 < (hI h r n).toInt then 1 else 0
theorem uC_free {h : Hp} {r : Nat} : ∀ n, uC h r n < n → ∃ k, k < n ∧ (hI h r k).toInt ≤ 0 := by
  intro n
  induction n with
  | zero => intro h; omega
  | succ n ih =>
    intro q
    by_cases z : 0 < (hI h r n).toInt
    · have e : uC h r (n + 1) = uC h r n + 1 := by show uC h r n + (if 0 < (hI h r n).toInt then 1 else 0) = _; rw [if_pos z]
      obtain ⟨k, k1, k2⟩ := ih (by omega)
      exact ⟨k, by omega, k2⟩
    · exact ⟨n, by omega, by omega⟩
theorem uC_eq {h o : Hp} {r : Nat} : ∀ n, (∀ j, j < n → hI o r j = hI h r j) → uC o r n = uC h r n := by
  intro n
  induction n with
  | zero => intro _; rfl
  | succ n ih =>
    intro q
    show uC o r n + (if 0 < (hI o r n).toInt then 1 else 0) = uC h r n + (if 0 < (hI h r n).toInt then 1 else 0)
    rw [ih (fun j hj => q j (by omega)), q n (by omega)]
theorem uC_w {h o : Hp} {r j : Nat} {v : Int32} (e : o = wI h r j v) : ∀ n, uC o r n ≤ uC h r n + if j < n then 1 else 0 := by
  intro n
  induction n with
  | zero => exact Nat.zero_le _
  | succ n ih =>
    show uC o r n + (if 0 < (hI o r n).toInt then 1 else 0) ≤ (uC h r n + (if 0 < (hI h r n).toInt then 1 else 0)) + _
    by_cases z : n = j
    · subst z
      rw [if_neg (show ¬ n < n by omega)] at ih
      rw [if_pos (show n < n + 1 by omega)]
      split <;> split <;> omega
    · have : hI o r n = hI h r n := by rw [e, r_I, if_neg (fun y => z y.2)]
      rw [this]
      by_cases q : j < n
      · rw [if_pos q] at ih
        rw [if_pos (show j < n + 1 by omega)]; omega
      · rw [if_neg q] at ih
        rw [if_neg (show ¬ j < n + 1 by omega)]; omega
/-- the key of a row of men -/
def pkN (h : Hp) (a p : Nat) (x : Int32) : Nat → Int32
  | 0 => x
  | i + 1 => ((pkN h a p x i) <<< ((5 : Int32) &&& 31)) ||| (hI h a (p + i))
theorem pkN_eq {h o : Hp} {a b p q : Nat} {x : Int32} : ∀ n, (∀ i, i < n → hI o b (q + i) = hI h a (p + i)) → pkN o b q x n = pkN h a p x n := by
  intro n
  induction n with
  | zero => intro _; rfl
  | succ n ih =>
    intro z
    show ((pkN o b q x n) <<< ((5 : Int32) &&& 31)) ||| (hI o b (q + n)) = ((pkN h a p x n) <<< ((5 : Int32) &&& 31)) ||| (hI h a (p + n))
    rw [ih (fun i hi => z i (by omega)), z n (by omega)]
section
variable {ρ : Nat → Nat} {c : Cm} {h o : Hp} {x0 a F r4 r : Nat} {x1 x2 x3 : Int32}
theorem pkn_loop (hn : hN h a = 6) (i1 : Rg 0 6 x1) : ∀ (f : Nat) {x2 x3 : Int32}, 0 ≤ x3.toInt → x3.toInt ≤ x1.toInt → x2 = pkN h a 0 x1 x3.toNatClampNeg → (7 - x3.toInt).toNat < f → Sat (sX15_packed_4 F f h a x1 x2 x3) (fun o => o.2 = h ∧ o.1 = pkN h a 0 x1 x1.toNatClampNeg) := by
  intro f
  induction f with
  | zero => intros; omega
  | succ f ih =>
    intro x2 x3 a3 b3 e2 hf
    rw [sX15_packed_4]
    have b1 := i1.2
    refine s_br (fun l1 => ?_) (fun n1 => ?_)
    · have l3 := le_i l1
      have : x3.toNatClampNeg = x1.toNatClampNeg := by have := clamp_i a3; have := clamp_i i1.1; omega
      exact s_some ⟨rfl, by rw [← this]; exact e2⟩
    · have l3 := nle_i n1
      have i3 : Rg 0 5 x3 := ⟨a3, by omega⟩
      refine s_gd (by rw [hn]; exact rg_inB i3 (by decide)) ?_
      refine s_q (fun v ev => ?_)
      refine s_q (fun y ey => ?_)
      have ny := nc_s i3 (by decide)
      have ey2 : y.toInt = x3.toInt + 1 := by rw [ey]; exact ny.2
      have ey3 : y.toNatClampNeg = x3.toNatClampNeg + 1 := by rw [ey]; exact ny.1
      refine ih (by omega) (by omega) ?_ (by omega)
      rw [ey3, ev, e2]
      show _ = ((pkN h a 0 x1 x3.toNatClampNeg) <<< ((5 : Int32) &&& 31)) ||| (hI h a (0 + x3.toNatClampNeg))
      rw [Nat.zero_add]
theorem packed_q (hF : 700000 ≤ F) (hn : hN h a = 6) (i1 : Rg 0 6 x1) : Sat (sX15_packed F h a x1) (fun o => o.2 = h ∧ o.1 = pkN h a 0 x1 x1.toNatClampNeg) := by
  unfold sX15_packed
  have z0 : (0 : Int32).toInt = 0 := rfl
  exact pkn_loop hn i1 F (by decide) (by rw [z0]; exact i1.1) rfl (by rw [z0]; omega)
theorem slot_loop {k0 : Nat} (T : TH ρ c h) (r0 : ρ x0 = 16) (er : hR h x0 56 = some r) (e4 : hR h x0 55 = some r4) (hk : k0 < 16384) (z0 : (hI h r k0).toInt ≤ 0) : ∀ (f : Nat) {x2 : Int32}, Rg 0 16383 x2 → (((k0 : Int) + 16384 - x2.toInt) % 16384).toNat < f → Sat (sX15_slotOf_14 F f h x0 x1 x2) (fun o => o.2 = h ∧ Rg 0 16383 o.1 ∧ ((hI h r o.1.toNatClampNeg).toInt ≤ 0 ∨ hI h r4 o.1.toNatClampNeg = x1)) := by
  have qr : ρ r = 107 := rr T (thR T r0 (i := 56) (k2 := 107) rfl (by decide)) er
  have q4 : ρ r4 = 106 := rr T (thR T r0 (i := 55) (k2 := 106) rfl (by decide)) e4
  intro f
  induction f with
  | zero => intros; omega
  | succ f ih =>
    intro x2 i2 hf
    rw [sX15_slotOf_14]
    unfold sX15_slotOf_44
    have a2 := i2.1
    have b2 := i2.2
    have c2 := clamp_i a2
    refine s_ref er ?_
    refine s_gd (by rw [thN T qr (k := 107) (n := 16384) rfl (by decide)]; exact rg_inB i2 (by decide)) ?_
    refine s_br (fun l => s_some ⟨rfl, i2, Or.inl (le_i l)⟩) (fun n => ?_)
    have n' : 0 < (hI h r x2.toNatClampNeg).toInt := nle_i n
    refine s_ref e4 ?_
    refine s_gd (by rw [thN T q4 (k := 106) (n := 16384) rfl (by decide)]; exact rg_inB i2 (by decide)) ?_
    refine s_br (fun l => s_some ⟨rfl, i2, Or.inr l⟩) (fun _ => ?_)
    refine s_q (fun y ey => ?_)
    have es := (nc_s i2 (by decide)).2
    have ey2 : y.toInt = (x2.toInt + 1) % 16384 := by
      rw [ey, and14 ⟨by omega, by omega⟩, es]
    clear ey
    have ne : x2.toInt ≠ (k0 : Int) := fun z => by
      have : x2.toNatClampNeg = k0 := by omega
      rw [this] at n'
      omega
    exact ih ⟨by omega, by omega⟩ (by omega)
theorem zX15_slotOf (hF : 700000 ≤ F) (T : TH ρ c h) (r0 : ρ x0 = 16) (er : hR h x0 56 = some r) (e4 : hR h x0 55 = some r4) (u : uC h r 16384 < 16384) : Sat (sX15_slotOf F h x0 x1) (fun o => o.2 = h ∧ Rg 0 16383 o.1 ∧ ((hI h r o.1.toNatClampNeg).toInt ≤ 0 ∨ hI h r4 o.1.toNatClampNeg = x1)) := by
  unfold sX15_slotOf
  refine s_q (fun v ev => ?_)
  have iv : Rg 0 16383 v := by rw [ev]; exact ush18 _
  clear ev
  obtain ⟨k0, hk, z0⟩ := uC_free _ u
  exact slot_loop T r0 er e4 hk z0 F iv (by have := iv.1; have := iv.2; omega)
/-- a set is looked up: its number, or -1 -/
theorem zX15_findSet (hF : 700000 ≤ F) (T : TH ρ c h) (r0 : ρ x0 = 16) (ra : ρ a = 108) (i1 : Rg 0 6 x1) (er : hR h x0 56 = some r) (e4 : hR h x0 55 = some r4) (u : uC h r 16384 < 16384) : Sat (sX15_findSet F h x0 a x1) (fun o => o.2 = h ∧ Rg (-1) 4095 o.1 ∧ (¬ o.1 = -1 → ∃ j, j < 16384 ∧ (hI h r j).toInt = o.1.toInt + 1 ∧ 0 < (hI h r j).toInt ∧ hI h r4 j = pkN h a 0 x1 x1.toNatClampNeg)) := by
  unfold sX15_findSet
  refine s_ref er ?_
  refine s_cl (s_imp (packed_q hF (thN T ra (k := 108) (n := 6) rfl (by decide)) i1) (fun o2 ⟨e2, p2⟩ => ?_))
  rw [e2]
  refine s_cl (s_imp (zX15_slotOf hF T r0 er e4 u) (fun o3 ⟨e3, i3, p3⟩ => ?_))
  rw [e3]
  have qr : ρ r = 107 := rr T (thR T r0 (i := 56) (k2 := 107) rfl (by decide)) er
  refine s_gd (by rw [thN T qr (k := 107) (n := 16384) rfl (by decide)]; exact rg_inB i3 (by decide)) ?_
  have iv := thI T qr (k := 107) (i := o3.1.toNatClampNeg) (lo := 0) (hi := 4096) rfl
  have ed := rg_decs iv (by decide)
  have a0 := iv.1
  have b0 := iv.2
  refine s_some ⟨rfl, ⟨by show -1 ≤ ((hI h r o3.1.toNatClampNeg) - (1 : Int32)).toInt; omega, by show ((hI h r o3.1.toNatClampNeg) - (1 : Int32)).toInt ≤ 4095; omega⟩, fun nz => ?_⟩
  have nz' : 0 < (hI h r o3.1.toNatClampNeg).toInt := by
    rcases Int.lt_or_le 0 (hI h r o3.1.toNatClampNeg).toInt with q | q
    · exact q
    · refine absurd ?_ nz
      apply Int32.toInt_inj.mp
      show ((hI h r o3.1.toNatClampNeg) - (1 : Int32)).toInt = -1
      omega
  have l3 : o3.1.toNatClampNeg ≤ 16383 := rg_clamp i3 (by decide)
  refine ⟨o3.1.toNatClampNeg, by omega, ?_, nz', ?_⟩
  · show _ = ((hI h r o3.1.toNatClampNeg) - (1 : Int32)).toInt + 1
    omega
  · rcases p3 with q | q
    · omega
    · rw [q, p2]
end
