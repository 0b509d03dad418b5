/-! the key of a row -/
theorem kstep {x v s : Int32} {m : Nat} (hs : s.toBitVec.toNat % 32 = m) (hm : m ≤ 20) (a : 0 ≤ x.toInt) (b : x.toInt < ((2 ^ m : Nat) : Int)) (iv : Rg 0 31 v) : (x ||| (v <<< (s &&& 31))).toInt = x.toInt + v.toInt * ((2 ^ m : Nat) : Int) := by
  have p2 : ((2 ^ m : Nat) : Int) ≤ 1048576 := by
    have : 2 ^ m ≤ 2 ^ 20 := Nat.pow_le_pow_right (by decide) hm
    omega
  have v0 := iv.1
  have v1 := iv.2
  have vb : v.toInt * ((2 ^ m : Nat) : Int) ≤ 31 * ((2 ^ m : Nat) : Int) := Int.mul_le_mul_of_nonneg_right v1 (by omega)
  have e2 := shl_i (x := v) (s := s) hs v0 (by omega)
  rw [or_i (m := m) (z := v.toInt) a b v0 e2 (by rw [e2]; omega), e2]
def kS (d : Nat → Int) : Nat → Int
  | 0 => 0
  | 1 => d 0
  | 2 => d 0 + 32 * d 1
  | 3 => d 0 + 32 * d 1 + 1024 * d 2
  | 4 => d 0 + 32 * d 1 + 1024 * d 2 + 32768 * d 3
  | _ => d 0 + 32 * d 1 + 1024 * d 2 + 32768 * d 3 + 1048576 * d 4
def KyW (n : Nat) (x : Int32) : Prop := Rg 0 33554431 x ∧ KyX x ∧ szI x.toInt = n ∧ (n ≤ 4 → x.toInt ≤ 1048575) ∧ (n = 5 → 1048576 ≤ x.toInt)
theorem kyw_of {d : Nat → Int} {n : Nat} {x : Int32} (hn : n ≤ 5) (D : ∀ i, i < n → 1 ≤ d i ∧ d i ≤ 24) (e : x.toInt = kS d n) : KyW n x := by
  have fin : ∀ {e0 e1 e2 e3 e4 : Int}, (0 ≤ e0 ∧ e0 ≤ 24) → (0 ≤ e1 ∧ e1 ≤ 24) → (0 ≤ e2 ∧ e2 ≤ 24) → (0 ≤ e3 ∧ e3 ≤ 24) → (0 ≤ e4 ∧ e4 ≤ 24) → x.toInt = e0 + 32 * e1 + 1024 * e2 + 32768 * e3 + 1048576 * e4 → (if e0 = 0 then 0 else if e1 = 0 then 1 else if e2 = 0 then 2 else if e3 = 0 then 3 else if e4 = 0 then 4 else 5) = n → (n ≤ 4 → e4 = 0) → (n = 5 → 1 ≤ e4) → KyW n x := fun {e0 e1 e2 e3 e4} q0 q1 q2 q3 q4 e w y1 y2 => ⟨⟨by omega, by omega⟩, (ky_i (by omega)).mpr (ky_sum q0 q1 q2 q3 q4 e), by rw [sz_sum q0 q1 q2 q3 q4 e]; exact w, fun z => by have := y1 z; omega, fun z => by have := y2 z; omega⟩
  have z : (0 : Int) ≤ 0 ∧ (0 : Int) ≤ 24 := by decide
  have g : ∀ i, i < n → 0 ≤ d i ∧ d i ≤ 24 := fun i hi => ⟨by have := (D i hi).1; omega, (D i hi).2⟩
  have k : ∀ i, i < n → ¬ d i = 0 := fun i hi => by have := (D i hi).1; omega
  have hc : n = 0 ∨ n = 1 ∨ n = 2 ∨ n = 3 ∨ n = 4 ∨ n = 5 := by omega
  rcases hc with w | w | w | w | w | w <;> subst w
  · have e : x.toInt = 0 := e
    exact fin (e0 := 0) (e1 := 0) (e2 := 0) (e3 := 0) (e4 := 0) z z z z z (by omega) (if_pos rfl) (fun _ => rfl) (by omega)
  · have e : x.toInt = d 0 := e
    exact fin (e0 := d 0) (e1 := 0) (e2 := 0) (e3 := 0) (e4 := 0) (g 0 (by decide)) z z z z (by omega) (by rw [if_neg (k 0 (by decide)), if_pos rfl]) (fun _ => rfl) (by omega)
  · have e : x.toInt = d 0 + 32 * d 1 := e
    exact fin (e0 := d 0) (e1 := d 1) (e2 := 0) (e3 := 0) (e4 := 0) (g 0 (by decide)) (g 1 (by decide)) z z z (by omega) (by rw [if_neg (k 0 (by decide)), if_neg (k 1 (by decide)), if_pos rfl]) (fun _ => rfl) (by omega)
  · have e : x.toInt = d 0 + 32 * d 1 + 1024 * d 2 := e
    exact fin (e0 := d 0) (e1 := d 1) (e2 := d 2) (e3 := 0) (e4 := 0) (g 0 (by decide)) (g 1 (by decide)) (g 2 (by decide)) z z (by omega) (by rw [if_neg (k 0 (by decide)), if_neg (k 1 (by decide)), if_neg (k 2 (by decide)), if_pos rfl]) (fun _ => rfl) (by omega)
  · have e : x.toInt = d 0 + 32 * d 1 + 1024 * d 2 + 32768 * d 3 := e
    exact fin (e0 := d 0) (e1 := d 1) (e2 := d 2) (e3 := d 3) (e4 := 0) (g 0 (by decide)) (g 1 (by decide)) (g 2 (by decide)) (g 3 (by decide)) z (by omega) (by rw [if_neg (k 0 (by decide)), if_neg (k 1 (by decide)), if_neg (k 2 (by decide)), if_neg (k 3 (by decide)), if_pos rfl]) (fun _ => rfl) (by omega)
  · have e : x.toInt = d 0 + 32 * d 1 + 1024 * d 2 + 32768 * d 3 + 1048576 * d 4 := e
    exact fin (e0 := d 0) (e1 := d 1) (e2 := d 2) (e3 := d 3) (e4 := d 4) (g 0 (by decide)) (g 1 (by decide)) (g 2 (by decide)) (g 3 (by decide)) (g 4 (by decide)) e (by rw [if_neg (k 0 (by decide)), if_neg (k 1 (by decide)), if_neg (k 2 (by decide)), if_neg (k 3 (by decide)), if_neg (k 4 (by decide))]) (by omega) (fun _ => (D 4 (by decide)).1)
section
variable {ρ : Nat → Nat} {c : Cm} {h : Hp} {x0 ro F : Nat} {sq : Int}
theorem keyrow_q (hF : 700000 ≤ F) (T : TH ρ c h) (r0 : ρ x0 = 1) (e7 : hR h x0 7 = some ro) (R : RoW (RoG sq) x0 ro h) : Sat (sX0_keyOfRow F h x0) (fun o => o.2 = h ∧ KyW (hI h x0 8).toNatClampNeg o.1) := by
  have i8 := thI T r0 (k := 1) (i := 8) (lo := 0) (hi := 5) rfl
  have c8 := clamp_i i8.1
  have b8 := i8.2
  refine sat_and (zX0_keyOfRow hF T r0) (fun o e Z => ⟨Z.1, ?_⟩)
  have D : ∀ i, i < (hI h x0 8).toNatClampNeg → 1 ≤ (hI h ro i).toInt / 64 + 1 ∧ (hI h ro i).toInt / 64 + 1 ≤ 24 := fun i hi => by
    obtain ⟨u1, u2, _⟩ := R.1 i (by omega)
    omega
  have lp : ∀ (f : Nat) {x1 x2 : Int32}, 0 ≤ x2.toInt → x2.toInt ≤ (hI h x0 8).toInt → x1.toInt = kS (fun i => (hI h ro i).toInt / 64 + 1) x2.toNatClampNeg → sX0_keyOfRow_4 F f h x0 x1 x2 = some o → KyW (hI h x0 8).toNatClampNeg o.1 := by
    intro f
    induction f with
    | zero => intro x1 x2 _ _ _ e; exact absurd e (by rw [sX0_keyOfRow_4]; exact fun z => nomatch z)
    | succ f ih =>
      intro x1 x2 a2 b2 e1 e
      rw [sX0_keyOfRow_4] at e
      replace e := br_s e
      rcases e with ⟨l, e⟩ | ⟨l, e⟩
      · have l := le_i l
        have q : x2.toNatClampNeg = (hI h x0 8).toNatClampNeg := by have := clamp_i a2; omega
        rw [q] at e1
        rw [← Option.some.inj e]
        exact kyw_of (by omega) D e1
      · have l := nle_i l
        have c2 := clamp_i a2
        have i2 : Rg 0 4 x2 := ⟨a2, by omega⟩
        have ny := nc_s i2 (by decide)
        replace e := cl_s e
        obtain ⟨r2, e2, e⟩ := e
        have q2 : r2 = ro := r_eq e7 e2
        subst q2
        replace e := gd_s e
        obtain ⟨_, e⟩ := e
        replace e := nm_s e
        obtain ⟨v4, e4, e⟩ := e
        replace e := nm_s e
        obtain ⟨v5, e5, e⟩ := e
        have g := D x2.toNatClampNeg (by omega)
        have z1 : (1 : Int32).toInt = 1 := rfl
        have ev : (((hI h r2 x2.toNatClampNeg) >>> ((6 : Int32) &&& 31)) + (1 : Int32)).toInt = (hI h r2 x2.toNatClampNeg).toInt / 64 + 1 := by
          rw [ta (by rw [shr6_i, z1]; omega), shr6_i, z1]
        have iv : Rg 0 31 (((hI h r2 x2.toNatClampNeg) >>> ((6 : Int32) &&& 31)) + (1 : Int32)) := ⟨by omega, by omega⟩
        have g4 : ∀ j, j < x2.toNatClampNeg → 1 ≤ (hI h r2 j).toInt / 64 + 1 ∧ (hI h r2 j).toInt / 64 + 1 ≤ 24 := fun j hj => D j (by omega)
        have t4 : v4.toInt = kS (fun i => (hI h r2 i).toInt / 64 + 1) (x2.toNatClampNeg + 1) := by
          rw [e4]
          rcases i32_04 i2 with w | w | w | w | w <;> subst w
          · have e1 : x1.toInt = 0 := e1
            rw [kstep (m := 0) rfl (by decide) (by omega) (by rw [e1]; decide) iv, ev, e1]
            show 0 + ((hI h r2 0).toInt / 64 + 1) * 1 = (hI h r2 0).toInt / 64 + 1
            omega
          · have e1 : x1.toInt = (hI h r2 0).toInt / 64 + 1 := e1
            have d0 := g4 0 (by decide)
            rw [kstep (m := 5) rfl (by decide) (by omega) (by show _ < (32 : Int); omega) iv, ev, e1]
            show _ + ((hI h r2 1).toInt / 64 + 1) * 32 = (hI h r2 0).toInt / 64 + 1 + 32 * ((hI h r2 1).toInt / 64 + 1)
            omega
          · have e1 : x1.toInt = (hI h r2 0).toInt / 64 + 1 + 32 * ((hI h r2 1).toInt / 64 + 1) := e1
            have d0 := g4 0 (by decide)
            have d1 := g4 1 (by decide)
            rw [kstep (m := 10) rfl (by decide) (by omega) (by show _ < (1024 : Int); omega) iv, ev, e1]
            show _ + ((hI h r2 2).toInt / 64 + 1) * 1024 = (hI h r2 0).toInt / 64 + 1 + 32 * ((hI h r2 1).toInt / 64 + 1) + 1024 * ((hI h r2 2).toInt / 64 + 1)
            omega
          · have e1 : x1.toInt = (hI h r2 0).toInt / 64 + 1 + 32 * ((hI h r2 1).toInt / 64 + 1) + 1024 * ((hI h r2 2).toInt / 64 + 1) := e1
            have d0 := g4 0 (by decide)
            have d1 := g4 1 (by decide)
            have d2 := g4 2 (by decide)
            rw [kstep (m := 15) rfl (by decide) (by omega) (by show _ < (32768 : Int); omega) iv, ev, e1]
            show _ + ((hI h r2 3).toInt / 64 + 1) * 32768 = (hI h r2 0).toInt / 64 + 1 + 32 * ((hI h r2 1).toInt / 64 + 1) + 1024 * ((hI h r2 2).toInt / 64 + 1) + 32768 * ((hI h r2 3).toInt / 64 + 1)
            omega
          · have e1 : x1.toInt = (hI h r2 0).toInt / 64 + 1 + 32 * ((hI h r2 1).toInt / 64 + 1) + 1024 * ((hI h r2 2).toInt / 64 + 1) + 32768 * ((hI h r2 3).toInt / 64 + 1) := e1
            have d0 := g4 0 (by decide)
            have d1 := g4 1 (by decide)
            have d2 := g4 2 (by decide)
            have d3 := g4 3 (by decide)
            rw [kstep (m := 20) rfl (by decide) (by omega) (by show _ < (1048576 : Int); omega) iv, ev, e1]
            show _ + ((hI h r2 4).toInt / 64 + 1) * 1048576 = (hI h r2 0).toInt / 64 + 1 + 32 * ((hI h r2 1).toInt / 64 + 1) + 1024 * ((hI h r2 2).toInt / 64 + 1) + 32768 * ((hI h r2 3).toInt / 64 + 1) + 1048576 * ((hI h r2 4).toInt / 64 + 1)
            omega
        clear e4
        have t5 : v5.toInt = x2.toInt + 1 := by rw [e5]; exact ny.2
        have t5n : v5.toNatClampNeg = x2.toNatClampNeg + 1 := by rw [e5]; exact ny.1
        clear e5
        exact ih (by omega) (by omega) (by rw [t5n]; exact t4) e
  unfold sX0_keyOfRow at e
  exact lp F (x1 := (0 : Int32)) (x2 := (0 : Int32)) (by decide) i8.1 rfl e
end
theorem wi_two {x v : Int32} {m : Nat} {s s5 : Int32} (hs : s.toBitVec.toNat % 32 = m) (h5 : s5.toBitVec.toNat % 32 = m + 5) (hm : m ≤ 25) (y : (((1 : Int32) <<< (s &&& 31)) - (1 : Int32)).toInt = ((2 ^ m - 1 : Nat) : Int)) (a : 0 ≤ x.toInt) (b : x.toInt < 33554432) (iv : Rg 0 31 v) : (((x &&& (((1 : Int32) <<< (s &&& 31)) - (1 : Int32))) ||| (v <<< (s &&& 31))) ||| ((x >>> (s &&& 31)) <<< (s5 &&& 31))).toInt = x.toInt % ((2 ^ m : Nat) : Int) + v.toInt * ((2 ^ m : Nat) : Int) + x.toInt / ((2 ^ m : Nat) : Int) * ((2 ^ (m + 5) : Nat) : Int) := by
  have p : 0 < ((2 ^ m : Nat) : Int) := Int.natCast_pos.mpr (Nat.two_pow_pos m)
  have p2 : ((2 ^ m : Nat) : Int) ≤ 33554432 := by
    have : 2 ^ m ≤ 2 ^ 25 := Nat.pow_le_pow_right (by decide) hm
    omega
  have v0 := iv.1
  have v1 := iv.2
  have e1 := and_i (x := x) (m := m) a (by omega) y
  have m0 := Int.emod_nonneg x.toInt (show ((2 ^ m : Nat) : Int) ≠ 0 by omega)
  have m1 := Int.emod_lt_of_pos x.toInt p
  have vb : v.toInt * ((2 ^ m : Nat) : Int) ≤ 31 * ((2 ^ m : Nat) : Int) := Int.mul_le_mul_of_nonneg_right v1 (by omega)
  have vn : 0 ≤ v.toInt * ((2 ^ m : Nat) : Int) := Int.mul_nonneg v0 (by omega)
  have e2 := shl_i (x := v) (s := s) hs v0 (by omega)
  have e3 := shr_i (x := x) (s := s) m hs
  have d0 : 0 ≤ x.toInt / ((2 ^ m : Nat) : Int) := Int.ediv_nonneg a (by omega)
  have pe : ((2 ^ (m + 5) : Nat) : Int) = ((2 ^ m : Nat) : Int) * 32 := by rw [Nat.pow_add, Int.natCast_mul]; rfl
  have l1 := Int.ediv_mul_le x.toInt (show ((2 ^ m : Nat) : Int) ≠ 0 by omega)
  have le : x.toInt / ((2 ^ m : Nat) : Int) * ((2 ^ (m + 5) : Nat) : Int) ≤ 32 * 33554432 := by
    rw [pe, ← Int.mul_assoc]
    omega
  have n3 : 0 ≤ x.toInt / ((2 ^ m : Nat) : Int) * ((2 ^ (m + 5) : Nat) : Int) := Int.mul_nonneg d0 (Int.natCast_nonneg _)
  have e4 := shl_i (x := x >>> (s &&& 31)) (s := s5) h5 (by rw [e3]; exact d0) (by rw [e3]; omega)
  have e5 := or_i (x := x &&& (((1 : Int32) <<< (s &&& 31)) - (1 : Int32))) (y := v <<< (s &&& 31)) (m := m) (z := v.toInt) (by rw [e1]; exact m0) (by rw [e1]; exact m1) v0 e2 (by rw [e1, e2]; omega)
  rw [e1, e2] at e5
  have l5 : x.toInt % ((2 ^ m : Nat) : Int) + v.toInt * ((2 ^ m : Nat) : Int) < ((2 ^ (m + 5) : Nat) : Int) := by
    rw [pe]
    omega
  have l6 : ((2 ^ (m + 5) : Nat) : Int) ≤ 1073741824 := by rw [pe]; omega
  rw [or_i (m := m + 5) (z := (x >>> (s &&& 31)).toInt) (by rw [e5]; omega) (by rw [e5]; exact l5) (by rw [e3]; exact d0) e4 (by rw [e5, e4, e3]; omega), e5, e4, e3]
section
variable {h : Hp} {x x1 : Int32} {F : Nat}
/-- a sixth man makes a key that no set has -/
theorem with4_q (hF : 700000 ≤ F) (a : 1048576 ≤ x.toInt) (b : x.toInt ≤ 33554431) (i : Rg 0 23 x1) : Sat (sX0_with F h x x1) (fun o => o.2 = h ∧ 33554432 ≤ o.1.toInt) := by
  have i0 := i.1
  have i1 := i.2
  have z1 : (1 : Int32).toInt = 1 := rfl
  have ev : (x1 + (1 : Int32)).toInt = x1.toInt + 1 := by rw [ta (by rw [z1]; omega), z1]
  have iv : Rg 0 31 (x1 + (1 : Int32)) := ⟨by omega, by omega⟩
  have b35 : ∀ s : Int32, (s = 0 ∨ s = 5 ∨ s = 10 ∨ s = 15 ∨ s = 20 ∨ s = 25) → Sat (sX0_with_35 F h x x1 s) (fun o => o.2 = h ∧ 33554432 ≤ o.1.toInt) := by
    intro s hs
    unfold sX0_with_35
    refine s_q (fun v e1 => s_some ⟨rfl, ?_⟩)
    rcases hs with w | w | w | w | w | w <;> subst w <;> subst e1
    · have e := wi_two (x := x) (v := x1 + (1 : Int32)) (m := 0) (s := 0) (s5 := (0 : Int32) + (5 : Int32)) rfl rfl (by decide) rfl (by omega) (by omega) iv
      rw [ev] at e
      have e : _ = x.toInt % 1 + (x1.toInt + 1) * 1 + x.toInt / 1 * 32 := e
      show _ ≤ _
      rw [e]; omega
    · have e := wi_two (x := x) (v := x1 + (1 : Int32)) (m := 5) (s := 5) (s5 := (5 : Int32) + (5 : Int32)) rfl rfl (by decide) rfl (by omega) (by omega) iv
      rw [ev] at e
      have e : _ = x.toInt % 32 + (x1.toInt + 1) * 32 + x.toInt / 32 * 1024 := e
      show _ ≤ _
      rw [e]; omega
    · have e := wi_two (x := x) (v := x1 + (1 : Int32)) (m := 10) (s := 10) (s5 := (10 : Int32) + (5 : Int32)) rfl rfl (by decide) rfl (by omega) (by omega) iv
      rw [ev] at e
      have e : _ = x.toInt % 1024 + (x1.toInt + 1) * 1024 + x.toInt / 1024 * 32768 := e
      show _ ≤ _
      rw [e]; omega
    · have e := wi_two (x := x) (v := x1 + (1 : Int32)) (m := 15) (s := 15) (s5 := (15 : Int32) + (5 : Int32)) rfl rfl (by decide) rfl (by omega) (by omega) iv
      rw [ev] at e
      have e : _ = x.toInt % 32768 + (x1.toInt + 1) * 32768 + x.toInt / 32768 * 1048576 := e
      show _ ≤ _
      rw [e]; omega
    · have e := wi_two (x := x) (v := x1 + (1 : Int32)) (m := 20) (s := 20) (s5 := (20 : Int32) + (5 : Int32)) rfl rfl (by decide) rfl (by omega) (by omega) iv
      rw [ev] at e
      have e : _ = x.toInt % 1048576 + (x1.toInt + 1) * 1048576 + x.toInt / 1048576 * 33554432 := e
      show _ ≤ _
      rw [e]; omega
    · have e := wi_two (x := x) (v := x1 + (1 : Int32)) (m := 25) (s := 25) (s5 := (25 : Int32) + (5 : Int32)) rfl rfl (by decide) rfl (by omega) (by omega) iv
      rw [ev] at e
      have e : _ = x.toInt % 33554432 + (x1.toInt + 1) * 33554432 + x.toInt / 33554432 * 1073741824 := e
      show _ ≤ _
      rw [e]; omega
  obtain ⟨F, rfl⟩ : ∃ G, F = G + 6 := ⟨F - 6, by omega⟩
  have st : ∀ (f : Nat) (s : Int32), (s = 0 ∨ s = 5 ∨ s = 10 ∨ s = 15 ∨ s = 20 ∨ s = 25) → (¬ (25 : Int32) ≤ s → Sat (sX0_with_2 (F + 6) f h x x1 (s + (5 : Int32))) (fun o => o.2 = h ∧ 33554432 ≤ o.1.toInt)) → Sat (sX0_with_2 (F + 6) (f + 1) h x x1 s) (fun o => o.2 = h ∧ 33554432 ≤ o.1.toInt) := by
    intro f s hs nx
    rw [sX0_with_2]
    refine s_br (fun _ => b35 s hs) (fun n25 => s_br (fun _ => b35 s hs) (fun nd => s_br (fun _ => b35 s hs) (fun _ => s_q (fun y ey => ?_))))
    rw [ey]
    exact nx n25
  unfold sX0_with
  refine st _ 0 (Or.inl rfl) (fun _ => ?_)
  refine st _ 5 (Or.inr (Or.inl rfl)) (fun _ => ?_)
  refine st _ 10 (Or.inr (Or.inr (Or.inl rfl))) (fun _ => ?_)
  refine st _ 15 (Or.inr (Or.inr (Or.inr (Or.inl rfl)))) (fun _ => ?_)
  refine st _ 20 (Or.inr (Or.inr (Or.inr (Or.inr (Or.inl rfl))))) (fun _ => ?_)
  refine st _ 25 (Or.inr (Or.inr (Or.inr (Or.inr (Or.inr rfl))))) (fun n => ?_)
  exact absurd (by decide : (25 : Int32) ≤ (20 : Int32) + (5 : Int32)) n
end
