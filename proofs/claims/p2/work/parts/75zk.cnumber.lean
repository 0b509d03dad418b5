/-! the number of a row's squares -/
theorem num_s {sq n d : Int} {k : Nat} (s1 : 1 ≤ sq) (n0 : 0 ≤ n) (nl : n + 1 ≤ sq ^ k) (d0 : 0 ≤ d) (dl : d < sq) : 0 ≤ n + d * sq ^ k ∧ n + d * sq ^ k + 1 ≤ sq ^ (k + 1) := by
  have p0 : 0 ≤ sq ^ k := Int.pow_nonneg (by omega)
  have m1 : (d + 1) * sq ^ k ≤ sq * sq ^ k := Int.mul_le_mul_of_nonneg_right (by omega) p0
  have m0 : 0 ≤ d * sq ^ k := Int.mul_nonneg d0 p0
  rw [Int.add_mul, Int.one_mul] at m1
  rw [Int.pow_succ, Int.mul_comm (sq ^ k) sq]
  omega
section
variable {ρ : Nat → Nat} {c : Cm} {h : Hp} {x0 pw ro F : Nat} {x1 : Int32} {sq : Int}
theorem number_q (hF : 700000 ≤ F) (T : TH ρ c h) (r0 : ρ x0 = 1) (e6 : hR h x0 6 = some pw) (e7 : hR h x0 7 = some ro) (s1 : 1 ≤ sq) (s64 : sq ≤ 64) (Pw : ∀ i : Nat, i ≤ 5 → (hI h pw i).toInt = sq ^ i) (Rw : ∀ i : Nat, (i : Int) < (hI h x0 8).toInt → ((hI h ro i) &&& (63 : Int32)).toInt < sq) (mx : ¬ x1 = (-1 : Int32) → (x1 &&& (63 : Int32)).toInt < sq ∧ (hI h x0 8).toInt ≤ 4) {q : Nat} (eq : q = if x1 = (-1 : Int32) then 0 else 1) : Sat (sX0_numberOf F h x0 x1) (fun o => o.2 = h ∧ 0 ≤ o.1.toInt ∧ o.1.toInt + 1 ≤ sq ^ ((hI h x0 8).toNatClampNeg + q)) := by
  have qp : ρ pw = 22 := rr T (thR T r0 (i := 6) (k2 := 22) rfl (by decide)) e6
  have qo : ρ ro = 23 := rr T (thR T r0 (i := 7) (k2 := 23) rfl (by decide)) e7
  have i8 := thI T r0 (k := 1) (i := 8) (lo := 0) (hi := 5) rfl
  have c8 := clamp_i i8.1
  have b8 := i8.2
  have m63 : ∀ y : Int32, 0 ≤ (y &&& (63 : Int32)).toInt := fun y => (rg_and (rg_b rfl : Rg 63 63 (63 : Int32)) (by decide) : Rg 0 63 (y &&& (63 : Int32))).1
  have z0 : (0 : Int32).toInt = 0 := rfl
  -- one digit more
  have add1 : ∀ {x2 y : Int32} {k : Nat}, k ≤ 4 → 0 ≤ x2.toInt → x2.toInt + 1 ≤ sq ^ k → (y &&& (63 : Int32)).toInt < sq → (x2 + ((y &&& (63 : Int32)) * (hI h pw k))).toInt = x2.toInt + (y &&& (63 : Int32)).toInt * sq ^ k := fun {x2 y k} hk a b l => by
    have st := num_s s1 a b (m63 y) l
    have pb := (pow_sq (s := sq) (by omega) s64 (k + 1) (by omega)).2
    have n0 : 0 ≤ (y &&& (63 : Int32)).toInt * sq ^ k := Int.mul_nonneg (m63 y) (Int.pow_nonneg (by omega))
    have e : ((y &&& (63 : Int32)) * (hI h pw k)).toInt = (y &&& (63 : Int32)).toInt * sq ^ k := by rw [tm (by rw [Pw k (by omega)]; omega), Pw k (by omega)]
    rw [ta (by rw [e]; omega), e]
  have lp : ∀ (f : Nat) {x2 x3 x4 x5 : Int32}, 0 ≤ x5.toInt → x5.toInt ≤ (hI h x0 8).toInt → 0 ≤ x2.toInt → 0 ≤ x3.toInt → x2.toInt + 1 ≤ sq ^ x3.toNatClampNeg → (x4 = 0 → ¬ x1 = (-1 : Int32) ∧ x3.toInt = x5.toInt) → (¬ x4 = 0 → x3.toInt = x5.toInt + (q : Int)) → (6 - x5.toInt).toNat < f → Sat (sX0_numberOf_19 F f h x0 x1 x2 x3 x4 x5) (fun o => o.2 = h ∧ 0 ≤ o.1.toInt ∧ o.1.toInt + 1 ≤ sq ^ ((hI h x0 8).toNatClampNeg + q)) := by
    intro f
    induction f with
    | zero => intros; omega
    | succ f ih =>
      intro x2 x3 x4 x5 a5 b5 a2 a3 b2 p1 p2 hf
      rw [sX0_numberOf_19]
      unfold sX0_numberOf_115
      have c3 := clamp_i a3
      have c5 := clamp_i a5
      have q1 : q ≤ 1 := by rw [eq]; split <;> omega
      refine s_br (fun l => ?_) (fun n1 => ?_)
      · have l := le_i l
        refine s_br (fun z4 => ?_) (fun n4 => s_some ⟨rfl, a2, ?_⟩)
        · obtain ⟨nm1, e3⟩ := p1 z4
          obtain ⟨mx1, mx2⟩ := mx nm1
          have q1' : q = 1 := by rw [eq, if_neg nm1]
          refine s_ref e6 ?_
          refine s_gd (by rw [thN T qp (k := 22) (n := 6) rfl (by decide)]; exact rg_inB (⟨a3, by omega⟩ : Rg 0 5 x3) (by decide)) ?_
          have e := add1 (x2 := x2) (y := x1) (k := x3.toNatClampNeg) (by omega) a2 b2 mx1
          have st := num_s s1 a2 b2 (m63 x1) mx1
          have en : (hI h x0 8).toNatClampNeg + q = x3.toNatClampNeg + 1 := by omega
          refine s_some ⟨rfl, ?_, ?_⟩
          · show 0 ≤ (x2 + ((x1 &&& (63 : Int32)) * (hI h pw x3.toNatClampNeg))).toInt
            rw [e]; exact st.1
          · show (x2 + ((x1 &&& (63 : Int32)) * (hI h pw x3.toNatClampNeg))).toInt + 1 ≤ _
            rw [e, en]; exact st.2
        · have e3 := p2 n4
          have en : (hI h x0 8).toNatClampNeg + q = x3.toNatClampNeg := by omega
          rw [en]; exact b2
      · have l5 := nle_i n1
        have i5 : Rg 0 4 x5 := ⟨a5, by omega⟩
        have ny := nc_s i5 (by decide)
        have rl := Rw x5.toNatClampNeg (by omega)
        have gr : inB x5 (hN h ro) := by rw [thN T qo (k := 23) (n := 5) rfl (by decide)]; exact rg_inB i5 (by decide)
        -- the row's man
        have b64 : ∀ {y2 y3 y4 : Int32}, 0 ≤ y2.toInt → 0 ≤ y3.toInt → y3.toInt ≤ 4 → y2.toInt + 1 ≤ sq ^ y3.toNatClampNeg → (y4 = 0 → ¬ x1 = (-1 : Int32) ∧ y3.toInt = x5.toInt) → (¬ y4 = 0 → y3.toInt = x5.toInt + (q : Int)) → Sat (sX0_numberOf_64 F (sX0_numberOf_19 F f) h x0 x1 y2 y3 y4 x5) (fun o => o.2 = h ∧ 0 ≤ o.1.toInt ∧ o.1.toInt + 1 ≤ sq ^ ((hI h x0 8).toNatClampNeg + q)) := fun {y2 y3 y4} u2 u3 v3 w2 w1 w4 => by
          unfold sX0_numberOf_64
          have k3 := clamp_i u3
          have i3 : Rg 0 4 y3 := ⟨u3, v3⟩
          have n3 := nc_s i3 (by decide)
          refine s_ref e7 (s_gd gr (s_ref e6 ?_))
          refine s_gd (by rw [thN T qp (k := 22) (n := 6) rfl (by decide)]; exact rg_inB (rg_m i3 (by decide) : Rg 0 5 y3) (by decide)) ?_
          have e := add1 (x2 := y2) (y := hI h ro x5.toNatClampNeg) (k := y3.toNatClampNeg) (by omega) u2 w2 rl
          have st := num_s s1 u2 w2 (m63 (hI h ro x5.toNatClampNeg)) rl
          refine s_q (fun v5 e5 => s_q (fun v6 ev6 => s_q (fun v7 ev7 => ?_)))
          have t5 : v5.toInt = y2.toInt + ((hI h ro x5.toNatClampNeg) &&& (63 : Int32)).toInt * sq ^ y3.toNatClampNeg := by rw [e5]; exact e
          have t6 : v6.toInt = y3.toInt + 1 := by rw [ev6]; exact n3.2
          have t6n : v6.toNatClampNeg = y3.toNatClampNeg + 1 := by rw [ev6]; exact n3.1
          have t7 : v7.toInt = x5.toInt + 1 := by rw [ev7]; exact ny.2
          clear e5 ev6 ev7
          exact ih (by omega) (by omega) (by rw [t5]; exact st.1) (by omega) (by rw [t5, t6n]; exact st.2) (fun z => ⟨(w1 z).1, by have := (w1 z).2; omega⟩) (fun z => by have := w4 z; omega) (by omega)
        have e8n : ∀ {P : Prop}, (¬ x1 = (-1 : Int32) → P) → (x1 = (-1 : Int32) → P) → P := fun a b => by
          by_cases z : x1 = (-1 : Int32)
          · exact b z
          · exact a z
        refine s_br (fun z4 => ?_) (fun n4 => ?_)
        · obtain ⟨nm1, e3⟩ := p1 z4
          obtain ⟨mx1, mx2⟩ := mx nm1
          have q1' : q = 1 := by rw [eq, if_neg nm1]
          refine s_ref e7 (s_gd gr ?_)
          refine s_br (fun _ => b64 a2 a3 (by omega) b2 p1 p2) (fun _ => ?_)
          refine s_ref e6 ?_
          have i3 : Rg 0 3 x3 := ⟨a3, by omega⟩
          have n3 := nc_s i3 (by decide)
          refine s_gd (by rw [thN T qp (k := 22) (n := 6) rfl (by decide)]; exact rg_inB (rg_m i3 (by decide) : Rg 0 5 x3) (by decide)) ?_
          have e := add1 (x2 := x2) (y := x1) (k := x3.toNatClampNeg) (by omega) a2 b2 mx1
          have st := num_s s1 a2 b2 (m63 x1) mx1
          refine s_q (fun v11 e11 => s_q (fun v12 e12 => ?_))
          have t11 : v11.toInt = x2.toInt + (x1 &&& (63 : Int32)).toInt * sq ^ x3.toNatClampNeg := by rw [e11]; exact e
          have t12 : v12.toInt = x3.toInt + 1 := by rw [e12]; exact n3.2
          have t12n : v12.toNatClampNeg = x3.toNatClampNeg + 1 := by rw [e12]; exact n3.1
          clear e11 e12
          exact b64 (by rw [t11]; exact st.1) (by omega) (by omega) (by rw [t11, t12n]; exact st.2) (fun z => absurd z (by decide)) (fun _ => by omega)
        · have e3 := p2 n4
          refine b64 a2 a3 ?_ b2 p1 p2
          rw [e3]
          by_cases z : x1 = (-1 : Int32)
          · have : q = 0 := by rw [eq, if_pos z]
            omega
          · have := (mx z).2
            omega
  unfold sX0_numberOf sX0_numberOf_14
  have one : (0 : Int32).toInt + 1 ≤ sq ^ (0 : Int32).toNatClampNeg := by show (0 : Int) + 1 ≤ sq ^ 0; rw [Int.pow_zero]; decide
  refine s_br (fun z => ?_) (fun z => ?_)
  · have q0 : q = 0 := by rw [eq, if_pos z]
    exact lp F (by decide) (by rw [z0]; exact i8.1) (by decide) (by decide) one (fun w => absurd w (by decide)) (fun _ => by rw [q0]; rfl) (by rw [z0]; omega)
  · exact lp F (by decide) (by rw [z0]; exact i8.1) (by decide) (by decide) one (fun _ => ⟨z, rfl⟩) (fun w => absurd rfl w) (by rw [z0]; omega)
end
