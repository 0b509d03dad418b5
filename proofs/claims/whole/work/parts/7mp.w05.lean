section
/-! FIGURE -/
/-- men in hand of one side -/
def sHd (P : Pz) (d : Nat) : Nat → Int
  | 0 => 0
  | m + 1 => sHd P d m + pzH P (2 * m + d)
def figV (P : Pz) (x : Int) : Int := if x = 0 then (pzS P : Int) else if x = 1 then pzK P else if x = 2 then pzC P 0 else if x = 3 then pzC P 1 else if x = 4 then (pcB (pzR P) 64 : Int) else if x = 5 then (if pzN P = 0 then -1 else (pzQ P 0 : Int)) else if x = 6 then sHd P 0 12 else if x = 7 then sHd P 1 12 else (pcB (fun s => decide (0 < P.1 s)) 64 : Int)
noncomputable def anFig (σ : Sy) (x1 x2 : Int32) : Int := if 0 ≤ x2.toInt ∧ x2.toInt ≤ 8 then plE σ x1 (-102) (fun P => figV P x2.toInt) else -101
section
variable {n j F : Nat} {h : Hp} {σ : Sy} {o : Int32 × Hp} {x1 x2 x3 : Int32} {L : Nat → Nat → Int} {P : Pz}
theorem shd_b (O : PzOk L P) {d : Nat} (hd : d < 2) : ∀ m, m ≤ 12 → 0 ≤ sHd P d m ∧ sHd P d m ≤ 16 * (m : Int)
  | 0, _ => ⟨Int.le_refl _, Int.le_refl _⟩
  | m + 1, l => by
    have := shd_b O hd m (by omega)
    have y := O.2.2.2.2.2.1.1 (2 * m + d) (by omega)
    show 0 ≤ sHd P d m + _ ∧ sHd P d m + _ ≤ _
    omega
theorem shd_z (O : PzOk L P) {d m : Nat} (hd : d < 2) (e : (m : Int) = L 2 0) : ∀ k, m + k ≤ 12 → sHd P d (m + k) = sHd P d m
  | 0, _ => rfl
  | k + 1, l => by
    show sHd P d (m + k) + pzH P (2 * (m + k) + d) = _
    rw [shd_z O hd e k (by omega), O.2.2.2.2.2.1.2.1 (2 * (m + k) + d) (by omega) (Or.inl (by rw [← e]; omega))]
    omega
/-- the hand's size, the class -/
theorem hs_4 {p : Nat} {d : Nat} (O : PzOk L P) (hd : d < 2) (e1 : x1.toInt = (d : Int)) (C : CpA h p (L 10 0) P) : ∀ (f : Nat) {x2 x3 : Int32} {m : Nat}, x3.toInt = (m : Int) → m ≤ 12 → x2.toInt = sHd P d m → sX3_handSize_4 F f h p x1 x2 x3 = some o → o.2 = h ∧ o.1.toInt = sHd P d 12 := by
  have z1 : (1 : Int32).toInt = 1 := rfl
  have z12 : (12 : Int32).toInt = 12 := rfl
  have d1 : x1.toNatClampNeg = d := by have := nc_i (x := x1) (by omega); omega
  intro f
  induction f with
  | zero => intro x2 x3 m _ _ _ e; exact absurd e (by rw [sX3_handSize_4]; exact fun z => nomatch z)
  | succ f ih =>
    intro x2 x3 m e3 lm e2 e
    rw [sX3_handSize_4] at e
    rcases br_s e with ⟨c, e⟩ | ⟨c, e⟩
    · have c := le_i c
      rw [so_e e, show (12 : Nat) = m by omega]
      exact ⟨rfl, e2⟩
    have c := nle_i c
    have B := shd_b O hd m lm
    have m3 : x3.toNatClampNeg = m := by have := nc_i (x := x3) (by omega); omega
    have ph := O.2.2.2.2.2.1.1 (2 * m + d) (by omega)
    obtain ⟨o2, e2', e⟩ := cl_s e
    obtain ⟨a, b⟩ := inh_v (C.1.2.2.2.1) ⟨by omega, by omega⟩ e2'
    have hv' := C.2.2.2.2.2.1.2 (2 * m + d) (by omega)
    rw [show (2 * m + d) % 2 = d by omega, show (2 * m + d) / 2 = m by omega] at hv'
    rw [d1, m3] at b
    have b : o2.1.toInt = pzH P (2 * m + d) := b.trans hv'
    rw [a] at e
    have s : sHd P d (m + 1) = sHd P d m + pzH P (2 * m + d) := rfl
    exact ih (m := m + 1) (by rw [ta (by rw [z1]; omega), z1]; omega) (by omega) (by rw [ta (by omega), s, e2, b]) (nx_e (nx_e e))
theorem pw_0 {x : Int64} {m : Nat} {q : Nat → Nat} (A : Pw x m q) : x = 0 ↔ m = 0 := by
  have a := A.2.2
  constructor
  · intro z
    rw [z] at a
    have : (0 : Int64).toBitVec.toNat = 0 := rfl
    omega
  · intro z
    subst z
    have : pkS q 0 = 0 := rfl
    rw [this] at a
    apply Int64.toBitVec_inj.mp
    apply BitVec.eq_of_toNat_eq
    exact a
theorem ca_fig (k : DyK n h h) (Ok : SyOk σ) (R : RelC n h σ) (e : sX11_figure F h n x1 x2 = some o) : CaO n h σ o (anFig σ x1 x2) := by
  have z0 : (0 : Int32).toInt = 0 := rfl
  have z1 : (1 : Int32).toInt = 1 := rfl
  have z8 : (8 : Int32).toInt = 8 := rfl
  unfold sX11_figure sX11_figure_10 at e
  unfold anFig
  rcases br_s e with ⟨c, e⟩ | ⟨c, e⟩
  · have c := lt_i c
    rw [so_e e, if_neg (by omega)]
    exact cao_0 k R rfl rfl
  have c := nlt_i c
  rcases br_s e with ⟨c2, e⟩ | ⟨c2, e⟩
  rotate_left
  · have c2 := nle_i c2
    rw [so_e e, if_neg (by omega)]
    exact cao_0 k R rfl rfl
  have c2 := le_i c2
  rw [if_pos (by omega)]
  obtain ⟨o3, e3, e⟩ := cl_s e
  obtain ⟨q3, c3⟩ := isp_c k R.2.1 e3
  rw [q3] at e
  rcases c3 with ⟨d5, d6⟩ | ⟨d5, P, d6⟩
  · rw [so_e (bp_e d5 e), ple_n d6]
    exact cao_0 k R rfl rfl
  replace e := bn_e d5 e
  rw [ple_s d6]
  obtain ⟨_, _, b3, _⟩ := spl_b d6
  have A := cpl_p R.2.1 d6
  have Oz := spl_ok Ok d6
  replace e := ce_e (dk_e (a := 0) (f := 13) (b := 148) k (by decide +kernel)) e
  replace e := gg_e e
  obtain ⟨r7, e7, e⟩ := cl_s e
  have y7 := pl_at k b3 e7
  subst y7
  generalize n + (153 + 6 * x1.toNatClampNeg) = p at e A
  unfold figV
  have eqi : ∀ {y : Int32}, x2 = y → x2.toInt = y.toInt := fun z => by rw [z]
  rcases br_s e with ⟨c, e⟩ | ⟨c, e⟩
  · have c : x2.toInt = 0 := eqi c
    rw [so_e e, if_pos c]
    exact cao_0 k R rfl A.2.2.1
  have c := ne_i c
  rw [if_neg (show ¬ x2.toInt = 0 from c)]
  rcases br_s e with ⟨c, e⟩ | ⟨c, e⟩
  · have c : x2.toInt = 1 := eqi c
    rw [so_e e, if_pos c]
    exact cao_0 k R rfl A.2.2.2.2.2.2.2
  have c := ne_i c
  rw [if_neg (show ¬ x2.toInt = 1 from c)]
  rcases br_s e with ⟨c, e⟩ | ⟨c, e⟩
  · have c : x2.toInt = 2 := eqi c
    replace e := ce_e A.1.2.2.2.2 e
    replace e := gg_e e
    rw [so_e e, if_pos c]
    exact cao_0 k R rfl (A.2.2.2.2.2.2.1 0 (by decide))
  have c := ne_i c
  rw [if_neg (show ¬ x2.toInt = 2 from c)]
  rcases br_s e with ⟨c, e⟩ | ⟨c, e⟩
  · have c : x2.toInt = 3 := eqi c
    replace e := ce_e A.1.2.2.2.2 e
    replace e := gg_e e
    rw [so_e e, if_pos c]
    exact cao_0 k R rfl (A.2.2.2.2.2.2.1 1 (by decide))
  have c := ne_i c
  rw [if_neg (show ¬ x2.toInt = 3 from c)]
  rcases br_s e with ⟨c, e⟩ | ⟨c, e⟩
  · have c : x2.toInt = 4 := eqi c
    obtain ⟨o8, e8, e⟩ := cl_s e
    obtain ⟨a, b⟩ := bitc_v e8
    rw [so_e e, if_pos c]
    refine cao_0 (o := (o8.1, o8.2)) k R a ?_
    show o8.1.toInt = _
    have y : pcB (fun q => bitJ (hJ h p 8) q) 64 = pcB (pzR P) 64 := pcb_c 64 (fun q hq => A.2.2.2.1 q hq)
    rw [b, y]
  have c := ne_i c
  rw [if_neg (show ¬ x2.toInt = 4 from c)]
  have Pa := A.2.2.2.2.1.1
  have Pa : Pw (hJ h p 9) (pzN P) (pzQ P) := Pa
  rcases br_s e with ⟨c, e⟩ | ⟨c, e⟩
  · have c : x2.toInt = 5 := eqi c
    rw [if_pos c]
    unfold sX11_figure_130 at e
    rcases br_s e with ⟨c9, e⟩ | ⟨c9, e⟩
    · rw [so_e e, if_pos ((pw_0 Pa).mp (cmp_eq c9))]
      exact cao_0 k R rfl rfl
    · have nn : ¬ pzN P = 0 := fun z => c9 (by
        have y : hJ h p 9 = 0 := (pw_0 Pa).mpr z
        show lg_cmp (hJ h p 9) 0 = 0
        rw [y]; decide)
      obtain ⟨o8, e8, e⟩ := cl_s e
      obtain ⟨a, b⟩ := psq_q e8 Pa (by decide) (by rw [z0]; omega)
      rw [so_e e, if_neg nn]
      exact cao_0 (o := (o8.1, o8.2)) k R a b
  have c := ne_i c
  rw [if_neg (show ¬ x2.toInt = 5 from c)]
  rcases br_s e with ⟨c, e⟩ | ⟨c, e⟩
  · have c : x2.toInt = 6 := eqi c
    obtain ⟨o8, e8, e⟩ := cl_s e
    unfold sX3_handSize at e8
    obtain ⟨a, b⟩ := hs_4 (d := 0) Oz (by decide) rfl A F (m := 0) rfl (by decide) rfl e8
    rw [so_e e, if_pos c]
    exact cao_0 (o := (o8.1, o8.2)) k R a b
  have c := ne_i c
  rw [if_neg (show ¬ x2.toInt = 6 from c)]
  rcases br_s e with ⟨c, e⟩ | ⟨c, e⟩
  · have c : x2.toInt = 7 := eqi c
    obtain ⟨o8, e8, e⟩ := cl_s e
    unfold sX3_handSize at e8
    obtain ⟨a, b⟩ := hs_4 (d := 1) Oz (by decide) rfl A F (m := 0) rfl (by decide) rfl e8
    rw [so_e e, if_pos c]
    exact cao_0 (o := (o8.1, o8.2)) k R a b
  have c := ne_i c
  rw [if_neg (show ¬ x2.toInt = 7 from c)]
  obtain ⟨o8, e8, e⟩ := cl_s e
  unfold sX3_occupied at e8
  replace e8 := ce_e A.1.2.1 e8
  replace e8 := gg_e e8
  replace e8 := ce_e A.1.2.1 e8
  replace e8 := gg_e e8
  rw [so_e e8] at e
  obtain ⟨o9, e9, e⟩ := cl_s e
  obtain ⟨a, b⟩ := bitc_v e9
  rw [so_e e]
  refine cao_0 (o := (o9.1, o9.2)) k R a ?_
  show o9.1.toInt = _
  rw [b]
  have B0 := A.2.1.2.1 0 (by decide)
  have B1 := A.2.1.2.1 1 (by decide)
  rw [pcb_c 64 (fun q hq => ?_)]
  have x0 := B0 q hq
  have x1' := B1 q hq
  show bitJ (hJ h (p + 2) 0 ||| hJ h (p + 2) 1) q = decide (0 < P.1 q)
  have x0 : bitJ (hJ h (p + 2) 0) q = true ↔ _ := x0
  have x1' : bitJ (hJ h (p + 2) 1) q = true ↔ _ := x1'
  rw [bj_or]
  cases u : bitJ (hJ h (p + 2) 0) q with
  | true => rw [decide_eq_true (x0.mp u).1]; rfl
  | false =>
    cases v : bitJ (hJ h (p + 2) 1) q with
    | true => rw [decide_eq_true (x1'.mp v).1]; rfl
    | false =>
      rw [decide_eq_false (fun z => ?_)]
      · rfl
      · have m0 : ¬ (P.1 q - 1) % 2 = ((0 : Nat) : Int) := fun y => by rw [x0.mpr ⟨z, y⟩] at u; exact nomatch u
        have m1 : ¬ (P.1 q - 1) % 2 = ((1 : Nat) : Int) := fun y => by rw [x1'.mpr ⟨z, y⟩] at v; exact nomatch v
        omega
end
end
section
/-! FIGURE, the reference -/
section
variable {n j F : Nat} {h : Hp} {σ : Sy} {o : Int32 × Hp} {x1 x2 x3 : Int32} {L : Nat → Nat → Int} {P : Pz}
theorem pcb_z {b : Nat → Bool} (m : Nat) : ∀ k, (∀ i, m ≤ i → i < m + k → b i = false) → pcB b (m + k) = pcB b m
  | 0, _ => rfl
  | k + 1, e => by
    show pcB b (m + k) + (if b (m + k) = true then 1 else 0) = _
    rw [pcb_z m k (fun i l l' => e i l (by omega)), e (m + k) (by omega) (by omega)]
    rfl
/-- men counted -/
theorem fg_162 {b sq : Nat} (O : PzOk L P) (es : (hI h (n + 513) 13).toInt = (sq : Int)) (l64 : sq ≤ 64) (em : (sq : Int) = L 0 0 * L 1 0) (A : RbA h b P) : ∀ (f : Nat) {x4 x5 : Int32} {q : Nat}, x5.toInt = (q : Int) → q ≤ sq → x4.toInt = (pcB (fun s => decide (0 < P.1 s)) q : Int) → sX15_figure_162 F f h (n + 513) (8 : Int32) b x4 x5 = some o → o.2 = h ∧ o.1.toInt = (pcB (fun s => decide (0 < P.1 s)) 64 : Int) := by
  have z0 : (0 : Int32).toInt = 0 := rfl
  have z1 : (1 : Int32).toInt = 1 := rfl
  intro f
  induction f with
  | zero => intro x4 x5 q _ _ _ e; exact absurd e (by rw [sX15_figure_162]; exact fun z => nomatch z)
  | succ f ih =>
    intro x4 x5 q e5 lq e4 e
    rw [sX15_figure_162] at e
    have B := pcb_le (b := fun s => decide (0 < P.1 s)) q
    rcases br_s e with ⟨c, e⟩ | ⟨c, e⟩
    · have c := le_i c
      unfold sX15_figure_203 at e
      rw [so_e e]
      have y : q = sq := by omega
      subst y
      refine ⟨rfl, ?_⟩
      have z := pcb_z (b := fun s => decide (0 < P.1 s)) q (64 - q) (fun i l l' => decide_eq_false (fun w => by
        have := ((O.1 i (by omega)).2 w).1
        omega))
      rw [show q + (64 - q) = 64 by omega] at z
      rw [z]
      exact e4
    have c := nle_i c
    replace e := bp_e rfl e
    replace e := ce_e A.1.1 e
    replace e := gg_e e
    have q5 : x5.toNatClampNeg = q := by have := nc_i (x := x5) (by omega); omega
    have v := A.2.1 q (by omega)
    have v : (hI h (b + 1) q).toInt = P.1 q := v
    unfold sX15_figure_194 at e
    have s : pcB (fun s => decide (0 < P.1 s)) (q + 1) = pcB (fun s => decide (0 < P.1 s)) q + (if decide (0 < P.1 q) = true then 1 else 0) := rfl
    rcases br_s e with ⟨c2, e⟩ | ⟨c2, e⟩
    · have c2 := le_i c2
      rw [q5] at c2
      have c2 : (hI h (b + 1) q).toInt ≤ 0 := c2
      rw [decide_eq_false (by omega), if_neg (by decide)] at s
      exact ih (q := q + 1) (by rw [ta (by rw [z1]; omega), z1]; omega) (by omega) (by rw [ta (by rw [z0]; omega), z0, s, e4]; omega) (nx_e (nx_e e))
    · have c2 := nle_i c2
      rw [q5] at c2
      have c2 : 0 < (hI h (b + 1) q).toInt := c2
      rw [decide_eq_true (by omega), if_pos rfl] at s
      exact ih (q := q + 1) (by rw [ta (by rw [z1]; omega), z1]; omega) (by omega) (by rw [ta (by rw [z1]; omega), z1, s, e4]; omega) (nx_e (nx_e e))
/-- men in hand -/
theorem fg_116 {b w d : Nat} (O : PzOk L P) (H : LOk L) (r4 : hR h (n + 513) 4 = some (n + w)) (e2 : (hI h (n + w) 2).toInt = L 2 0) (hd : d < 2) (ex : x2.toInt = 6 + (d : Int)) (A : RbA h b P) : ∀ (f : Nat) {x4 x5 : Int32} {m : Nat}, x5.toInt = (m : Int) → (m : Int) ≤ L 2 0 → x4.toInt = sHd P d m → sX15_figure_116 F f h (n + 513) x2 b x4 x5 = some o → o.2 = h ∧ o.1.toInt = sHd P d 12 := by
  have z0 : (0 : Int32).toInt = 0 := rfl
  have z1 : (1 : Int32).toInt = 1 := rfl
  have z2 : (2 : Int32).toInt = 2 := rfl
  have z6 : (6 : Int32).toInt = 6 := rfl
  have z8 : (8 : Int32).toInt = 8 := rfl
  have L2 := H.2.2.1
  intro f
  induction f with
  | zero => intro x4 x5 m _ _ _ e; exact absurd e (by rw [sX15_figure_116]; exact fun z => nomatch z)
  | succ f ih =>
    intro x4 x5 m e5 lm e4 e
    rw [sX15_figure_116] at e
    replace e := ce_e r4 e
    rcases br_s e with ⟨c, e⟩ | ⟨c, e⟩
    · have c := le_i c
      have c : (hI h (n + w) 2).toInt ≤ x5.toInt := c
      have z := shd_z O hd (m := m) (by omega) (12 - m) (by omega)
      rw [show m + (12 - m) = 12 by omega] at z
      unfold sX15_figure_159 at e
      have fin : ∀ {q : Nat} {x : Int32}, sX15_figure_162 F q h (n + 513) x2 b x4 x = some o → o = (x4, h) := fun {q x} e => by
        cases q with
        | zero => exact absurd e (by rw [sX15_figure_162]; exact fun z => nomatch z)
        | succ q =>
          rw [sX15_figure_162] at e
          unfold sX15_figure_203 at e
          rcases br_s e with ⟨_, e⟩ | ⟨_, e⟩
          · exact so_e e
          · exact so_e (bn_e (fun y => by
              have y : x2 = 8 := y
              rw [y] at ex
              omega) e)
      rw [fin e]
      exact ⟨rfl, by rw [z]; exact e4⟩
    have c := nle_i c
    have c : x5.toInt < (hI h (n + w) 2).toInt := c
    replace e := bn_e (fun y => by have := le_i y; omega) e
    replace e := ce_e A.1.2.2.1 e
    replace e := gg_e e
    have B := shd_b O hd m (by omega)
    have ph := O.2.2.2.2.2.1.1 (2 * m + d) (by omega)
    have m2 : ((2 : Int32) * x5).toInt = 2 * (m : Int) := by rw [tm (by rw [z2]; omega), z2, e5]
    have m3 : (((2 : Int32) * x5) + x2).toInt = 2 * (m : Int) + 6 + d := by rw [ta (by omega), m2, ex]; omega
    have ix : ((((2 : Int32) * x5) + x2) - (6 : Int32)).toInt = ((2 * m + d : Nat) : Int) := by rw [ts (by rw [z6]; omega), m3, z6]; omega
    have nx : ((((2 : Int32) * x5) + x2) - (6 : Int32)).toNatClampNeg = 2 * m + d := by have := nc_i (x := (((2 : Int32) * x5) + x2) - (6 : Int32)) (by omega); omega
    have hv' := A.2.2.2.2.2.2.1 (2 * m + d) (by omega)
    have hv' : (hI h (b + 3) (2 * m + d)).toInt = pzH P (2 * m + d) := hv'
    have s : sHd P d (m + 1) = sHd P d m + pzH P (2 * m + d) := rfl
    refine ih (m := m + 1) (by rw [ta (by rw [z1]; omega), z1]; omega) (by omega) ?_ (nx_e (nx_e e))
    rw [nx]
    show (x4 + hI h (b + 3) (2 * m + d)).toInt = _
    rw [ta (by omega), s, e4, hv']
theorem ra_fig (k : DyK n h h) (Ok : SyOk σ) (R : RelR n j h σ) (e : sX15_figure F h (n + 513) x1 x2 = some o) : RaO n j h σ o (anFig σ x1 x2) := by
  have z0 : (0 : Int32).toInt = 0 := rfl
  have z1 : (1 : Int32).toInt = 1 := rfl
  have z6 : (6 : Int32).toInt = 6 := rfl
  have z8 : (8 : Int32).toInt = 8 := rfl
  have kk := dk_X15_figure k e
  have s6 := dk_610 k
  unfold sX15_figure sX15_figure_10 at e
  unfold anFig
  rcases br_s e with ⟨c, e⟩ | ⟨c, e⟩
  · have c := lt_i c
    rw [so_e e, if_neg (by omega)]
    exact rao_0 k R rfl rfl
  have c := nlt_i c
  rcases br_s e with ⟨c2, e⟩ | ⟨c2, e⟩
  rotate_left
  · have c2 := nle_i c2
    rw [so_e e, if_neg (by omega)]
    exact rao_0 k R rfl rfl
  have c2 := le_i c2
  rw [if_pos (by omega)]
  obtain ⟨o3, e3, e⟩ := cl_s e
  obtain ⟨q3, c3⟩ := has_r k R.2.1 e3
  rw [q3] at e
  unfold sX15_figure_18 at e
  rcases c3 with ⟨d5, d6⟩ | ⟨d5, P, d6⟩
  · rw [so_e (bp_e d5 e), ple_n d6]
    exact rao_0 k R rfl rfl
  replace e := bn_e d5 e
  rw [ple_s d6]
  obtain ⟨_, _, b3, _⟩ := spl_b d6
  obtain ⟨b, eb, A⟩ := rpl_p R.2.1 d6
  have Oz := spl_ok Ok d6
  replace e := ce_e (dk_e (a := 513) (f := 14) (b := 536) k (by decide +kernel)) e
  replace e := gg_e e
  replace e := ce_e eb e
  obtain ⟨w, hw, r4, r5, C⟩ := R.1
  obtain ⟨l13, l11, l12⟩ := squ_r R.1
  have lw : (hI h (n + w) 2).toInt = syL σ 2 0 := by
    have := congrFun (congrFun C.2.1 2) 0
    unfold lwR at this
    rw [if_pos (by decide)] at this
    exact this
  have sq := sq_64 Ok.1.1
  have H := Ok.1.1
  rcases br_s e with ⟨c4, e⟩ | ⟨c4, e⟩
  · have c4 := le_i c4
    have cs : x2.toInt = 6 ∨ x2.toInt = 7 ∨ x2.toInt = 8 := by omega
    rcases cs with z | z | z
    · obtain ⟨a, v⟩ := fg_116 (d := 0) Oz H r4 lw (by decide) (by omega) A F (m := 0) rfl (by have := H.2.2.1; omega) rfl e
      refine rao_0 k R a ?_
      rw [v]
      unfold figV
      rw [z]
      rfl
    · obtain ⟨a, v⟩ := fg_116 (d := 1) Oz H r4 lw (by decide) (by omega) A F (m := 0) rfl (by have := H.2.2.1; omega) rfl e
      refine rao_0 k R a ?_
      rw [v]
      unfold figV
      rw [z]
      rfl
    · have y : x2 = 8 := Int32.toInt_inj.mp z
      subst y
      have g : ∀ {q : Nat}, sX15_figure_116 F q h (n + 513) (8 : Int32) b (0 : Int32) (0 : Int32) = some o → sX15_figure_162 F F h (n + 513) (8 : Int32) b (0 : Int32) (0 : Int32) = some o := fun {q} e => by
        cases q with
        | zero => exact absurd e (by rw [sX15_figure_116]; exact fun z => nomatch z)
        | succ q =>
          rw [sX15_figure_116] at e
          replace e := ce_e r4 e
          unfold sX15_figure_159 at e
          rcases br_s e with ⟨_, e⟩ | ⟨_, e⟩
          · exact e
          · exact bp_e (Int32.le_refl _) e
      obtain ⟨a, v⟩ := fg_162 (sq := (syL σ 0 0 * syL σ 1 0).toNat) Oz (by rw [l13]; omega) (by omega) (by omega) A F (q := 0) rfl (by omega) rfl (g e)
      exact rao_0 k R a v
  have c4 := nle_i c4
  obtain ⟨own, Dw⟩ := k.1.1
  obtain ⟨lb, bk, _⟩ := bk_dy Dw (q := (536, 60, 5, 4000, fsB)) (by decide) b3 eb
  have bk : b + 5 ≤ hS h := bk.1
  replace e := nx_e e
  obtain ⟨h3, w3, e⟩ := nm_s e
  have f3 : FrW (RS n) h h3 := ⟨by rw [w3]; exact Nat.le_succ _, fun a i l _ => by
    rw [w3]
    exact ⟨by rw [nC_I, if_neg (by omega)], by rw [nC_J, if_neg (by omega)]⟩⟩
  have rr3 : ∀ i, hR h3 b i = hR h b i := fun i => by rw [w3, nC_R, if_neg (by omega)]
  have rd : ∀ {g : Hp} {a i : Nat}, FrW (RS n) h g → b ≤ a → a < b + 5 → hI g a i = hI h a i ∧ hJ g a i = hJ h a i := fun F l l' => F.2 _ _ (by omega) (fun z => by unfold RS at z; omega)
  unfold sX15_figure_41 sX15_figure_82 sX15_figure_102 at e
  replace e := gg_e e
  obtain ⟨h4, w4, e⟩ := nm_s e
  have f4 : FrW (RS n) h h4 := by rw [w4]; exact fw_n f3 (Nat.le_refl _)
  have rr4 : ∀ i, hR h4 b i = hR h b i := fun i => by rw [w4]; exact rr3 i
  replace e := gg_e e
  obtain ⟨h5, w5, e⟩ := nm_s e
  have f5 : FrW (RS n) h h5 := by rw [w5]; exact fw_n f4 (Nat.le_refl _)
  have rr5 : ∀ i, hR h5 b i = hR h b i := fun i => by rw [w5]; exact rr4 i
  have A6 : hR h b 6 = some (b + 4) := A.1.2.2.2
  have A4 : hR h b 4 = some (b + 2) := A.1.2.1
  replace e := ce_e ((rr5 6).trans A6) e
  replace e := gg_e e
  replace e := gg_e e
  obtain ⟨h6, w6, e⟩ := nm_s e
  have f6 : FrW (RS n) h h6 := by rw [w6]; exact fw_n f5 (Nat.le_refl _)
  have rr6 : ∀ i, hR h6 b i = hR h b i := fun i => by rw [w6]; exact rr5 i
  replace e := ce_e ((rr6 6).trans A6) e
  replace e := gg_e e
  replace e := gg_e e
  obtain ⟨h7, w7, e⟩ := nm_s e
  have f7 : FrW (RS n) h h7 := by rw [w7]; exact fw_n f6 (Nat.le_refl _)
  have rr7 : ∀ i, hR h7 b i = hR h b i := fun i => by rw [w7]; exact rr6 i
  obtain ⟨o8, e8, e⟩ := cl_s e
  obtain ⟨a8, v8⟩ := bitc_v e8
  rw [a8] at e
  replace e := gg_e e
  obtain ⟨h8, w8, e⟩ := nm_s e
  have f8 : FrW (RS n) h h8 := by rw [w8]; exact fw_n f7 (Nat.le_refl _)
  have rr8 : ∀ i, hR h8 b i = hR h b i := fun i => by rw [w8]; exact rr7 i
  have n3 : (hI h8 b 3).toInt = (pzN P : Int) := by rw [(rd f8 (by omega) (by omega)).1]; exact A.2.2.2.2.1
  -- the last of the six
  have last : ∃ v5 : Int32, v5.toInt = (if pzN P = 0 then -1 else (pzQ P 0 : Int)) ∧ ∃ h9, h9 = wI h8 (hS h) 5 v5 ∧ o = (hI h9 (hS h) x2.toNatClampNeg, h9) := by
    rcases br_s e with ⟨c9, e⟩ | ⟨c9, e⟩
    · have c9 := le_i c9
      have c9 : (hI h8 b 3).toInt ≤ 0 := c9
      replace e := gg_e e
      obtain ⟨h9, w9, e⟩ := nm_s e
      replace e := gg_e e
      exact ⟨(-1 : Int32), by rw [if_pos (by omega)]; rfl, h9, w9, so_e e⟩
    · have c9 := nle_i c9
      have c9 : 0 < (hI h8 b 3).toInt := c9
      replace e := ce_e ((rr8 4).trans A4) e
      replace e := gg_e e
      replace e := gg_e e
      obtain ⟨h9, w9, e⟩ := nm_s e
      replace e := gg_e e
      refine ⟨hI h8 (b + 2) 0, ?_, h9, w9, so_e e⟩
      rw [if_neg (by omega), (rd f8 (by omega) (by omega)).1]
      exact A.2.2.2.2.2.1 0 (by omega)
  obtain ⟨v5, e5, h9, w9, eo⟩ := last
  subst eo
  have f9 : FrW (RS n) h h9 := by rw [w9]; exact fw_n f8 (Nat.le_refl _)
  refine rao_s (o := (hI h9 (hS h) x2.toNatClampNeg, h9)) k Ok R f9 kk ?_
  have v4 : h4 = wI h3 (hS h) 0 (hI h b 1) := by rw [w4, (rd f3 (by omega) (by omega)).1]; rfl
  have v5' : h5 = wI h4 (hS h) 1 (hI h b 7) := by rw [w5, (rd f4 (by omega) (by omega)).1]; rfl
  have v6 : h6 = wI h5 (hS h) 2 (hI h (b + 4) 0) := by rw [w6, (rd f5 (by omega) (by omega)).1]; rfl
  have v7 : h7 = wI h6 (hS h) 3 (hI h (b + 4) 1) := by rw [w7, (rd f6 (by omega) (by omega)).1]; rfl
  have v8' : h8 = wI h7 (hS h) 4 o8.1 := by rw [w8]; rfl
  have al : ∀ q, q < 6 → hI h9 (hS h) q = if q = 5 then v5 else if q = 4 then o8.1 else if q = 3 then hI h (b + 4) 1 else if q = 2 then hI h (b + 4) 0 else if q = 1 then hI h b 7 else if q = 0 then hI h b 1 else hI h3 (hS h) q := fun q _ => by
    rw [w9, v8', v7, v6, v5', v4]
    simp only [r_I, true_and]
  show (hI h9 (hS h) x2.toNatClampNeg).toInt = _
  have nc := nc_i (x := x2) (by omega)
  rw [al _ (by omega)]
  unfold figV
  have cs : x2.toInt = 0 ∨ x2.toInt = 1 ∨ x2.toInt = 2 ∨ x2.toInt = 3 ∨ x2.toInt = 4 ∨ x2.toInt = 5 := by omega
  rcases cs with z | z | z | z | z | z
  · rw [z, show x2.toNatClampNeg = 0 by omega]
    exact A.2.2.1
  · rw [z, show x2.toNatClampNeg = 1 by omega]
    exact A.2.2.2.2.2.2.2.2
  · rw [z, show x2.toNatClampNeg = 2 by omega]
    exact A.2.2.2.2.2.2.2.1 0 (by decide)
  · rw [z, show x2.toNatClampNeg = 3 by omega]
    exact A.2.2.2.2.2.2.2.1 1 (by decide)
  · rw [z, show x2.toNatClampNeg = 4 by omega]
    show o8.1.toInt = (pcB (pzR P) 64 : Int)
    have y : pcB (fun q => bitJ (hJ h7 b 2) q) 64 = pcB (pzR P) 64 := pcb_c 64 (fun q hq => by
      rw [(rd f7 (by omega) (by omega)).2]
      exact A.2.2.2.1 q hq)
    rw [v8, y]
  · rw [z, show x2.toNatClampNeg = 5 by omega]
    exact e5
end
end
section
/-! the text given out: WRITE and VIEW -/
section
variable {n j F : Nat} {g h o : Hp} {σ : Sy} {x1 x2 x3 : Int32}
theorem rlw_i {L : Nat → Nat → Int} (k' : DyK n h o) (I : ∀ j i, (j = 513 ∧ (i = 11 ∨ i = 12 ∨ i = 13)) ∨ (516 ≤ j ∧ j ≤ 535) → hI o (n + j) i = hI h (n + j) i ∧ hJ o (n + j) i = hJ h (n + j) i) (R1 : RLw n h L) : RLw n o L := by
  obtain ⟨w, hw, e4, e5, C⟩ := R1
  have f4 := k'.1.2.2.2.2.2 4 (Or.inl rfl)
  have f5 := k'.1.2.2.2.2.2 5 (Or.inr rfl)
  refine ⟨w, hw, by rw [f4]; exact e4, by rw [f5]; exact e5, ?_⟩
  have e : ∀ j i, j < 10 → hI o (n + w + j) i = hI h (n + w + j) i ∧ hJ o (n + w + j) i = hJ h (n + w + j) i := fun j i hj => by
    have := I (w + j) i (by omega)
    rw [show n + (w + j) = n + w + j by omega] at this
    exact this
  have Rw : ∀ p, p ∈ ([(3, 1), (4, 2), (5, 3), (6, 4), (7, 5), (8, 6), (9, 7), (13, 8), (14, 9)] : List (Nat × Nat)) → hR o (n + w) p.1 = some (n + w + p.2) := fun p hp => by
    rcases hw with z | z <;> subst z
    · have : ∀ q, q ∈ ([(3, 1), (4, 2), (5, 3), (6, 4), (7, 5), (8, 6), (9, 7), (13, 8), (14, 9)] : List (Nat × Nat)) → (516, q.1, 516 + q.2) ∈ edL := by decide +kernel
      have := dk_e k' (this p hp)
      rw [show n + (516 + p.2) = n + 516 + p.2 by omega] at this
      exact this
    · have : ∀ q, q ∈ ([(3, 1), (4, 2), (5, 3), (6, 4), (7, 5), (8, 6), (9, 7), (13, 8), (14, 9)] : List (Nat × Nat)) → (526, q.1, 526 + q.2) ∈ edL := by decide +kernel
      have := dk_e k' (this p hp)
      rw [show n + (526 + p.2) = n + 526 + p.2 by omega] at this
      exact this
  refine rw0_i (V := vM n 0 0 0 0 0 (n + w)) C (funext fun i => (e 0 i (by decide)).1) (e 0 21 (by decide)).2 (fun q q1 q2 => ?_) (I 513 11 (by omega)).1 (I 513 12 (by omega)).1 (I 513 13 (by omega)).1 ⟨f4.trans e4, Rw (3, 1) (by decide), Rw (4, 2) (by decide), Rw (5, 3) (by decide), Rw (6, 4) (by decide), Rw (7, 5) (by decide), Rw (8, 6) (by decide), Rw (9, 7) (by decide), Rw (13, 8) (by decide), Rw (14, 9) (by decide)⟩
  have : q = 73 ∨ q = 74 ∨ q = 75 ∨ q = 76 ∨ q = 77 ∨ q = 78 ∨ q = 79 ∨ q = 80 ∨ q = 81 := by omega
  rcases this with z | z | z | z | z | z | z | z | z <;> subst z
  · exact funext fun i => (e 1 i (by decide)).1
  · exact funext fun i => (e 2 i (by decide)).1
  · exact funext fun i => (e 3 i (by decide)).1
  · exact funext fun i => (e 4 i (by decide)).1
  · exact funext fun i => (e 5 i (by decide)).1
  · exact funext fun i => (e 6 i (by decide)).1
  · exact funext fun i => (e 7 i (by decide)).1
  · exact funext fun i => (e 8 i (by decide)).1
  · exact funext fun i => (e 9 i (by decide)).1
def syOut (σ : Sy) (l : List Int) : Sy := (syL σ, syP σ, syG σ, syQ σ, syMv σ, syF σ, l)
/-- only the text given out is another -/
theorem relc_o {W : Nat → Nat → Prop} {l : List Int} (k : DyK n h h) (k' : DyK n h o) (Ok : SyOk σ) (F : FrW W h o) (w : ∀ a i, W a i → a < hS h → CSc n a i ∨ a = n + 3 ∨ a = n + 4) (R : RelC n h σ) (N : COu n o (syOut σ l)) : RelC n o (syOut σ l) := by
  have s6 := dk_610 k
  have I : ∀ j i, j < 610 → ¬ j = 3 → ¬ j = 4 → ¬ CSc n (n + j) i → hI o (n + j) i = hI h (n + j) i ∧ hJ o (n + j) i = hJ h (n + j) i := fun j i l a b c => F.2 _ _ (by omega) (fun z => by
    rcases w _ _ z (by omega) with z | z
    · exact c z
    · omega)
  have nw : ∀ j i, j < 610 → ¬ j = 3 → ¬ j = 4 → ¬ CSc n (n + j) i → ¬ W (n + j) i := fun j i l a b c z => by
    rcases w _ _ z (by omega) with z | z
    · exact c z
    · omega
  obtain ⟨R1, R2, R3, R4, _⟩ := R
  refine ⟨cll_f k k' (fun j i hj => I j i (by omega) (by omega) (by omega) (fun c => by unfold CSc at c; omega)) R1, fun p hp => ?_, fun g' hg => ?_, ⟨?_, ?_⟩, N⟩
  · exact cpi_f (σ := σ) k k' F hp (nw 149 p (by decide) (by decide) (by decide) (fun c => by unfold CSc at c; omega)) (fun j i hj => by
      have := nw (153 + 6 * p + j) i (by omega) (by omega) (by omega) (fun c => by unfold CSc at c; omega)
      rw [show n + (153 + 6 * p + j) = n + (153 + 6 * p) + j by omega] at this
      exact this) (R2 p hp)
  · exact cgi_f (σ := σ) k k' F hg (lgle Ok g' hg) (nw 152 g' (by decide) (by decide) (by decide) (fun c => by unfold CSc at c; omega)) (fun q hq => nw 151 _ (by decide) (by decide) (by decide) (fun c => by unfold CSc at c; omega)) (fun q a hq e lo hi j f hj c => by
      rcases w _ _ c (by omega) with c | c
      · unfold CSc at c; omega
      · omega) (R3 g' hg)
  · rw [(I 48 6 (by decide) (by decide) (by decide) (fun c => by unfold CSc at c; omega)).1]; exact R4.1
  · rcases R4.2 with z | ⟨B, b1, b2, b3⟩
    · exact Or.inl z
    · refine Or.inr ⟨B, b1, cpa_f b2 (fun q hq => ?_) (fun j i hj => ?_), fun q hq => ?_⟩
      · have : ∀ q, q ∈ fsP → (49, q.1, 49 + q.2) ∈ edL := by decide +kernel
        have := dk_e k' (this q hq)
        rw [show n + (49 + q.2) = n + 49 + q.2 by omega] at this
        exact this
      · have := I (49 + j) i (by omega) (by omega) (by omega) (fun c => by unfold CSc at c; omega)
        rw [show n + (49 + j) = n + 49 + j by omega] at this
        exact this
      · obtain ⟨P, p1, p2⟩ := b3 q hq
        exact ⟨P, p1, by rw [(I 61 q (by decide) (by decide) (by decide) (fun c => by unfold CSc at c; omega)).1]; exact p2⟩
theorem relr_o {W : Nat → Nat → Prop} {l : List Int} (k : DyK n h h) (k' : DyK n h o) (Ok : SyOk σ) (F : FrW W h o) (w : ∀ a i, W a i → a < hS h → RS n a i ∨ (a = n + 513 ∧ i = 3) ∨ a = n + 515) (R : RelR n j h σ) (N : ROu n o (syOut σ l)) : RelR n j o (syOut σ l) := by
  have s6 := dk_610 k
  have nw : ∀ j i, j < 610 → ¬ (j = 513 ∧ i = 3) → ¬ j = 515 → ¬ RS n (n + j) i → ¬ W (n + j) i := fun j i l a b c z => by
    rcases w _ _ z (by omega) with z | z
    · exact c z
    · omega
  have dy : ∀ {a f : Nat}, n + 610 ≤ a → a < hS h → ¬ W a f := fun lo hi c => by
    rcases w _ _ c hi with c | c
    · unfold RS at c; omega
    · omega
  obtain ⟨R1, R2, R3, R4, _, R6⟩ := R
  refine ⟨rlw_i k' (fun j i hj => F.2 _ _ (by omega) (nw j i (by omega) (by omega) (by omega) (fun c => by unfold RS at c; omega))) R1, fun p hp => ?_, fun g' hg => ?_, ⟨?_, fun q hq => ?_⟩, N, ?_⟩
  · exact rpi_f (σ := σ) k k' F hp (nw 537 p (by decide) (by omega) (by decide) (fun c => by unfold RS at c; omega)) (fun a e lo hi j f hj => dy (by omega) (by omega)) (R2 p hp)
  · exact rgi_f (σ := σ) k k' F hg (lgle Ok g' hg) (nw 582 g' (by decide) (by omega) (by decide) (fun c => by unfold RS at c; omega)) (fun q hq => nw 581 _ (by decide) (by omega) (by decide) (fun c => by unfold RS at c; omega)) (fun q a hq e lo hi j f hj => dy (by omega) (by omega)) (R3 g' hg)
  · rw [(F.2 (n + 513) 44 (by omega) (nw 513 44 (by decide) (by decide) (by decide) (fun c => by unfold RS at c; omega))).1]; exact R4.1
  · obtain ⟨P, a, p1, p2, p3, p4⟩ := R4.2 q hq
    have i5 := (F.2 (n + 585) q (by omega) (nw 585 q (by decide) (by omega) (by decide) (fun c => by unfold RS at c; omega))).1
    have nc := nc_i p2.1
    have lt : (hI h (n + 585) q).toNatClampNeg < 3000 := by omega
    obtain ⟨lo, hi⟩ := dy_lo k (q := (583, 3000, 5, 8000, fsB)) (by decide) lt p3
    obtain ⟨y1, y2⟩ := brd_f k k' F (q := (583, 3000, 5, 8000, fsB)) (by decide) rfl rfl lt p3 (fun j f hj => dy (by omega) (by have : a + 5 ≤ hS h := hi; have : j < 5 := hj; omega)) p4
    exact ⟨P, a, p1, by rw [i5]; exact p2, by rw [i5]; exact y1, y2⟩
  · exact rse_f k F (nw 513 16 (by decide) (by decide) (by decide) (fun c => by unfold RS at c; omega)) R6
end
end
section
/-! WRITE and VIEW -/
section
variable {L : Nat → Nat → Int} {P : Pz}
/-- rights stand on first ranks -/
theorem rgt_ce (H : LOk L) (O : PzOk L P) : ∀ k, k ≤ 64 → (rgT L P k).length ≤ 2 * cEd (L 0 0).toNat (L 1 0).toNat k
  | 0, _ => Nat.le_refl _
  | k + 1, l => by
    have ih := rgt_ce H O k (by omega)
    have h0 := H.1
    have h1 := H.2.1
    have e : (rgT L P (k + 1)).length = (rgT L P k).length + (if pzR P k = true then sqTx L k else []).length := by rw [rgT, List.length_append]
    rw [e]
    show _ ≤ 2 * (cEd (L 0 0).toNat (L 1 0).toNat k + if k / (L 0 0).toNat = 0 ∨ k / (L 0 0).toNat + 1 = (L 1 0).toNat then 1 else 0)
    by_cases c : pzR P k = true
    · rw [if_pos c, sqt_l]
      obtain ⟨_, d, hd, _, r⟩ := O.2.2.2.1 k (by omega) c
      have q : (k : Int) / L 0 0 = ((k / (L 0 0).toNat : Nat) : Int) := by
        rw [Int.natCast_ediv, Int.toNat_of_nonneg (by omega)]
      unfold rkF at r
      rw [q] at r
      rw [if_pos (by
        have : d = 0 ∨ d = 1 := by omega
        rcases this with z | z <;> subst z
        · rw [if_pos (show ((0 : Nat) : Int) = 0 from rfl)] at r
          omega
        · rw [if_neg (show ¬ ((1 : Nat) : Int) = 0 by decide)] at r
          omega)]
      omega
    · rw [if_neg c]
      show (rgT L P k).length + 0 ≤ _
      split <;> omega
theorem hdn_le (O : PzOk L P) {d r : Nat} (hd : d < 2) (hr : (r : Int) = L 10 0 ∨ 12 ≤ r) : ∀ m, m ≤ 12 → hdN P d m + (if r < m then 16 else 0) ≤ 16 * m
  | 0, _ => by rw [if_neg (by omega)]; exact Nat.le_refl _
  | m + 1, l => by
    have ih := hdn_le O hd hr m (by omega)
    have b := O.2.2.2.2.2.1.1 (2 * m + d) (by omega)
    show hdN P d m + (pzH P (2 * m + d)).toNat + _ ≤ _
    by_cases c : r = m
    · have z := O.2.2.2.2.2.1.2.1 (2 * m + d) (by omega) (Or.inr (by
        rcases hr with hr | hr
        · rw [← hr]; omega
        · omega))
      rw [if_neg (by omega)] at ih
      rw [if_pos (by omega), z]
      show hdN P d m + 0 + 16 ≤ _
      omega
    · by_cases c2 : r < m
      · rw [if_pos c2] at ih
        rw [if_pos (by omega)]
        omega
      · rw [if_neg c2] at ih
        rw [if_neg (by omega)]
        omega
theorem nmd_3 : ∀ k : Fin 201, (nmD 12 k.val).length ≤ 3 := by decide +kernel
theorem wrt_len (H : LOk L) (K : LawK L) (O : PzOk L P) : (wrTx L P).length ≤ 512 := by
  have h0 := H.1
  have h1 := H.2.1
  have h2 := H.2.2.1
  have a := mnt_len (P := P) (S := fun _ => true) H (L 1 0).toNat
  have c := nmd_3 ⟨(pzK P).toNat, by have := O.2.2.2.2.2.2.2; omega⟩
  have c : (nmD 12 (pzK P).toNat).length ≤ 3 := c
  have d := pst_len (L := L) (P := P) (pzN P)
  have n7 : pzN P ≤ 7 := by rcases O.2.2.2.2.1 with z | z <;> omega
  have i1 : ∀ {p : Prop} [Decidable p], (if p then [45] else ([] : List Int)).length ≤ 1 := fun {p} _ => by
    split
    · exact Nat.le_refl _
    · exact Nat.zero_le _
  have hh : (hdA L P).length = hdN P 0 (L 2 0).toNat + hdN P 1 (L 2 0).toNat := by
    unfold hdA
    rw [List.length_append, hdt_len, hdt_len]
  have b : (rgT L P (L 0 0 * L 1 0).toNat).length + (hdA L P).length ≤ 384 := by
    by_cases r : 0 ≤ L 10 0
    · have x := rgt_ce H O (L 0 0 * L 1 0).toNat (by have := sq_64 H; omega)
      have ce := ce_16 (L 0 0).toNat (by omega) (L 1 0).toNat (by omega)
      have em : (L 0 0 * L 1 0).toNat = (L 0 0).toNat * (L 1 0).toNat := by
        have e1 : L 0 0 = ((L 0 0).toNat : Int) := by omega
        have e2 : L 1 0 = ((L 1 0).toNat : Int) := by omega
        have : L 0 0 * L 1 0 = (((L 0 0).toNat * (L 1 0).toNat : Nat) : Int) := by rw [Int.natCast_mul, ← e1, ← e2]
        omega
      rw [← em] at ce
      have lr := K.2.1
      have y0 := hdn_le O (d := 0) (r := (L 10 0).toNat) (by decide) (Or.inl (by omega)) (L 2 0).toNat (by omega)
      have y1 := hdn_le O (d := 1) (r := (L 10 0).toNat) (by decide) (Or.inl (by omega)) (L 2 0).toNat (by omega)
      rw [if_pos (by omega)] at y0 y1
      omega
    · have z : ∀ k, k ≤ 64 → (rgT L P k).length = 0 := by
        intro k
        induction k with
        | zero => intro _; rfl
        | succ k ih =>
          intro l
          rw [rgT, List.length_append, ih (by omega), if_neg (fun c => by
            obtain ⟨x, _⟩ := O.2.2.2.1 k (by omega) c
            have := K.2.2.1
            omega)]
          rfl
      have y0 := hdn_le O (d := 0) (r := 12) (by decide) (Or.inr (Nat.le_refl _)) (L 2 0).toNat (by omega)
      have y1 := hdn_le O (d := 1) (r := 12) (by decide) (Or.inr (Nat.le_refl _)) (L 2 0).toNat (by omega)
      rw [if_neg (by omega)] at y0 y1
      rw [z _ (by have := sq_64 H; omega)]
      omega
  unfold wrTx tl2 tl3 tl4
  simp only [List.length_append, List.length_cons, List.length_nil]
  have w1 := i1 (p := prB' (∀ q, q < 64 → pzR P q = false) = true)
  have w2 := i1 (p := pzN P = 0)
  have w3 := i1 (p := hdA L P = [])
  omega
end
section
variable {n j F : Nat} {h : Hp} {σ : Sy} {o : Int32 × Hp} {x1 x2 x3 : Int32}
/-- the text cleared, the class -/
theorem clr_k (k : DyK n h h) (Ok : SyOk σ) (R : RelC n h σ) : RelC n (wI h (n + 3) 1 0) (syOut σ []) ∧ FrW (fun a _ => a = n + 3 ∨ a = n + 4) h (wI h (n + 3) 1 0) := by
  have F : FrW (fun a _ => a = n + 3 ∨ a = n + 4) h (wI h (n + 3) 1 0) := ⟨Nat.le_refl _, fun a i _ nw => ⟨by rw [rI_a (fun z => nw (Or.inl z))], rfl⟩⟩
  exact ⟨relc_o (l := []) k (dk_wI k) Ok F (fun a i c _ => Or.inr c) R ⟨by rw [r_I, if_pos ⟨rfl, rfl⟩]; rfl, fun i hi => absurd hi (Nat.not_lt_zero _)⟩, F⟩
theorem ouc_k {s p q r l' : Nat} {h' : Hp} {l : List Int} (k : DyK n h h') (e1 : (hI h' (n + 3) 1).toInt = (l.length : Int)) (e2 : ∀ i, i < l.length → l[i]? = some (hI h' (n + 4) i).toInt) : OuC (vK n s p q r (n + 3) l') h' l := by
  refine ⟨dk_e (a := 3) (f := 0) (b := 4) k (by decide +kernel), ?_, e1, e2⟩
  show hN h' (n + 4) ≤ _
  rw [ln_d k.1 (a := 4) (w := 512) (by decide)]
  decide
theorem syo_ok {l : List Int} (Ok : SyOk σ) : SyOk (syOut σ l) := Ok
noncomputable def anWrt (σ : Sy) (x1 : Int32) : Int := plE σ x1 (-102) (fun P => ((wrTx (syL σ) P).length : Int))
noncomputable def syWrt (σ : Sy) (x1 : Int32) : Sy := match sPl σ x1 with
  | none => σ
  | some P => syOut σ (wrTx (syL σ) P)
theorem sywrt_n (e : sPl σ x1 = none) : syWrt σ x1 = σ := by unfold syWrt; rw [e]
theorem sywrt_s {P : Pz} (e : sPl σ x1 = some P) : syWrt σ x1 = syOut σ (wrTx (syL σ) P) := by unfold syWrt; rw [e]
theorem ca_write (k : DyK n h h) (Ok : SyOk σ) (R : RelC n h σ) (e : sX11_write F h n x1 = some o) : CaO n h (syWrt σ x1) o (anWrt σ x1) := by
  have kk := dk_X11_write k e
  have s6 := dk_610 k
  unfold sX11_write at e
  unfold anWrt
  obtain ⟨o1, e1, e⟩ := cl_s e
  obtain ⟨q1, c1⟩ := isp_c k R.2.1 e1
  rw [q1] at e
  rcases c1 with ⟨d1, d2⟩ | ⟨d1, P, d2⟩
  · rw [so_e (bp_e d1 e), ple_n d2, sywrt_n d2]
    exact cao_0 k R rfl rfl
  replace e := bn_e d1 e
  rw [ple_s d2, sywrt_s d2]
  replace e := ce_e (dk_e (a := 0) (f := 1) (b := 3) k (by decide +kernel)) e
  obtain ⟨h4, e4, e⟩ := cl_s e
  unfold sX9_clear at e4
  have y4 := so_e (nx_e e4)
  obtain ⟨R4, F4⟩ := clr_k k Ok R
  rw [← y4] at R4 F4
  have k4 : DyK n h h4 := by rw [y4]; exact dk_wI k
  have l4 : (hI h4 (n + 3) 1).toInt = (([] : List Int).length : Int) := by rw [y4, r_I, if_pos ⟨rfl, rfl⟩]; rfl
  clear y4 e4
  obtain ⟨_, _, b3, _⟩ := spl_b d2
  have Oz := spl_ok Ok d2
  have A := cpl_p (σ := syOut σ []) R4.2.1 d2
  replace e := ce_e (dk_e (a := 0) (f := 7) (b := 38) k4 (by decide +kernel)) e
  replace e := ce_e (dk_e (a := 0) (f := 13) (b := 148) k4 (by decide +kernel)) e
  replace e := gg_e e
  obtain ⟨r8, e8, e⟩ := cl_s e
  have y8 := pl_at k4 b3 e8
  subst y8
  replace e := ce_e (dk_e (a := 0) (f := 1) (b := 3) k4 (by decide +kernel)) e
  obtain ⟨o10, e10, e⟩ := cl_s e
  obtain ⟨own, Dw⟩ := k4.1.1
  have hp := bk_pl Dw.1 b3
  have D : VD (vK n (hS h4) (n + (153 + 6 * x1.toNatClampNeg)) (hS h4 + 1000 * 2) (hS h4 + 1000 * 3) (n + 3) (hS h4 + 1000 * 10)) := vd_k Dw.1 hp (bke_o (c := 2)) (bke_o (c := 3)) (bk_out Dw.1) (bke_o (c := 10)) (by omega)
  have MC : MkC (vK n (hS h4) (n + (153 + 6 * x1.toNatClampNeg)) (hS h4 + 1000 * 2) (hS h4 + 1000 * 3) (n + 3) (hS h4 + 1000 * 10)) h4 (syL σ) := cll_k.mpr R4.1
  have W : WrC (vK n (hS h4) (n + (153 + 6 * x1.toNatClampNeg)) (hS h4 + 1000 * 2) (hS h4 + 1000 * 3) (n + 3) (hS h4 + 1000 * 10)) h4 (syL σ) P := ⟨dk_e (a := 38) (f := 0) (b := 5) k4 (by decide +kernel), MC.2, cpa_k.mpr A⟩
  have Ou := ouc_k (s := hS h4) (p := n + (153 + 6 * x1.toNatClampNeg)) (q := hS h4 + 1000 * 2) (r := hS h4 + 1000 * 3) (l' := hS h4 + 1000 * 10) (l := []) k4 l4 (fun i hi => absurd hi (Nat.not_lt_zero _))
  have cap : hN h4 (n + 4) = 512 := ln_d k4.1 (a := 4) (w := 512) (by decide)
  have wl' := wrt_len Ok.1.1 Ok.1.2.1 Oz
  obtain ⟨u1, u2, _⟩ := wa_c D Ok.1.1 Ok.1.2.2.1 Oz W Ou (by
    show ([] : List Int).length + 72 ≤ hN h4 (n + 4)
    rw [cap]; decide) (by
    show ([] ++ wrTx (syL σ) P).length ≤ hN h4 (n + 4)
    rw [cap, List.nil_append]; exact wl') e10
  rw [List.nil_append] at u1
  have k10 : DyK n h o10 := by
    have := dk_X7_writeAll k4 e10
    exact this
  replace e := ce_e (dk_e (a := 0) (f := 1) (b := 3) k10 (by decide +kernel)) e
  rw [so_e e]
  have sz : hS h4 ≤ hS o10 := (dk_X7_writeAll (dk_self k4) e10).1.2.2.2.1
  have F10 : FrW (fun a _ => a = n + 3 ∨ a = n + 4) h4 o10 := fw_v (sb := fun _ _ => false) (cs := [9]) u2 sz (by decide +kernel) (fun j f i z _ => absurd z (by decide)) (fun c hc j i hj => by
    simp only [List.mem_cons, List.not_mem_nil, or_false] at hc
    subst hc
    have hj : j < 2 := hj
    show n + 3 + j = n + 3 ∨ n + 3 + j = n + 4
    omega)
  have FF := fw_t F4 F10
  obtain ⟨_, _, v1, v2⟩ := u1
  have v1 : (hI o10 (n + 3) 1).toInt = ((wrTx (syL σ) P).length : Int) := v1
  exact ⟨v1, relc_o k k10 Ok FF (fun a i c _ => Or.inr c) R ⟨v1, v2⟩, k10, frc_w k FF (fun a i c _ => Or.inl (by omega))⟩
/-- the reference -/
theorem our_m {s p q r v w : Nat} {h' : Hp} {l : List Int} (k : DyK n h h') (e1 : (hI h' (n + 513) 3).toInt = (l.length : Int)) (e2 : ∀ i, i < l.length → l[i]? = some (hI h' (n + 515) i).toInt) : OuR (vM n s p q r v w) h' l := by
  refine ⟨dk_e (a := 513) (f := 2) (b := 515) k (by decide +kernel), ?_, e1, e2⟩
  show hN h' (n + 515) ≤ _
  rw [ln_d k.1 (a := 515) (w := 256) (by decide)]
  decide
def WOr (n a i : Nat) : Prop := (a = n + 513 ∧ i = 3) ∨ a = n + 515
theorem clr_m (k : DyK n h h) (Ok : SyOk σ) (R : RelR n j h σ) : RelR n j (wI h (n + 513) 3 0) (syOut σ []) ∧ FrW (WOr n) h (wI h (n + 513) 3 0) := by
  have F : FrW (WOr n) h (wI h (n + 513) 3 0) := ⟨Nat.le_refl _, fun a i _ nw => ⟨by rw [r_I, if_neg (fun z => nw (Or.inl z))], rfl⟩⟩
  exact ⟨relr_o (l := []) k (dk_wI k) Ok F (fun a i c _ => Or.inr c) R ⟨by rw [r_I, if_pos ⟨rfl, rfl⟩]; rfl, fun i hi => absurd hi (Nat.not_lt_zero _)⟩, F⟩
theorem fw_wou {V' : Nat → Nat} {B : Nat → Nat} {o' : Hp} (hV : V' = vV B) (hB : B 0 = n) (f : FrV V' (wl wou) h o') (sz : hS h ≤ hS o') : FrW (WOr n) h o' := by
  subst hV
  exact fw_v (sb := fun j f => (Nat.beq j 513 && Nat.beq f 3) || Nat.beq j 515) (cs := []) f sz (by decide +kernel) (fun j f i z y => by
    rw [hB]
    rw [Bool.or_eq_true, Bool.and_eq_true] at z
    rcases z with ⟨z1, z2⟩ | z
    · have z1 := Nat.eq_of_beq_eq_true z1
      have z2 := Nat.eq_of_beq_eq_true z2
      exact Or.inl ⟨by omega, by omega⟩
    · have z := Nat.eq_of_beq_eq_true z
      exact Or.inr (by omega)) (fun c hc => absurd hc (List.not_mem_nil))
theorem ra_write (k : DyK n h h) (Ok : SyOk σ) (R : RelR n j h σ) (e : sX15_write F h (n + 513) x1 = some o) : RaO n j h (syWrt σ x1) o (anWrt σ x1) := by
  have s6 := dk_610 k
  unfold sX15_write at e
  unfold anWrt
  obtain ⟨o1, e1, e⟩ := cl_s e
  obtain ⟨q1, c1⟩ := has_r k R.2.1 e1
  rw [q1] at e
  rcases c1 with ⟨d1, d2⟩ | ⟨d1, P, d2⟩
  · rw [so_e (bp_e d1 e), ple_n d2, sywrt_n d2]
    exact rao_0 k R rfl rfl
  replace e := bn_e d1 e
  rw [ple_s d2, sywrt_s d2]
  obtain ⟨h4, w4, e⟩ := nm_s e
  obtain ⟨R4, F4⟩ := clr_m k Ok R
  rw [← w4] at R4 F4
  have k4 : DyK n h h4 := by rw [w4]; exact dk_wI k
  have l4 : (hI h4 (n + 513) 3).toInt = (([] : List Int).length : Int) := by rw [w4, r_I, if_pos ⟨rfl, rfl⟩]; rfl
  clear w4
  obtain ⟨_, _, b3, _⟩ := spl_b d2
  have Oz := spl_ok Ok d2
  obtain ⟨b, eb, A⟩ := rpl_p (σ := syOut σ []) R4.2.1 d2
  replace e := ce_e (dk_e (a := 513) (f := 14) (b := 536) k4 (by decide +kernel)) e
  replace e := gg_e e
  replace e := ce_e eb e
  obtain ⟨o10, e10, e⟩ := cl_s e
  obtain ⟨own, Dw⟩ := k4.1.1
  obtain ⟨w, hw, _, _, C⟩ := R4.1
  have D : VD (vM n (hS h4) b (hS h4 + 1000 * 5) (hS h4 + 1000 * 6) (hS h4 + 1000 * 7) (n + w)) := vd_m Dw.1 (bke_p Dw b3 eb) (bke_o (c := 5)) (bke_o (c := 6)) (bke_o (c := 7)) (bk_lw Dw.1 hw) (by split <;> omega)
  have W : WrR (vM n (hS h4) b (hS h4 + 1000 * 5) (hS h4 + 1000 * 6) (hS h4 + 1000 * 7) (n + w)) h4 (syL σ) P := ⟨rfl_m.mpr C, rba_m.mpr A⟩
  have Ou := our_m (s := hS h4) (p := b) (q := hS h4 + 1000 * 5) (r := hS h4 + 1000 * 6) (v := hS h4 + 1000 * 7) (w := n + w) (l := []) k4 l4 (fun i hi => absurd hi (Nat.not_lt_zero _))
  obtain ⟨u1, u2⟩ := wa_r D Ok.1.1 Ok.1.2.2.1 Oz W Ou e10
  rw [List.nil_append] at u1
  have k10 : DyK n h o10 := dk_X15_writeAll k4 e10
  rw [so_e e]
  have sz : hS h4 ≤ hS o10 := (dk_X15_writeAll (dk_self k4) e10).1.2.2.2.1
  have FF := fw_t F4 (fw_wou rfl rfl u2 sz)
  obtain ⟨_, _, v1, v2⟩ := u1
  have v1 : (hI o10 (n + 513) 3).toInt = ((wrTx (syL σ) P).length : Int) := v1
  exact ⟨v1, relr_o k k10 Ok FF (fun a i c _ => Or.inr c) R ⟨v1, v2⟩, k10, frr_w k FF (fun a i c _ => Or.inl (by unfold WOr at c; omega)) (fun a i c z => by unfold WOr at c; omega)⟩
/-- view -/
noncomputable def viT (L : Nat → Nat → Int) (P : Pz) (d : Nat) : List Int := mnT L P (fun q => prB' (SeeM L P d 64 q)) (L 1 0).toNat
noncomputable def anViw (σ : Sy) (x1 x2 : Int32) : Int := if prB' (sdI x2) = true then plE σ x1 (-102) (fun P => ((viT (syL σ) P x2.toInt.toNat).length : Int)) else -101
noncomputable def syViw (σ : Sy) (x1 x2 : Int32) : Sy := if prB' (sdI x2) = true then (match sPl σ x1 with
  | none => σ
  | some P => syOut σ (viT (syL σ) P x2.toInt.toNat)) else σ
theorem see_bits {L : Nat → Nat → Int} {P : Pz} {d : Nat} {x : Int64} (c : ∀ q, q < 64 → (bitJ x q = true ↔ SeeM L P d 64 q)) : ∀ q, q < 64 → bitJ x q = prB' (SeeM L P d 64 q) := fun q hq => by
  cases u : bitJ x q with
  | true => exact (prb_e.mpr ((c q hq).mp u)).symm
  | false => exact (prb_f.mpr (fun z => by rw [(c q hq).mpr z] at u; exact nomatch u)).symm
theorem ca_view (k : DyK n h h) (Ok : SyOk σ) (R : RelC n h σ) (e : sX11_view F h n x1 x2 = some o) : CaO n h (syViw σ x1 x2) o (anViw σ x1 x2) := by
  have s6 := dk_610 k
  unfold sX11_view at e
  unfold anViw syViw
  obtain ⟨o2, e2, e⟩ := cl_s e
  obtain ⟨q2, c2⟩ := isd_c e2
  rw [q2] at e
  rcases c2 with ⟨d3, d4⟩ | ⟨d3, d4⟩
  · rw [so_e (bp_e d3 e), prb_f.mpr d4, if_neg (by decide), if_neg (by decide)]
    exact cao_0 k R rfl rfl
  replace e := bn_e d3 e
  rw [prb_e.mpr d4, if_pos rfl, if_pos rfl]
  obtain ⟨o1, e1, e⟩ := cl_s e
  obtain ⟨q1, c1⟩ := isp_c k R.2.1 e1
  rw [q1] at e
  rcases c1 with ⟨d1, d2⟩ | ⟨d1, P, d2⟩
  · rw [so_e (bp_e d1 e), ple_n d2, d2]
    exact cao_0 k R rfl rfl
  replace e := bn_e d1 e
  rw [ple_s d2, d2]
  replace e := ce_e (dk_e (a := 0) (f := 1) (b := 3) k (by decide +kernel)) e
  obtain ⟨h4, e4, e⟩ := cl_s e
  unfold sX9_clear at e4
  have y4 := so_e (nx_e e4)
  obtain ⟨R4, F4⟩ := clr_k k Ok R
  rw [← y4] at R4 F4
  have k4 : DyK n h h4 := by rw [y4]; exact dk_wI k
  have l4 : (hI h4 (n + 3) 1).toInt = (([] : List Int).length : Int) := by rw [y4, r_I, if_pos ⟨rfl, rfl⟩]; rfl
  clear y4 e4
  obtain ⟨_, _, b3, _⟩ := spl_b d2
  have Oz := spl_ok Ok d2
  have A := cpl_p (σ := syOut σ []) R4.2.1 d2
  have A : CpA h4 (n + (153 + 6 * x1.toNatClampNeg)) (syL σ 10 0) P := A
  replace e := ce_e (dk_e (a := 0) (f := 7) (b := 38) k4 (by decide +kernel)) e
  replace e := ce_e (dk_e (a := 0) (f := 13) (b := 148) k4 (by decide +kernel)) e
  replace e := gg_e e
  obtain ⟨r8, e8, e⟩ := cl_s e
  have y8 := pl_at k4 b3 e8
  subst y8
  replace e := ce_e (dk_e (a := 0) (f := 6) (b := 30) k4 (by decide +kernel)) e
  replace e := ce_e (dk_e (a := 0) (f := 13) (b := 148) k4 (by decide +kernel)) e
  replace e := gg_e e
  obtain ⟨r9, e9, e⟩ := cl_s e
  have y9 := pl_at k4 b3 e9
  subst y9
  obtain ⟨o11, e11, e⟩ := cl_s e
  obtain ⟨own, Dw⟩ := k4.1.1
  have hp := bk_pl Dw.1 b3
  have D : VD (vK n (hS h4) (n + (153 + 6 * x1.toNatClampNeg)) (hS h4 + 1000 * 2) (hS h4 + 1000 * 3) (n + 3) (hS h4 + 1000 * 10)) := vd_k Dw.1 hp (bke_o (c := 2)) (bke_o (c := 3)) (bk_out Dw.1) (bke_o (c := 10)) (by omega)
  have MC : MkC (vK n (hS h4) (n + (153 + 6 * x1.toNatClampNeg)) (hS h4 + 1000 * 2) (hS h4 + 1000 * 3) (n + 3) (hS h4 + 1000 * 10)) h4 (syL σ) := cll_k.mpr R4.1
  obtain ⟨q11, c11⟩ := se_c (V := vK n (hS h4) (n + (153 + 6 * x1.toNatClampNeg)) (hS h4 + 1000 * 2) (hS h4 + 1000 * 3) (n + 3) (hS h4 + 1000 * 10)) Ok.1.1 Oz MC.1 (cpa_k.mpr A) (sdi_n d4).1 (sdi_n d4).2 e11
  rw [q11] at e
  have bs := see_bits c11
  replace e := ce_e (dk_e (a := 0) (f := 1) (b := 3) k4 (by decide +kernel)) e
  obtain ⟨o10, e10, e⟩ := cl_s e
  have W : WrC (vK n (hS h4) (n + (153 + 6 * x1.toNatClampNeg)) (hS h4 + 1000 * 2) (hS h4 + 1000 * 3) (n + 3) (hS h4 + 1000 * 10)) h4 (syL σ) P := ⟨dk_e (a := 38) (f := 0) (b := 5) k4 (by decide +kernel), MC.2, cpa_k.mpr A⟩
  have Ou := ouc_k (s := hS h4) (p := n + (153 + 6 * x1.toNatClampNeg)) (q := hS h4 + 1000 * 2) (r := hS h4 + 1000 * 3) (l' := hS h4 + 1000 * 10) (l := []) k4 l4 (fun i hi => absurd hi (Nat.not_lt_zero _))
  have cap : hN h4 (n + 4) = 512 := ln_d k4.1 (a := 4) (w := 512) (by decide)
  obtain ⟨u2, _, u1⟩ := wk_c D Ok.1.1 Ok.1.2.2.1 Oz.1 bs W (by
    show ([] : List Int).length + 72 ≤ hN h4 (n + 4)
    rw [cap]; decide) Ou e10
  rw [List.nil_append] at u1
  have k10 : DyK n h o10 := dk_X7_writeRanks k4 e10
  replace e := ce_e (dk_e (a := 0) (f := 1) (b := 3) k10 (by decide +kernel)) e
  rw [so_e e]
  have sz : hS h4 ≤ hS o10 := (dk_X7_writeRanks (dk_self k4) e10).1.2.2.2.1
  have F10 : FrW (fun a _ => a = n + 3 ∨ a = n + 4) h4 o10 := fw_v (sb := fun _ _ => false) (cs := [9]) u2 sz (by decide +kernel) (fun j f i z _ => absurd z (by decide)) (fun c hc j i hj => by
    simp only [List.mem_cons, List.not_mem_nil, or_false] at hc
    subst hc
    have hj : j < 2 := hj
    show n + 3 + j = n + 3 ∨ n + 3 + j = n + 4
    omega)
  have FF := fw_t F4 F10
  obtain ⟨_, _, v1, v2⟩ := u1
  have v1 : (hI o10 (n + 3) 1).toInt = ((viT (syL σ) P x2.toInt.toNat).length : Int) := v1
  exact ⟨v1, relc_o k k10 Ok FF (fun a i c _ => Or.inr c) R ⟨v1, v2⟩, k10, frc_w k FF (fun a i c _ => Or.inl (by omega))⟩
theorem ra_view (k : DyK n h h) (Ok : SyOk σ) (R : RelR n j h σ) (e : sX15_view F h (n + 513) x1 x2 = some o) : RaO n j h (syViw σ x1 x2) o (anViw σ x1 x2) := by
  have z0 : (0 : Int32).toInt = 0 := rfl
  have z1 : (1 : Int32).toInt = 1 := rfl
  have s6 := dk_610 k
  unfold sX15_view sX15_view_9 at e
  unfold anViw syViw
  rcases br_s e with ⟨c3, e⟩ | ⟨c3, e⟩
  · have := lt_i c3
    rw [so_e e, prb_f.mpr (fun z => by rcases z with y | y <;> (rw [y] at this; exact absurd this (by decide))), if_neg (by decide), if_neg (by decide)]
    exact rao_0 k R rfl rfl
  have c3 := nlt_i c3
  rcases br_s e with ⟨c4, e⟩ | ⟨c4, e⟩
  rotate_left
  · have := nle_i c4
    rw [so_e e, prb_f.mpr (fun z => by rcases z with y | y <;> (rw [y] at this; exact absurd this (by decide))), if_neg (by decide), if_neg (by decide)]
    exact rao_0 k R rfl rfl
  have c4 := le_i c4
  have d4 : sdI x2 := by
    have : x2.toInt = 0 ∨ x2.toInt = 1 := by omega
    rcases this with y | y
    · exact Or.inl (Int32.toInt_inj.mp (y.trans z0.symm))
    · exact Or.inr (Int32.toInt_inj.mp (y.trans z1.symm))
  rw [prb_e.mpr d4, if_pos rfl, if_pos rfl]
  obtain ⟨o1, e1, e⟩ := cl_s e
  obtain ⟨q1, c1⟩ := has_r k R.2.1 e1
  rw [q1] at e
  rcases c1 with ⟨d1, d2⟩ | ⟨d1, P, d2⟩
  · rw [so_e (bp_e d1 e), ple_n d2, d2]
    exact rao_0 k R rfl rfl
  replace e := bn_e d1 e
  rw [ple_s d2, d2]
  obtain ⟨_, _, b3, _⟩ := spl_b d2
  have Oz := spl_ok Ok d2
  obtain ⟨b, eb, A⟩ := rpl_p R.2.1 d2
  replace e := ce_e (dk_e (a := 513) (f := 14) (b := 536) k (by decide +kernel)) e
  replace e := gg_e e
  replace e := ce_e eb e
  obtain ⟨o8, e8, e⟩ := cl_s e
  obtain ⟨own, Dw⟩ := k.1.1
  obtain ⟨w, hw, _, _, C⟩ := R.1
  obtain ⟨f8, k8, c8⟩ := sb_m k Dw.1 hw (bke_p Dw b3 eb) (by omega) Ok.1.1 Oz C A (sdi_n d4).1 (sdi_n d4).2 e8
  have R8 := relr_rs k Ok R f8 k8
  have bs := see_bits c8
  obtain ⟨h4, w4, e⟩ := nm_s e
  obtain ⟨R4, F4⟩ := clr_m (dk_self k8) Ok R8
  rw [← w4] at R4 F4
  have k4 : DyK n h h4 := by rw [w4]; exact dk_wI k8
  have l4 : (hI h4 (n + 513) 3).toInt = (([] : List Int).length : Int) := by rw [w4, r_I, if_pos ⟨rfl, rfl⟩]; rfl
  clear w4
  obtain ⟨b', eb', A'⟩ := rpl_p (σ := syOut σ []) R4.2.1 d2
  replace e := ce_e (dk_e (a := 513) (f := 14) (b := 536) k4 (by decide +kernel)) e
  replace e := gg_e e
  replace e := ce_e eb' e
  obtain ⟨o10, e10, e⟩ := cl_s e
  obtain ⟨own', Dw'⟩ := k4.1.1
  obtain ⟨w', hw', _, _, C'⟩ := R4.1
  have D : VD (vM n (hS h4) b' (hS h4 + 1000 * 5) (hS h4 + 1000 * 6) (hS h4 + 1000 * 7) (n + w')) := vd_m Dw'.1 (bke_p Dw' b3 eb') (bke_o (c := 5)) (bke_o (c := 6)) (bke_o (c := 7)) (bk_lw Dw'.1 hw') (by split <;> omega)
  have Ou := our_m (s := hS h4) (p := b') (q := hS h4 + 1000 * 5) (r := hS h4 + 1000 * 6) (v := hS h4 + 1000 * 7) (w := n + w') (l := []) k4 l4 (fun i hi => absurd hi (Nat.not_lt_zero _))
  obtain ⟨u2, u1⟩ := wm_r D Ok.1.1 Ok.1.2.2.1 Oz.1 bs (rfl_m.mpr C') (rba_m.mpr A') Ou e10
  rw [List.nil_append] at u1
  have k10 : DyK n h o10 := dk_X15_writeMen k4 e10
  rw [so_e e]
  have sz : hS h4 ≤ hS o10 := (dk_X15_writeMen (dk_self k4) e10).1.2.2.2.1
  have FF : FrW (fun a i => RS n a i ∨ WOr n a i) h o10 := fw_t (fw_s f8 (fun _ _ c => Or.inl c)) (fw_s (fw_t F4 (fw_wou rfl rfl u2 sz)) (fun _ _ c => Or.inr c))
  obtain ⟨_, _, v1, v2⟩ := u1
  have v1 : (hI o10 (n + 513) 3).toInt = ((viT (syL σ) P x2.toInt.toNat).length : Int) := v1
  exact ⟨v1, relr_o k k10 Ok FF (fun a i c _ => c) R ⟨v1, v2⟩, k10, frr_w k FF (fun a i c _ => Or.inl (c.elim rs_c (fun c => by unfold WOr at c; omega))) (fun a i c z => by
    rcases c with c | c
    · unfold RS at c; omega
    · unfold WOr at c; omega)⟩
end
end
section
/-! FEED and END: what both sides stand for stays -/
section
variable {n j F : Nat} {h : Hp} {σ : Sy} {o : Int32 × Hp} {x1 x2 x3 x4 x5 : Int32}
def TwC (n a _i : Nat) : Prop := a = n + 1 ∨ a = n + 2
def TwR (n a i : Nat) : Prop := (a = n + 513 ∧ i = 1) ∨ a = n + 514
theorem app_f {t b : Nat} {o : Hp} (eb : hR h t 0 = some b) (e : sX9_append h t x1 = some o) : hS o = hS h ∧ (∀ a i, hR o a i = hR h a i) ∧ ∀ a i, ¬ a = t → ¬ a = b → hI o a i = hI h a i ∧ hJ o a i = hJ h a i := by
  unfold sX9_append sX9_append_36 at e
  replace e := ce_e eb e
  rcases br_s e with ⟨_, e⟩ | ⟨_, e⟩
  · rw [so_e e]; exact ⟨rfl, fun _ _ => rfl, fun _ _ _ _ => ⟨rfl, rfl⟩⟩
  · replace e := ce_e eb e
    replace e := gg_e e
    rw [so_e (nx_e (nx_e e))]
    exact ⟨rfl, fun _ _ => rfl, fun a i n1 n2 => ⟨by rw [rI_a n1, rI_a n2], rfl⟩⟩
theorem appn_f {t b : Nat} {o : Hp} (eb : hR h t 0 = some b) (e : sX9_appendNumber h t x1 = some o) : hS o = hS h ∧ (∀ a i, hR o a i = hR h a i) ∧ ∀ a i, ¬ a = t → ¬ a = b → hI o a i = hI h a i ∧ hJ o a i = hJ h a i := by
  unfold sX9_appendNumber at e
  obtain ⟨o1, e1, e⟩ := cl_s e
  obtain ⟨a1, b1, c1⟩ := app_f eb e1
  obtain ⟨o2, e2, e⟩ := cl_s e
  obtain ⟨a2, b2, c2⟩ := app_f (by rw [b1]; exact eb) e2
  obtain ⟨o3, e3, e⟩ := cl_s e
  obtain ⟨a3, b3, c3⟩ := app_f (by rw [b2, b1]; exact eb) e3
  obtain ⟨o4, e4, e⟩ := cl_s e
  obtain ⟨a4, b4, c4⟩ := app_f (by rw [b3, b2, b1]; exact eb) e4
  rw [so_e e]
  refine ⟨by rw [a4, a3, a2, a1], fun a i => by rw [b4, b3, b2, b1], fun a i n1 n2 => ?_⟩
  rw [(c4 a i n1 n2).1, (c4 a i n1 n2).2, (c3 a i n1 n2).1, (c3 a i n1 n2).2, (c2 a i n1 n2).1, (c2 a i n1 n2).2]
  exact c1 a i n1 n2
theorem apk_f {g : Hp} {o : Hp} (k : DyK n g h) (e : sX9_appendNumber h (n + 1) x1 = some o) : FrW (TwC n) h o := by
  obtain ⟨a, _, c⟩ := appn_f (dk_e (a := 1) (f := 0) (b := 2) k (by decide +kernel)) e
  exact ⟨by rw [a]; exact Nat.le_refl _, fun x i _ nw => c x i (fun z => nw (Or.inl z)) (fun z => nw (Or.inr z))⟩
/-- the tape is another: the class -/
theorem relc_tp {h' : Hp} (k : DyK n h h) (k' : DyK n h h') (Ok : SyOk σ) (F : FrW (TwC n) h h') (R : RelC n h σ) : RelC n h' σ := by
  have s6 := dk_610 k
  exact relc_f k k' F (fun j i hj c => by unfold cFt at hj; unfold TwC at c; omega) (fun q a hq e lo hi j f hj c => by unfold TwC at c; omega) (lgle Ok) R
theorem relr_tp {h' : Hp} (k : DyK n h h) (k' : DyK n h h') (Ok : SyOk σ) (F : FrW (TwR n) h h') (R : RelR n j h σ) : RelR n j h' σ := by
  have s6 := dk_610 k
  exact relr_f k k' F (fun j i hj c => by
    unfold TwR at c
    rcases hj with hj | hj
    · unfold rFt at hj; omega
    · omega) (fun q hq h5 i a hi e lo hi' j f hj c => by unfold TwR at c; omega) (lgle Ok) R
theorem caz_t {Z : Nat → Nat → Prop} (k : DyK n h h) (k' : DyK n h o.2) (Ok : SyOk σ) (F : FrW (TwC n) h o.2) (R : RelC n h σ) (z : ∀ a i, TwC n a i → Z a i) : CaZ n h σ Z o o.1.toInt := ⟨rfl, relc_tp k k' Ok F R, k', fw_s F (fun a i c => Or.inr (z a i c))⟩
theorem ca_feed (k : DyK n h h) (Ok : SyOk σ) (R : RelC n h σ) (e : sX11_feed h n x1 x2 x3 x4 x5 = some o) : CaZ n h σ (TwC n) o o.1.toInt := by
  have kk := dk_X11_feed k e
  unfold sX11_feed at e
  have W : ∀ {g : Hp}, DyK n h g → hR g (n + 0) 0 = some (n + 1) := fun k => dk_e (a := 0) (f := 0) (b := 1) k (by decide +kernel)
  replace e := ce_e (W k) e
  rcases br_s e with ⟨_, e⟩ | ⟨_, e⟩
  · replace e := ce_e (W k) e
    obtain ⟨o4, e4, e⟩ := cl_s e
    have k4 := dk_X9_appendNumber k e4
    have f4 := apk_f k e4
    replace e := ce_e (W k4) e
    obtain ⟨o6, e6, e⟩ := cl_s e
    have k6 := dk_X9_appendNumber k4 e6
    have f6 := fw_t f4 (apk_f k4 e6)
    replace e := ce_e (W k6) e
    obtain ⟨o8, e8, e⟩ := cl_s e
    have k8 := dk_X9_appendNumber k6 e8
    have f8 := fw_t f6 (apk_f k6 e8)
    replace e := ce_e (W k8) e
    obtain ⟨o10, e10, e⟩ := cl_s e
    have k10 := dk_X9_appendNumber k8 e10
    have f10 := fw_t f8 (apk_f k8 e10)
    replace e := ce_e (W k10) e
    obtain ⟨o12, e12, e⟩ := cl_s e
    have k12 := dk_X9_appendNumber k10 e12
    have f12 := fw_t f10 (apk_f k10 e12)
    replace e := ce_e (W k12) e
    have eo := so_e e
    subst eo
    exact caz_t k kk Ok f12 R (fun _ _ c => c)
  · have eo := so_e e
    subst eo
    exact caz_t k kk Ok fw_0 R (fun _ _ c => c)
theorem ca_end (k : DyK n h h) (Ok : SyOk σ) (R : RelC n h σ) (e : sX11_end h n x1 = some o) : CaZ n h σ (TwC n) o o.1.toInt := by
  have kk := dk_X11_end k e
  unfold sX11_end sX11_end_15 at e
  have W := dk_e (a := 0) (f := 0) (b := 1) k (by decide +kernel)
  rcases br_s e with ⟨_, e⟩ | ⟨_, e⟩
  · have eo := so_e e
    subst eo
    exact caz_t k kk Ok fw_0 R (fun _ _ c => c)
  replace e := ce_e W e
  rcases br_s e with ⟨_, e⟩ | ⟨_, e⟩
  · replace e := ce_e W e
    obtain ⟨h5, w5, e⟩ := nm_s e
    have eo := so_e e
    subst eo
    refine caz_t k kk Ok ?_ R (fun _ _ c => c)
    show FrW (TwC n) h h5
    rw [w5]
    exact ⟨Nat.le_refl _, fun a i _ nw => ⟨by rw [rI_a (fun z => nw (Or.inl z))], rfl⟩⟩
  · have eo := so_e e
    subst eo
    exact caz_t k kk Ok fw_0 R (fun _ _ c => c)
/-- a call of the reference that writes Z besides -/
def RaZ (n j : Nat) (h : Hp) (σ' : Sy) (Z : Nat → Nat → Prop) (o : Int32 × Hp) (a : Int) : Prop := o.1.toInt = a ∧ RelR n j o.2 σ' ∧ DyK n h o.2 ∧ FrW (fun a i => RWr n h a i ∨ Z a i) h o.2
theorem raz_o {Z : Nat → Nat → Prop} {a : Int} {σ' : Sy} (C : RaO n j h σ' o a) : RaZ n j h σ' Z o a := ⟨C.1, C.2.1, C.2.2.1, fw_s C.2.2.2.1 (fun _ _ c => Or.inl c)⟩
theorem raz_t {Z : Nat → Nat → Prop} (k : DyK n h h) (k' : DyK n h o.2) (Ok : SyOk σ) (F : FrW (TwR n) h o.2) (R : RelR n j h σ) (z : ∀ a i, TwR n a i → Z a i) : RaZ n j h σ Z o o.1.toInt := ⟨rfl, relr_tp k k' Ok F R, k', fw_s F (fun a i c => Or.inr (z a i c))⟩
theorem fdr_19 : ∀ (f : Nat) {g h : Hp} {x6 : Int32}, DyK n g h → sX15_feed_19 F f h (n + 513) x1 x2 x3 x4 x5 x6 = some o → FrW (TwR n) h o.2 := by
  intro f
  induction f with
  | zero => intro g h x6 _ e; exact absurd e (by rw [sX15_feed_19]; exact fun z => nomatch z)
  | succ f ih =>
    intro g h x6 k e
    rw [sX15_feed_19] at e
    have st : ∀ {t0 : Int32}, sX15_feed_72 F (sX15_feed_19 F f) h (n + 513) x1 x2 x3 x4 x5 x6 t0 = some o → FrW (TwR n) h o.2 := fun {t0} e => by
      unfold sX15_feed_72 at e
      replace e := ce_e (dk_e (a := 513) (f := 0) (b := 514) k (by decide +kernel)) e
      replace e := gg_e e
      obtain ⟨h3, w3, e⟩ := nm_s e
      obtain ⟨h4, w4, e⟩ := nm_s e
      have k4 : DyK n g h4 := by rw [w4, w3]; exact dk_wI (dk_wI k)
      have f4 : FrW (TwR n) h h4 := by
        rw [w4, w3]
        exact ⟨Nat.le_refl _, fun a i _ nw => ⟨by rw [r_I, if_neg (fun z => nw (Or.inl z)), rI_a (fun z => nw (Or.inr z))], rfl⟩⟩
      exact fw_t f4 (ih k4 (nx_e e))
    rcases br_s e with ⟨_, e⟩ | ⟨_, e⟩
    · rw [so_e e]; exact fw_0
    rcases br_s e with ⟨_, e⟩ | ⟨_, e⟩
    · rcases br_s e with ⟨_, e⟩ | ⟨_, e⟩
      · rcases br_s e with ⟨_, e⟩ | ⟨_, e⟩
        · rcases br_s e with ⟨_, e⟩ | ⟨_, e⟩
          · exact st e
          · exact st e
        · exact st e
      · exact st e
    · exact st e
theorem ra_feed (k : DyK n h h) (Ok : SyOk σ) (R : RelR n j h σ) (e : sX15_feed F h (n + 513) x1 x2 x3 x4 x5 = some o) : RaZ n j h σ (TwR n) o o.1.toInt := by
  have kk := dk_X15_feed k e
  unfold sX15_feed at e
  rcases br_s e with ⟨_, e⟩ | ⟨_, e⟩
  · exact raz_t k kk Ok (fdr_19 F k e) R (fun _ _ c => c)
  · have eo := so_e e
    subst eo
    exact raz_t k kk Ok fw_0 R (fun _ _ c => c)
theorem ra_end (k : DyK n h h) (Ok : SyOk σ) (R : RelR n j h σ) (e : sX15_end h (n + 513) x1 = some o) : RaZ n j h σ (TwR n) o o.1.toInt := by
  have kk := dk_X15_end k e
  unfold sX15_end sX15_end_12 at e
  rcases br_s e with ⟨_, e⟩ | ⟨_, e⟩
  · have eo := so_e e
    subst eo
    exact raz_t k kk Ok fw_0 R (fun _ _ c => c)
  rcases br_s e with ⟨_, e⟩ | ⟨_, e⟩
  · obtain ⟨h5, w5, e⟩ := nm_s e
    have eo := so_e e
    subst eo
    refine raz_t k kk Ok ?_ R (fun _ _ c => c)
    show FrW (TwR n) h h5
    rw [w5]
    exact ⟨Nat.le_refl _, fun a i _ nw => ⟨by rw [r_I, if_neg (fun z => nw (Or.inl z))], rfl⟩⟩
  · have eo := so_e e
    subst eo
    exact raz_t k kk Ok fw_0 R (fun _ _ c => c)
end
end
