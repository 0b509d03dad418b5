section
/-! ENDINGS, the reference: the state behind a move -/
section
variable {n F N q m sd k num j t : Nat} {g h h0 : Hp} {nk : Nat → Nat} {rk : Nat → Nat → Int} {bk : Nat → Nat} {o : Int32 × Hp} {x1 x2 x3 x4 x5 : Int32} {L : Nat → Nat → Int} {row : Nat → Int}
/-- who stands where behind the move: man i, if it isn't taken -/
def bhV (row : Nat → Int) (j : Nat) (y : Int) (i : Nat) : Int := if i = j then y else row i
def bhP (q num j t : Nat) (i : Nat) : Nat := if i = j then t else sqi q num i
def BhK (q num j t : Nat) (i : Nat) : Prop := i = j ∨ ¬ sqi q num i = t
/-- the row behind i men -/
def BhI (n : Nat) (h : Hp) (row : Nat → Int) (q num j t : Nat) (y : Int) (i c : Nat) : Prop := c ≤ i ∧ (∀ a, a < c → ∃ i', i' < i ∧ BhK q num j t i' ∧ (hI h (n + 600) a).toInt = bhV row j y i' ∧ (hI h (n + 601) a).toInt = (bhP q num j t i' : Int)) ∧ (∀ i', i' < i → BhK q num j t i' → ∃ a, a < c ∧ (hI h (n + 600) a).toInt = bhV row j y i' ∧ (hI h (n + 601) a).toInt = (bhP q num j t i' : Int)) ∧ ∀ a b, a < b → b < c → ¬ (hI h (n + 601) a).toInt = (hI h (n + 601) b).toInt
theorem bh_put {c i : Nat} {y : Int} {h1 : Hp} {v w : Int32} (rp : ∀ i, i < m → 1 ≤ row i) (St : StD row q num m) (im : i < m) (jm : j < m) (I : BhI n h row q num j t y i c) (K : BhK q num j t i) (ev : v.toInt = bhV row j y i) (ew : w.toInt = (bhP q num j t i : Int)) (e : h1 = wI (wI h (n + 600) c v) (n + 601) c w) : BhI n h1 row q num j t y (i + 1) (c + 1) := by
  obtain ⟨ci, a1, a2, a3⟩ := I
  have c0 : ∀ a, ¬ a = c → hI h1 (n + 600) a = hI h (n + 600) a := fun a z => by rw [e, rI_a (by omega), rI_o z]
  have c1 : ∀ a, ¬ a = c → hI h1 (n + 601) a = hI h (n + 601) a := fun a z => by rw [e, rI_o z, rI_a (by omega)]
  have n0 : hI h1 (n + 600) c = v := by rw [e, rI_a (by omega), rI_s]
  have n1 : hI h1 (n + 601) c = w := by rw [e, rI_s]
  have pd : ∀ i', i' < i → BhK q num j t i' → ¬ bhP q num j t i' = bhP q num j t i := fun i' hi' k' z => by
    unfold bhP at z
    by_cases y1 : i' = j
    · rw [if_pos y1, if_neg (show ¬ i = j by omega)] at z
      rcases K with K | K
      · omega
      · exact K z.symm
    · rw [if_neg y1] at z
      by_cases y2 : i = j
      · rw [if_pos y2] at z
        rcases k' with k' | k'
        · exact y1 k'
        · exact k' z
      · rw [if_neg y2] at z
        have := ly_i rp St (by omega) im z
        omega
  refine ⟨by omega, fun a ha => ?_, fun i' hi' k' => ?_, fun a b ab hb => ?_⟩
  · by_cases z : a = c
    · rw [z, n0, n1]; exact ⟨i, Nat.lt_succ_self _, K, ev, ew⟩
    · rw [c0 a z, c1 a z]
      obtain ⟨i', hi', r⟩ := a1 a (by omega)
      exact ⟨i', by omega, r⟩
  · by_cases z : i' = i
    · rw [z]; exact ⟨c, Nat.lt_succ_self _, by rw [n0]; exact ev, by rw [n1]; exact ew⟩
    · obtain ⟨a, ha, r1, r2⟩ := a2 i' (by omega) k'
      exact ⟨a, by omega, by rw [c0 a (by omega)]; exact r1, by rw [c1 a (by omega)]; exact r2⟩
  · by_cases z : b = c
    · rw [z, n1, c1 a (by omega), ew]
      obtain ⟨i', hi', k', _, r⟩ := a1 a (by omega)
      rw [r]
      have := pd i' hi' k'
      omega
    · rw [c1 a (by omega), c1 b z]
      exact a3 a b ab (by omega)
theorem bh_6 (k0 : DyK n h0 h0) (q0 : 0 < q) (q64 : q ≤ 64) (m5 : m ≤ 5) (k12 : k < 4096) (jm : j < m) (t64 : t < 64) (S0 : RSt n h0 k m row) (rp : ∀ i, i < m → 1 ≤ row i ∧ row i ≤ 24) (St : StD row q num m) (sts : ∀ i, i < m → (hI h0 (n + 607) i).toInt = (sqi q num i : Int)) (e1 : x1.toInt = (k : Int)) (e2 : x2.toInt = (j : Int)) (e3 : x3.toInt = (t : Int)) (i4 : 1 ≤ x4.toInt ∧ x4.toInt ≤ 24) : ∀ (f : Nat) {h : Hp} {x6 x7 : Int32} {i c : Nat}, DyK n g h → DyK n h0 h → FrW (WSo n) h0 h → x7.toInt = (i : Int) → i ≤ m → x6.toInt = (c : Int) → BhI n h row q num j t x4.toInt i c → sX15_stateBehind_6 F f h (n + 513) x1 x2 x3 x4 x5 x6 x7 = some o → ∃ (h' : Hp) (y6 : Int32) (c' : Nat), DyK n g h' ∧ DyK n h0 h' ∧ FrW (WSo n) h0 h' ∧ y6.toInt = (c' : Int) ∧ BhI n h' row q num j t x4.toInt m c' ∧ sX15_stateOf F h' (n + 513) y6 ((1 : Int32) - x5) = some o := by
  have z1 : (1 : Int32).toInt = 1 := rfl
  have z5 : (5 : Int32).toInt = 5 := rfl
  have s0 := dk_610 k0
  intro f
  induction f with
  | zero => intro h x6 x7 i c _ _ _ _ _ _ _ e; exact absurd e (by rw [sX15_stateBehind_6]; exact fun z => nomatch z)
  | succ f ih =>
    intro h x6 x7 i c kg kh Fr e7 im e6 I e
    rw [sX15_stateBehind_6] at e
    have s7 := dk_610 kh
    have S := rst_f k0 S0 Fr (fun i => ⟨fun c => by unfold WSo at c; omega, fun c => by unfold WSo at c; omega⟩)
    have n1 : x1.toNatClampNeg = k := by have := nc_i (x := x1) (by omega); omega
    replace e := ce_e (dk_e (a := 513) (f := 46) (b := 592) kh (by decide +kernel)) e
    replace e := gg_e e
    have em := S.1
    rcases br_s e with ⟨d, e⟩ | ⟨d, e⟩ <;> rw [n1] at d
    · have d := le_i d
      have : i = m := by omega
      rw [this] at I
      obtain ⟨o4, e4, e⟩ := cl_s e
      have : o = o4 := so_e e
      rw [this]
      exact ⟨h, x6, c, kg, kh, Fr, e6, I, e4⟩
    have d := nle_i d
    have im' : i < m := by omega
    have ci := I.1
    have n7 : x7.toNatClampNeg = i := by have := nc_i (x := x7) (by omega); omega
    have n6 : x6.toNatClampNeg = c := by have := nc_i (x := x6) (by omega); omega
    have sti : (hI h (n + 607) i).toInt = (sqi q num i : Int) := by
      rw [(Fr.2 (n + 607) i (by omega) (fun c => by unfold WSo at c; omega)).1]; exact sts i im'
    -- a man is put
    have put : BhK q num j t i → sX15_stateBehind_34 F (sX15_stateBehind_6 F f) h (n + 513) x1 x2 x3 x4 x5 x6 x7 = some o → ∃ (h' : Hp) (y6 : Int32) (c' : Nat), DyK n g h' ∧ DyK n h0 h' ∧ FrW (WSo n) h0 h' ∧ y6.toInt = (c' : Int) ∧ BhI n h' row q num j t x4.toInt m c' ∧ sX15_stateOf F h' (n + 513) y6 ((1 : Int32) - x5) = some o := fun K e => by
      unfold sX15_stateBehind_34 at e
      replace e := ce_e (dk_e (a := 513) (f := 57) (b := 600) kh (by decide +kernel)) e
      have p62 : ∀ {v : Int32}, v.toInt = bhV row j x4.toInt i → sX15_stateBehind_62 F (sX15_stateBehind_6 F f) h (n + 513) x1 x2 x3 x4 x5 x6 x7 v x6 (n + 600) = some o → ∃ (h' : Hp) (y6 : Int32) (c' : Nat), DyK n g h' ∧ DyK n h0 h' ∧ FrW (WSo n) h0 h' ∧ y6.toInt = (c' : Int) ∧ BhI n h' row q num j t x4.toInt m c' ∧ sX15_stateOf F h' (n + 513) y6 ((1 : Int32) - x5) = some o := fun {v} ev e => by
        unfold sX15_stateBehind_62 at e
        replace e := gg_e e
        obtain ⟨h2, w2, e⟩ := nm_s e
        rw [n6] at w2
        have k2 : DyK n h0 h2 := by rw [w2]; exact dk_wI kh
        replace e := ce_e (dk_e (a := 513) (f := 58) (b := 601) k2 (by decide +kernel)) e
        have p86 : ∀ {w : Int32}, w.toInt = (bhP q num j t i : Int) → sX15_stateBehind_86 F (sX15_stateBehind_6 F f) h2 (n + 513) x1 x2 x3 x4 x5 x6 x7 w x6 (n + 601) = some o → ∃ (h' : Hp) (y6 : Int32) (c' : Nat), DyK n g h' ∧ DyK n h0 h' ∧ FrW (WSo n) h0 h' ∧ y6.toInt = (c' : Int) ∧ BhI n h' row q num j t x4.toInt m c' ∧ sX15_stateOf F h' (n + 513) y6 ((1 : Int32) - x5) = some o := fun {w} ew e => by
          unfold sX15_stateBehind_86 sX15_stateBehind_90 at e
          replace e := gg_e e
          obtain ⟨h3, w3, e⟩ := nm_s e
          obtain ⟨v3, u3, e⟩ := nm_s e
          obtain ⟨v1, u1, e⟩ := nm_s e
          rw [n6] at w3
          have e3' : h3 = wI (wI h (n + 600) c v) (n + 601) c w := by rw [w3, w2]
          have I3 := bh_put (fun i hi => (rp i hi).1) St im' jm I K ev ew e3'
          have y3 : v3.toInt = ((c + 1 : Nat) : Int) := by rw [u3, ta (by rw [z1]; omega), z1]; omega
          have y1 : v1.toInt = ((i + 1 : Nat) : Int) := by rw [u1, ta (by rw [z1]; omega), z1]; omega
          exact ih (by rw [e3']; exact dk_wI (dk_wI kg)) (by rw [e3']; exact dk_wI (dk_wI kh)) (by rw [e3']; exact fw_wI (fw_wI Fr (Or.inl rfl)) (Or.inr rfl)) y1 (by omega) y3 I3 e
        rcases br_s e with ⟨d1, e⟩ | ⟨d1, e⟩
        · have : i = j := by
            have := congrArg Int32.toInt d1
            omega
          exact p86 (by unfold bhP; rw [if_pos this]; exact e3) e
        · have nj : ¬ i = j := fun z => d1 (Int32.toInt_inj.mp (by rw [e7, e2, z]))
          replace e := ce_e (dk_e (a := 513) (f := 61) (b := 607) k2 (by decide +kernel)) e
          replace e := gg_e e
          refine p86 ?_ e
          unfold bhP
          rw [if_neg nj, n7, w2, rI_a (by omega)]
          exact sti
      rcases br_s e with ⟨d1, e⟩ | ⟨d1, e⟩
      · have : i = j := by
          have := congrArg Int32.toInt d1
          omega
        exact p62 (by unfold bhV; rw [if_pos this]) e
      · have nj : ¬ i = j := fun z => d1 (Int32.toInt_inj.mp (by rw [e7, e2, z]))
        replace e := ce_e (dk_e (a := 513) (f := 47) (b := 593) kh (by decide +kernel)) e
        replace e := gg_e e
        have ix : (((5 : Int32) * x1) + x7).toInt = ((5 * k + i : Nat) : Int) := by
          rw [ta (by rw [tm (by rw [z5]; omega), z5]; omega), tm (by rw [z5]; omega), z5]; omega
        have nx : (((5 : Int32) * x1) + x7).toNatClampNeg = 5 * k + i := by have := nc_i (x := ((5 : Int32) * x1) + x7) (by omega); omega
        refine p62 ?_ e
        unfold bhV
        rw [if_neg nj, nx]
        exact S.2 i im'
    rcases br_s e with ⟨d1, e⟩ | ⟨d1, e⟩
    · have : i = j := by
        have := congrArg Int32.toInt d1
        omega
      exact put (Or.inl this) e
    have nj : ¬ i = j := fun z => d1 (Int32.toInt_inj.mp (by rw [e7, e2, z]))
    replace e := ce_e (dk_e (a := 513) (f := 61) (b := 607) kh (by decide +kernel)) e
    replace e := gg_e e
    rcases br_s e with ⟨d2, e⟩ | ⟨d2, e⟩ <;> rw [n7] at d2
    · have st : sqi q num i = t := by
        have := congrArg Int32.toInt d2
        rw [sti, e3] at this
        omega
      unfold sX15_stateBehind_90 at e
      obtain ⟨v1, u1, e⟩ := nm_s e
      have y1 : v1.toInt = ((i + 1 : Nat) : Int) := by rw [u1, ta (by rw [z1]; omega), z1]; omega
      have nk' : ¬ BhK q num j t i := fun z => z.elim nj (fun z => z st)
      refine ih kg kh Fr y1 (by omega) e6 ⟨by omega, fun a ha => ?_, fun i' hi' k' => ?_, I.2.2.2⟩ e
      · obtain ⟨i', hi', r⟩ := I.2.1 a ha
        exact ⟨i', by omega, r⟩
      · by_cases z : i' = i
        · rw [z] at k'; exact absurd k' nk'
        · exact I.2.2.1 i' (by omega) k'
    · exact put (Or.inr (fun z => d2 (Int32.toInt_inj.mp (by rw [sti, e3, z])))) e
theorem bh_k (hF : 700000 ≤ F) (kh : DyK n h h) (kg : DyK n g h) (q0 : 0 < q) (q64 : q ≤ 64) (eq : (q : Int) = L 0 0 * L 1 0) (eq13 : (hI h (n + 513) 13).toInt = (q : Int)) (S : FmR n h N nk rk bk q) (Fm : Fam L N nk rk) (kN : k < N) (jm : j < nk k) (t64 : t < 64) (St : StD (rk k) q num (nk k)) (ne : ¬ sqi q num j = t) (sts : ∀ i, i < nk k → (hI h (n + 607) i).toInt = (sqi q num i : Int)) (HM' : MOk L (updM (updM (lyM (rk k) q num (nk k)) (sqi q num j) 0) t x4.toInt)) (e1 : x1.toInt = (k : Int)) (e2 : x2.toInt = (j : Int)) (e3 : x3.toInt = (t : Int)) (i4 : 1 ≤ x4.toInt ∧ x4.toInt ≤ 24) (e5 : x5.toInt = (sd : Int)) (sd2 : sd < 2) (e : sX15_stateBehind F h (n + 513) x1 x2 x3 x4 x5 = some o) : FrW (WSo n) h o.2 ∧ DyK n g o.2 ∧ DyK n h o.2 ∧ StA n N nk rk bk q (1 - sd) (updM (updM (lyM (rk k) q num (nk k)) (sqi q num j) 0) t x4.toInt) o.1 := by
  have z1 : (1 : Int32).toInt = 1 := rfl
  have s6 := dk_610 kh
  obtain ⟨⟨a1, a2⟩, _⟩ := id S
  obtain ⟨b1, b2, b3, _, _⟩ := a2 k kN
  have rp1 : ∀ i, i < nk k → 1 ≤ rk k i := fun i hi => (b3 i hi).1
  unfold sX15_stateBehind at e
  obtain ⟨h', y6, c, kg', kh', Fr, e6, I, e⟩ := bh_6 (g := g) kh q0 q64 b2 (by omega) jm t64 b1 b3 St sts e1 e2 e3 i4 F (i := 0) (c := 0) kg kh fw_0 rfl (Nat.zero_le _) rfl ⟨Nat.le_refl _, fun a ha => absurd ha (Nat.not_lt_zero _), fun a ha => absurd ha (Nat.not_lt_zero _), fun a b _ hb => absurd hb (Nat.not_lt_zero _)⟩ e
  have A := ly_at rp1 St (nk k) (Nat.le_refl _)
  have S' := fmr_f kh Fr (fun j i hj c => by unfold WSo at c; omega) S
  have q13 : (hI h' (n + 513) 13).toInt = (q : Int) := by rw [(Fr.2 (n + 513) 13 (by omega) (fun c => by unfold WSo at c; omega)).1]; exact eq13
  have vb : ∀ i, i < nk k → 1 ≤ bhV (rk k) j x4.toInt i ∧ bhV (rk k) j x4.toInt i ≤ 24 := fun i hi => by
    unfold bhV
    split
    · exact i4
    · exact b3 i hi
  have pb : ∀ i, i < nk k → bhP q num j t i ≤ 63 := fun i hi => by
    unfold bhP
    have := sqi_lt (num := num) (i := i) q0
    split <;> omega
  have B' : RwB n h' c := fun a ha => by
    obtain ⟨i, hi, _, r1, r2⟩ := I.2.1 a ha
    rw [r1, r2]
    have := pb i hi
    exact ⟨vb i hi, by omega, by omega⟩
  have Mat : ∀ i, i < nk k → BhK q num j t i → updM (updM (lyM (rk k) q num (nk k)) (sqi q num j) 0) t x4.toInt (bhP q num j t i) = bhV (rk k) j x4.toInt i := fun i hi K => by
    show (if bhP q num j t i = t then x4.toInt else if bhP q num j t i = sqi q num j then 0 else lyM (rk k) q num (nk k) (bhP q num j t i)) = bhV (rk k) j x4.toInt i
    unfold bhP bhV
    by_cases y : i = j
    · rw [if_pos y, if_pos rfl, if_pos y]
    · rw [if_neg y]
      rcases K with K | K
      · exact absurd K y
      · rw [if_neg K, if_neg (fun z => y (ly_i rp1 St hi jm z)), if_neg y]
        exact A i hi
  have M0 : ∀ s, 0 ≤ updM (updM (lyM (rk k) q num (nk k)) (sqi q num j) 0) t x4.toInt s := fun s => by
    show 0 ≤ (if s = t then x4.toInt else if s = sqi q num j then 0 else lyM (rk k) q num (nk k) s)
    split
    · omega
    · split
      · omega
      · by_cases z : lyM (rk k) q num (nk k) s = 0
        · omega
        · obtain ⟨i, hi, _, b⟩ := ly_mem (nk k) z
          have := rp1 i hi
          omega
  have ci := I.1
  have x5v : ((1 : Int32) - x5).toInt = ((1 - sd : Nat) : Int) := by rw [ts (by rw [z1]; omega), z1]; omega
  obtain ⟨r1, r2, r3, r4⟩ := sof_k (g := g) hF (dk_self kh') kg' q0 q64 eq q13 S' Fm HM' M0 (by omega) e6 x5v (by omega) B' (fun a b ab hb z => by
    have := I.2.2.2 a b ab hb
    have ba := B' a (by omega)
    have bb := B' b hb
    have z : 64 * (hI h' (n + 600) a).toInt + (hI h' (n + 601) a).toInt = 64 * (hI h' (n + 600) b).toInt + (hI h' (n + 601) b).toInt := z
    omega) (fun a ha => by
    obtain ⟨i, hi, K, r1, r2⟩ := I.2.1 a ha
    rw [r1, r2]
    exact Mat i hi K) (fun s hs ms => by
    have ms : 0 < (if s = t then x4.toInt else if s = sqi q num j then 0 else lyM (rk k) q num (nk k) s) := ms
    have pk : ∀ i, i < nk k → BhK q num j t i → bhP q num j t i = s → ∃ a, a < c ∧ rwU n h' a = 64 * updM (updM (lyM (rk k) q num (nk k)) (sqi q num j) 0) t x4.toInt s + (s : Int) := fun i hi K ps => by
      obtain ⟨a, ha, r1, r2⟩ := I.2.2.1 i hi K
      have mv := Mat i hi K
      rw [ps] at mv r2
      refine ⟨a, ha, ?_⟩
      rw [mv]
      show 64 * (hI h' (n + 600) a).toInt + (hI h' (n + 601) a).toInt = _
      rw [r1, r2]
    by_cases y : s = t
    · exact pk j jm (Or.inl rfl) (by unfold bhP; rw [if_pos rfl, y])
    · rw [if_neg y] at ms
      by_cases y2 : s = sqi q num j
      · rw [if_pos y2] at ms; omega
      · rw [if_neg y2] at ms
        obtain ⟨i, hi, es, _⟩ := ly_mem (nk k) (fun z => by rw [z] at ms; exact absurd ms (by decide))
        have nj : ¬ i = j := fun z => y2 (by rw [← es, z])
        exact pk i hi (Or.inr (by rw [es]; exact y)) (by unfold bhP; rw [if_neg nj]; exact es)) e
  exact ⟨fw_t Fr r1, r2, dk_t kh' r3, r4⟩
end
end
section
/-! ENDINGS, pure: moves that differ in what the man becomes -/
section
variable {L : Nat → Nat → Int} {M M' : Nat → Int} {P : Pz} {v w : MvT} {sd : Nat}
/-- the same squares taken, the same men of one side -/
def OcE (M M' : Nat → Int) (d : Int) : Prop := ∀ x, x < 64 → (0 < M x ↔ 0 < M' x) ∧ (0 < M x → (M x - 1) % 2 = d → M' x = M x)
theorem att_o {d : Int} {r : Nat} (H : LOk L) (E : OcE M M' d) (A : AttP L M d r) : AttP L M' d r := by
  have sq := sq_64 H
  obtain ⟨s, i, k, sL, m0, es, hi, fl, ld⟩ := A
  have es' := (E s (by omega)).2 m0 es
  have k1 := ld.1.2.1
  refine ⟨s, i, k, sL, by rw [es']; exact m0, by rw [es']; exact es, by rw [es']; exact hi, by rw [es']; exact fl, ?_⟩
  rw [es']
  refine ⟨ld.1, ?_⟩
  rw [← ld.2]
  refine (cnp_c _ (fun i i1 i2 => ?_)).symm
  have on := pth_on H sL ld.1 (i := (i : Int)) (by omega) (by omega)
  exact (E _ (by omega)).1
theorem lg_tr (hv : v ∈ lgL L P) (hw : w ∈ moP L P) (sf : sfP L P w) (ea : mvA w = mvA v) : w ∈ lgL L P := by
  obtain ⟨_, _, ne1⟩ := lg_sf hv
  have hf : w ∈ (moP L P).filter (sfB L P) := List.mem_filter.mpr ⟨hw, prb_e.mpr sf⟩
  unfold lgL at hv ⊢
  rw [if_neg ne1] at hv ⊢
  unfold mustF at hv ⊢
  by_cases c3 : ¬ L 16 0 = 0 ∧ ((moP L P).filter (sfB L P)).any tkB = true
  · rw [if_pos c3] at hv ⊢
    refine List.mem_filter.mpr ⟨hf, ?_⟩
    have y := (List.mem_filter.mp hv).2
    unfold tkB at y ⊢
    have ea : w.2.2.2.2.1 = v.2.2.2.2.1 := ea
    rw [ea]
    exact y
  · rw [if_neg c3]; exact hf
/-- legal with one, legal with each that does not check -/
theorem nd_pr (H : LOk L) (K : LawK L) (nb : L 18 0 = 0) (s2 : sd < 2) (HM : MOk L M) (w0 : wrN L (ndZ M sd) = 0) (hv : v ∈ lgL L (ndZ M sd)) (hw : w ∈ moP L (ndZ M sd)) (eS : mvS w = mvS v) (eD : mvD w = mvD v) (pr : ∀ x : MvT, x = v ∨ x = w → ¬ nwV sd x = 1 + 2 * L 10 0 + (sd : Int)) (sy : L 17 0 = 0 ∨ ¬ RyH L (zAll L (ndZ M sd) w).1 (1 - sd)) : w ∈ lgL L (ndZ M sd) := by
  have O := nd_ok H K HM s2 w0
  obtain ⟨sf, hm, _⟩ := lg_sf hv
  have Gv := mo_g H K O hm
  have Gw := mo_g H K O hw
  have kv := nd_k0 H K O hm
  have kw := nd_k0 H K O hw
  have mkv := nd_mk H K nb O hm
  have mkw := nd_mk H K nb O hw
  obtain ⟨s, t, s64, t64, a1, a2, ne, ms, es, a3, bb, tk⟩ := nd_mv H K w0 HM s2 hm
  rw [eD, eS] at mkw
  have ea : mvA w = mvA v := by
    have x := (Gv.2.2.2.1 kv).1
    have y := (Gw.2.2.2.1 kw).1
    have x : mvA v = (if 0 < M (mvD v).toNat then ((mnO (M (mvD v).toNat) : Nat) : Int) else -1) := x
    have y : mvA w = (if 0 < M (mvD w).toNat then ((mnO (M (mvD w).toNat) : Nat) : Int) else -1) := y
    rw [x, y, eD]
  have nw1 : ∀ x : MvT, x = v ∨ x = w → 0 < nwV sd x ∧ (nwV sd x - 1) % 2 = (sd : Int) := fun x hx => by
    have e : nwV sd x = cdV (if mvB x = -1 then mvM x else mvB x) sd := rfl
    have G : MvGd L (ndZ M sd) x := by
      rcases hx with z | z <;> rw [z]
      · exact Gv
      · exact Gw
    obtain ⟨gm, gb, _, _⟩ := gd_r G
    rw [e]
    unfold cdV
    by_cases c : mvB x = -1
    · rw [if_pos c]; omega
    · rw [if_neg c]
      have := gb.resolve_left c
      omega
  -- the two boards
  have occ : ∀ x y : MvT, (x = v ∧ y = w) ∨ (x = w ∧ y = v) → OcE (zAll L (ndZ M sd) x).1 (zAll L (ndZ M sd) y).1 ((1 - sd : Nat) : Int) := fun x y hxy q q64 => by
    have ex : ∀ u : MvT, u = v ∨ u = w → (zAll L (ndZ M sd) u).1 q = if q = (mvD v).toNat then nwV sd u else if q = (mvS v).toNat then 0 else M q := fun u hu => by
      rcases hu with z | z <;> rw [z]
      · exact mkv q q64
      · exact mkw q q64
    have hx : x = v ∨ x = w := by rcases hxy with z | z <;> simp [z]
    have hy : y = v ∨ y = w := by rcases hxy with z | z <;> simp [z]
    rw [ex x hx, ex y hy]
    have nx := nw1 x hx
    have ny := nw1 y hy
    by_cases c : q = (mvD v).toNat
    · rw [if_pos c, if_pos c]
      exact ⟨⟨fun _ => ny.1, fun _ => nx.1⟩, fun _ z => by omega⟩
    · rw [if_neg c, if_neg c]
      exact ⟨Iff.rfl, fun _ _ => rfl⟩
  have atq : ∀ q, q < 64 → ¬ q = (mvD v).toNat → (zAll L (ndZ M sd) w).1 q = (zAll L (ndZ M sd) v).1 q := fun q q64 nq => by
    rw [mkv q q64, mkw q q64, if_neg nq, if_neg nq]
  have att : ∀ x : MvT, x = v ∨ x = w → (zAll L (ndZ M sd) x).1 (mvD v).toNat = nwV sd x := fun x hx => by
    rcases hx with z | z <;> rw [z]
    · rw [mkv _ (by omega), if_pos rfl]
    · rw [mkw _ (by omega), if_pos rfl]
  refine lg_tr hv hw ⟨fun re => ?_, ?_⟩ ea
  · obtain ⟨r1, r2⟩ := sf.1 re
    rw [← zall_m] at r1 r2 ⊢
    have own : RyE L (zAll L (ndZ M sd) w).1 (pzS (ndZ M sd)) := by
      obtain ⟨q, q64, r0, eq⟩ := r1
      have nq : ¬ q = (mvD v).toNat := fun z => by
        rw [z, att v (Or.inl rfl)] at eq
        exact pr v (Or.inl rfl) eq
      exact ⟨q, q64, r0, by rw [atq q q64 nq]; exact eq⟩
    refine ⟨own, ?_⟩
    rcases r2 with ⟨r3, r4⟩ | r3
    · refine Or.inl ⟨r3, fun z => r4 ?_⟩
      obtain ⟨q, q64, r0, eq⟩ := z
      have nq : ¬ q = (mvD v).toNat := fun z => by
        rw [z, att w (Or.inr rfl)] at eq
        have := (nw1 w (Or.inr rfl)).2
        have eq : nwV sd w = 1 + 2 * L 10 0 + ((1 - sd : Nat) : Int) := eq
        omega
      exact ⟨q, q64, r0, by rw [← atq q q64 nq]; exact eq⟩
    · refine Or.inr (fun z => r3 ?_)
      obtain ⟨q, q64, r0, eq, at'⟩ := z
      have nq : ¬ q = (mvD v).toNat := fun z => by
        rw [z, att w (Or.inr rfl)] at eq
        exact pr w (Or.inr rfl) eq
      refine ⟨q, q64, r0, by rw [← atq q q64 nq]; exact eq, ?_⟩
      have c1 : (1 : Int) - ((pzS (ndZ M sd) : Nat) : Int) = ((1 - sd : Nat) : Int) := by
        show (1 : Int) - (sd : Int) = ((1 - sd : Nat) : Int)
        omega
      rw [c1] at at' ⊢
      exact att_o H (occ w v (Or.inr ⟨rfl, rfl⟩)) at'
  · rw [← zall_m]
    exact sy
end
end
section
/-! ENDINGS, the reference: one move's end is looked at -/
def WWn (n a i : Nat) : Prop := (a = n + 513 ∧ (i = 62 ∨ i = 63)) ∨ a = n + 600 ∨ a = n + 601
theorem ndo_e {N : Nat} {nk : Nat → Nat} {rk : Nat → Nat → Int} {q k num : Nat} {M M' : Nat → Int} (e : ∀ s, s < 64 → M s = M' s) (O : NdO N nk rk q M k num) : NdO N nk rk q M' k num := ⟨O.1, O.2.1, O.2.2.1, fun s hs => by rw [← e s hs]; exact O.2.2.2 s hs⟩
theorem ndo_u {L : Nat → Nat → Int} {N : Nat} {nk : Nat → Nat} {rk : Nat → Nat → Int} {q k num k' num' : Nat} {M : Nat → Int} (q0 : 0 < q) (q64 : q ≤ 64) (Fm : Fam L N nk rk) (A : NdO N nk rk q M k num) (B : NdO N nk rk q M k' num') : k = k' ∧ num = num' := by
  obtain ⟨n1, r1, u1⟩ := nd_u q0 q64 (Fm.1 k A.1) (Fm.1 k' B.1) A.2.2.1 B.2.2.1 A.2.1 B.2.1 (fun s hs => by rw [A.2.2.2 s hs, B.2.2.2 s hs])
  exact ⟨Fm.2.1 k k' A.1 B.1 n1 r1, u1⟩
/-- what stands in the table for a board -/
def SvV (n : Nat) (h : Hp) (N : Nat) (nk : Nat → Nat) (rk : Nat → Nat → Int) (bk : Nat → Nat) (q sd : Nat) (M : Nat → Int) (x : Int) : Prop := ∃ k num, NdO N nk rk q M k num ∧ x = (hI h (n + 595) (bk k + 2 * num + sd)).toInt
section
variable {n F N q m sd k num j t : Nat} {g h h0 o : Hp} {nk : Nat → Nat} {rk : Nat → Nat → Int} {bk : Nat → Nat} {x1 x2 x3 x4 x5 x6 : Int32} {L : Nat → Nat → Int} {row : Nat → Int} {W Lo : Prop}
theorem mt_k (np : 1 ≤ x2.toInt ∧ x2.toInt ≤ 700000) (bw : FlB (hI h (n + 513) 62) W) (bl : FlB (hI h (n + 513) 63) Lo) (e : sX15_meet h (n + 513) x1 x2 = some o) : FrW (fun a i => a = n + 513 ∧ (i = 62 ∨ i = 63)) h o ∧ (∀ {g : Hp}, DyK n g h → DyK n g o) ∧ FlB (hI o (n + 513) 62) (W ∨ x1.toInt = x2.toInt - 1 - 1000000) ∧ FlB (hI o (n + 513) 63) (Lo ∧ (1000000 - x2.toInt < x1.toInt ∧ x1.toInt ≤ 1000000)) := by
  have z1 : (1 : Int32).toInt = 1 := rfl
  have zS : (1000000 : Int32).toInt = 1000000 := rfl
  have t1 : ((x2 - (1 : Int32)) - (1000000 : Int32)).toInt = x2.toInt - 1 - 1000000 := by
    have a : (x2 - (1 : Int32)).toInt = x2.toInt - 1 := by rw [ts (by rw [z1]; omega), z1]
    rw [ts (by rw [a, zS]; omega), a, zS]
  have t2 : ((1000000 : Int32) - x2).toInt = 1000000 - x2.toInt := by rw [ts (by rw [zS]; omega), zS]
  have p21 : ∀ {t0 : Int32}, FlB t0 (x1.toInt = x2.toInt - 1 - 1000000) → sX15_meet_21 h (n + 513) x1 x2 t0 (hI h (n + 513) 62) (n + 513) = some o → FrW (fun a i => a = n + 513 ∧ (i = 62 ∨ i = 63)) h o ∧ (∀ {g : Hp}, DyK n g h → DyK n g o) ∧ FlB (hI o (n + 513) 62) (W ∨ x1.toInt = x2.toInt - 1 - 1000000) ∧ FlB (hI o (n + 513) 63) (Lo ∧ (1000000 - x2.toInt < x1.toInt ∧ x1.toInt ≤ 1000000)) := fun {t0} b0 e => by
    unfold sX15_meet_21 sX15_meet_50 at e
    replace e := gg_e e
    obtain ⟨h2, w2, e⟩ := nm_s e
    have w62 : FlB (hI h (n + 513) 62 ||| t0) (W ∨ x1.toInt = x2.toInt - 1 - 1000000) := by
      rcases bw with ⟨a, b⟩ | ⟨a, b⟩ <;> rcases b0 with ⟨c, d⟩ | ⟨c, d⟩ <;> rw [a, c]
      · exact Or.inl ⟨by decide, Or.inl b⟩
      · exact Or.inl ⟨by decide, Or.inl b⟩
      · exact Or.inl ⟨by decide, Or.inr d⟩
      · exact Or.inr ⟨by decide, fun z => z.elim b d⟩
    have y63 : hI h2 (n + 513) 63 = hI h (n + 513) 63 := by rw [w2, rI_o (by decide)]
    have p51 : ∀ {t1 : Int32}, FlB t1 (1000000 - x2.toInt < x1.toInt ∧ x1.toInt ≤ 1000000) → sX15_meet_51 h2 t1 (hI h2 (n + 513) 63) (n + 513) = some o → FrW (fun a i => a = n + 513 ∧ (i = 62 ∨ i = 63)) h o ∧ (∀ {g : Hp}, DyK n g h → DyK n g o) ∧ FlB (hI o (n + 513) 62) (W ∨ x1.toInt = x2.toInt - 1 - 1000000) ∧ FlB (hI o (n + 513) 63) (Lo ∧ (1000000 - x2.toInt < x1.toInt ∧ x1.toInt ≤ 1000000)) := fun {t1} b1 e => by
      unfold sX15_meet_51 at e
      replace e := gg_e e
      have eo := so_e (nx_e e)
      rw [eo]
      refine ⟨?_, fun kk => ?_, ?_, ?_⟩
      · rw [w2]; exact fw_wI (fw_wI fw_0 ⟨rfl, Or.inl rfl⟩) ⟨rfl, Or.inr rfl⟩
      · rw [w2]; exact dk_wI (dk_wI kk)
      · rw [rI_o (by decide), w2, rI_s]; exact w62
      · rw [rI_s, y63]
        rcases bl with ⟨a, b⟩ | ⟨a, b⟩ <;> rcases b1 with ⟨c, d⟩ | ⟨c, d⟩ <;> rw [a, c]
        · exact Or.inl ⟨by decide, b, d⟩
        · exact Or.inr ⟨by decide, fun z => d z.2⟩
        · exact Or.inr ⟨by decide, fun z => b z.1⟩
        · exact Or.inr ⟨by decide, fun z => b z.1⟩
    rcases br_s e with ⟨c1, e⟩ | ⟨c1, e⟩
    · have c1 := le_i c1
      rw [t2] at c1
      exact p51 (flz (fun z => by omega)) e
    have c1 := nle_i c1
    rw [t2] at c1
    rcases br_s e with ⟨c2, e⟩ | ⟨c2, e⟩
    · have c2 := lt_i c2
      rw [zS] at c2
      exact p51 (flz (fun z => by omega)) e
    · have c2 := nlt_i c2
      rw [zS] at c2
      exact p51 (flo ⟨c1, c2⟩) e
  unfold sX15_meet at e
  rcases br_s e with ⟨c, e⟩ | ⟨c, e⟩
  · exact p21 (flo (by rw [← t1]; exact congrArg Int32.toInt c)) e
  · exact p21 (flz (fun z => c (Int32.toInt_inj.mp (by rw [t1]; exact z)))) e
/-- whether a man has a like one beside it -/
def LkM (row : Nat → Int) (m j : Nat) : Prop := (0 < j ∧ row (j - 1) = row j) ∨ (j + 1 < m ∧ row (j + 1) = row j)
theorem lk_x {o : Int32 × Hp} (kh : DyK n g h) (S : RSt n h k m row) (m5 : m ≤ 5) (k12 : k < 4096) (jm : j < m) (e1 : x1.toInt = (k : Int)) (e2 : x2.toInt = (j : Int)) (e : sX15_isLike h (n + 513) x1 x2 = some o) : o.2 = h ∧ ((o.1 = 0 ∧ ¬ LkM row m j) ∨ (o.1 = 1 ∧ LkM row m j)) := by
  have z1 : (1 : Int32).toInt = 1 := rfl
  have z5 : (5 : Int32).toInt = 5 := rfl
  have z0 : (0 : Int32).toInt = 0 := rfl
  have n1 : x1.toNatClampNeg = k := by have := nc_i (x := x1) (by omega); omega
  have e47 := dk_e (a := 513) (f := 47) (b := 593) kh (by decide +kernel)
  have ix : (((5 : Int32) * x1) + x2).toInt = ((5 * k + j : Nat) : Int) := by
    rw [ta (by rw [tm (by rw [z5]; omega), z5]; omega), tm (by rw [z5]; omega), z5]; omega
  have nx : (((5 : Int32) * x1) + x2).toNatClampNeg = 5 * k + j := by have := nc_i (x := ((5 : Int32) * x1) + x2) (by omega); omega
  have rj := S.2 j jm
  unfold sX15_isLike at e
  replace e := ce_e e47 e
  replace e := gg_e e
  obtain ⟨v3, w3, e⟩ := nm_s e
  rw [nx] at w3
  have y3 : v3.toInt = row j := by rw [w3]; exact rj
  have no : ∀ {p : Prop}, (p ∧ ¬ LkM row m j) → sX15_isLike_63 h = some o → o.2 = h ∧ ((o.1 = 0 ∧ ¬ LkM row m j) ∨ (o.1 = 1 ∧ LkM row m j)) := fun np e => by
    unfold sX15_isLike_63 sX15_isLike_64 at e
    rw [so_e (gg_e e)]
    exact ⟨rfl, Or.inl ⟨rfl, np.2⟩⟩
  have yes : LkM row m j → sX15_isLike_59 h = some o → o.2 = h ∧ ((o.1 = 0 ∧ ¬ LkM row m j) ∨ (o.1 = 1 ∧ LkM row m j)) := fun y e => by
    unfold sX15_isLike_59 sX15_isLike_64 at e
    rw [so_e (gg_e e)]
    exact ⟨rfl, Or.inr ⟨rfl, y⟩⟩
  have p31 : ¬ (0 < j ∧ row (j - 1) = row j) → sX15_isLike_31 h (n + 513) x1 x2 v3 = some o → o.2 = h ∧ ((o.1 = 0 ∧ ¬ LkM row m j) ∨ (o.1 = 1 ∧ LkM row m j)) := fun nl e => by
    unfold sX15_isLike_31 at e
    replace e := ce_e (dk_e (a := 513) (f := 46) (b := 592) kh (by decide +kernel)) e
    replace e := gg_e e
    have x21 : (x2 + (1 : Int32)).toInt = (j : Int) + 1 := by rw [ta (by rw [z1]; omega), z1, e2]
    rcases br_s e with ⟨c, e⟩ | ⟨c, e⟩ <;> rw [n1] at c
    · have c := le_i c
      rw [x21, S.1] at c
      exact no (p := True) ⟨trivial, fun z => z.elim nl (fun z => by omega)⟩ e
    · have c := nle_i c
      rw [x21, S.1] at c
      have ix1 : ((((5 : Int32) * x1) + x2) + (1 : Int32)).toInt = ((5 * k + (j + 1) : Nat) : Int) := by
        rw [ta (by rw [ix, z1]; omega), ix, z1]; omega
      have nx1 : ((((5 : Int32) * x1) + x2) + (1 : Int32)).toNatClampNeg = 5 * k + (j + 1) := by have := nc_i (x := (((5 : Int32) * x1) + x2) + (1 : Int32)) (by omega); omega
      replace e := ce_e e47 e
      replace e := gg_e e
      have r1 := S.2 (j + 1) (by omega)
      rcases br_s e with ⟨c2, e⟩ | ⟨c2, e⟩ <;> rw [nx1] at c2
      · exact yes (Or.inr ⟨by omega, by rw [← r1, ← y3]; exact congrArg Int32.toInt c2⟩) e
      · exact no (p := True) ⟨trivial, fun z => z.elim nl (fun z => c2 (Int32.toInt_inj.mp (by rw [y3, ← z.2]; exact r1)))⟩ e
  rcases br_s e with ⟨c, e⟩ | ⟨c, e⟩
  · have c := le_i c
    rw [z0] at c
    exact p31 (fun z => by omega) e
  · have c := nle_i c
    rw [z0] at c
    have ix1 : ((((5 : Int32) * x1) + x2) - (1 : Int32)).toInt = ((5 * k + (j - 1) : Nat) : Int) := by
      rw [ts (by rw [ix, z1]; omega), ix, z1]; omega
    have nx1 : ((((5 : Int32) * x1) + x2) - (1 : Int32)).toNatClampNeg = 5 * k + (j - 1) := by have := nc_i (x := (((5 : Int32) * x1) + x2) - (1 : Int32)) (by omega); omega
    replace e := ce_e e47 e
    replace e := gg_e e
    have r1 := S.2 (j - 1) (by omega)
    rcases br_s e with ⟨c2, e⟩ | ⟨c2, e⟩ <;> rw [nx1] at c2
    · exact yes (Or.inl ⟨by omega, by rw [← r1, ← y3]; exact congrArg Int32.toInt c2⟩) e
    · exact p31 (fun z => c2 (Int32.toInt_inj.mp (by rw [y3, ← z.2]; exact r1))) e
end
/-- one digit changed -/
theorem nmv_up {q j t : Nat} {s : Nat → Nat} : ∀ (m : Nat), j < m → nmV q (fun i => if i = j then t else s i) m + s j * q ^ j = nmV q s m + t * q ^ j := by
  intro m
  induction m with
  | zero => intro h; exact absurd h (Nat.not_lt_zero _)
  | succ m ih =>
    intro h
    show nmV q (fun i => if i = j then t else s i) m + (if m = j then t else s m) * q ^ m + s j * q ^ j = nmV q s m + s m * q ^ m + t * q ^ j
    by_cases c : m = j
    · rw [if_pos c]
      have e : ∀ k, k ≤ j → nmV q (fun i => if i = j then t else s i) k = nmV q s k := fun k => by
        induction k with
        | zero => intro _; rfl
        | succ k ihk =>
          intro hk
          show nmV q (fun i => if i = j then t else s i) k + (if k = j then t else s k) * q ^ k = nmV q s k + s k * q ^ k
          rw [ihk (by omega), if_neg (by omega)]
      rw [c, e j (Nat.le_refl _)]
      omega
    · rw [if_neg c]
      have := ih (by omega)
      omega
/-- a man with no like one goes to a free square: the same SET, one digit -/
theorem nd_plain {L : Nat → Nat → Int} {row : Nat → Int} {q num m j t : Nat} (q0 : 0 < q) (q64 : q ≤ 64) (R : RwO L row m) (St : StD row q num m) (nb : num < q ^ m) (jm : j < m) (tq : t < q) (nl : ¬ LkM row m j) (fr : ∀ i, i < m → ¬ sqi q num i = t) : ∃ num', num' + sqi q num j * q ^ j = num + t * q ^ j ∧ num' < q ^ m ∧ StD row q num' m ∧ ∀ s, s < 64 → lyM row q num' m s = updM (updM (lyM row q num m) (sqi q num j) 0) t (row j) s := by
  have rp : ∀ i, i < m → 1 ≤ row i := fun i hi => (R.2.1 i hi).1
  have A := ly_at rp St m (Nat.le_refl _)
  have E0 := enu_l q0 q64 R St
  have lt : ∀ i, sqi q num i < q := fun i => sqi_lt q0
  have sv : ∀ i, (if i = j then t else sqi q num i) < q := fun i => by
    split
    · exact tq
    · exact lt i
  have E : EnU (updM (updM (lyM row q num m) (sqi q num j) 0) t (row j)) m (fun i => 64 * row i + ((if i = j then t else sqi q num i : Nat) : Int)) := by
    refine ⟨fun i hi => ?_, fun i hi => ?_, fun s hs ms => ?_⟩
    · show 64 * row i + ((if i = j then t else sqi q num i : Nat) : Int) < 64 * row (i + 1) + ((if i + 1 = j then t else sqi q num (i + 1) : Nat) : Int)
      have r := R.2.2.1 i hi
      have s1 := sv i
      have s2 := sv (i + 1)
      by_cases c : i = j
      · have : ¬ row (i + 1) = row i := fun z => nl (Or.inr ⟨by omega, by rw [← c]; exact z⟩)
        omega
      · by_cases c' : i + 1 = j
        · have : ¬ row i = row (i + 1) := fun z => nl (Or.inl ⟨by omega, by rw [← c']; exact z⟩)
          omega
        · rw [if_neg c, if_neg c']
          exact E0.1 i hi
    · refine ⟨if i = j then t else sqi q num i, by have := sv i; omega, ?_, ?_⟩
      · show 0 < (if (if i = j then t else sqi q num i) = t then row j else if (if i = j then t else sqi q num i) = sqi q num j then 0 else lyM row q num m (if i = j then t else sqi q num i))
        by_cases c : i = j
        · rw [if_pos c, if_pos rfl]
          have := rp j jm
          omega
        · rw [if_neg c, if_neg (fr i hi), if_neg (fun z => c (ly_i rp St hi jm z)), A i hi]
          have := rp i hi
          omega
      · show 64 * row i + ((if i = j then t else sqi q num i : Nat) : Int) = 64 * (if (if i = j then t else sqi q num i) = t then row j else if (if i = j then t else sqi q num i) = sqi q num j then 0 else lyM row q num m (if i = j then t else sqi q num i)) + ((if i = j then t else sqi q num i : Nat) : Int)
        by_cases c : i = j
        · rw [if_pos c, if_pos rfl, c]
        · rw [if_neg c, if_neg (fr i hi), if_neg (fun z => c (ly_i rp St hi jm z)), A i hi]
    · have ms : 0 < (if s = t then row j else if s = sqi q num j then 0 else lyM row q num m s) := ms
      show ∃ i, i < m ∧ 64 * row i + ((if i = j then t else sqi q num i : Nat) : Int) = 64 * (if s = t then row j else if s = sqi q num j then 0 else lyM row q num m s) + (s : Int)
      by_cases c : s = t
      · exact ⟨j, jm, by rw [if_pos rfl, if_pos c, c]⟩
      · rw [if_neg c] at ms ⊢
        by_cases c' : s = sqi q num j
        · rw [if_pos c'] at ms; exact absurd ms (by decide)
        · rw [if_neg c'] at ms ⊢
          obtain ⟨i, hi, es, ev⟩ := ly_mem (row := row) (q := q) (num := num) (s := s) m (fun z => by omega)
          have nj : ¬ i = j := fun z => c' (by rw [← es, z])
          exact ⟨i, hi, by rw [if_neg nj, ev, es]⟩
  have M0 : ∀ s, 0 ≤ updM (updM (lyM row q num m) (sqi q num j) 0) t (row j) s := fun s => by
    show 0 ≤ (if s = t then row j else if s = sqi q num j then 0 else lyM row q num m s)
    split
    · have := rp j jm; omega
    · split
      · omega
      · by_cases z : lyM row q num m s = 0
        · omega
        · obtain ⟨i, hi, _, b⟩ := ly_mem m z
          have := rp i hi
          omega
  have dg : ∀ i, i < m → ((64 * row i + ((if i = j then t else sqi q num i : Nat) : Int)) % 64).toNat = (if i = j then t else sqi q num i) := fun i hi => by
    have := sv i
    omega
  obtain ⟨c1, c2, c3⟩ := nd_ex q0 R E (fun i hi => by
    show (64 * row i + ((if i = j then t else sqi q num i : Nat) : Int)) / 64 = row i
    have := sv i
    omega) (fun i hi => by
    show ((64 * row i + ((if i = j then t else sqi q num i : Nat) : Int)) % 64).toNat < q
    rw [dg i hi]; exact sv i) M0
  have ne : nmV q (fun i => ((64 * row i + ((if i = j then t else sqi q num i : Nat) : Int)) % 64).toNat) m = nmV q (fun i => if i = j then t else sqi q num i) m := by
    have : ∀ k, k ≤ m → nmV q (fun i => ((64 * row i + ((if i = j then t else sqi q num i : Nat) : Int)) % 64).toNat) k = nmV q (fun i => if i = j then t else sqi q num i) k := fun k => by
      induction k with
      | zero => intro _; rfl
      | succ k ih =>
        intro hk
        show nmV q _ k + ((64 * row k + ((if k = j then t else sqi q num k : Nat) : Int)) % 64).toNat * q ^ k = nmV q _ k + (if k = j then t else sqi q num k) * q ^ k
        rw [ih (by omega), dg k (by omega)]
    exact this m (Nat.le_refl _)
  refine ⟨_, ?_, c2, c1, c3⟩
  show nmV q (fun i => ((64 * row i + ((if i = j then t else sqi q num i : Nat) : Int)) % 64).toNat) m + _ = _
  rw [ne, nmv_up m jm, nmv_sq q0, Nat.mod_eq_of_lt nb]
end
section
/-! ENDINGS, pure: the ends of all moves from one square to another -/
def afM (M : Nat → Int) (s t : Nat) (y : Int) : Nat → Int := updM (updM M s 0) t y
section
variable {L : Nat → Nat → Int} {M : Nat → Int} {v : MvT} {sd s t : Nat}
theorem mb_z (H : LOk L) (K : LawK L) (nb : L 18 0 = 0) (O : PzOk L (ndZ M sd)) (hv : v ∈ moP L (ndZ M sd)) (eS : mvS v = (s : Int)) (eD : mvD v = (t : Int)) : ∀ x, x < 64 → (zAll L (ndZ M sd) v).1 x = afM M s t (nwV sd v) x := fun x hx => by
  rw [nd_mk H K nb O hv x hx, eS, eD]
  rfl
/-- a legal move's end is RIGHT -/
theorem nd_rt (OK : LwOk L) (LD : LtD L) (Nc : NcL L) (s2 : sd < 2) (HM : MOk L M) (w0 : wrN L (ndZ M sd) = 0) (hv : v ∈ lgL L (ndZ M sd)) : ¬ F3p L (ndZ (zAll L (ndZ M sd) v).1 (1 - sd)) ∧ ¬ RyH L (zAll L (ndZ M sd) v).1 sd := by
  have O := nd_ok OK.1 OK.2.1 HM s2 w0
  obtain ⟨_, hm, _⟩ := lg_sf hv
  have w := wr_63 w0
  have a := f3_m OK.1 OK.2.1 LD O w.1 hm
  have b := f6_m OK.1 OK.2.1 Nc O w.2 hv
  refine ⟨a, ?_⟩
  have e : 1 - pzS (zAll L (ndZ M sd) v) = sd := by
    rw [zall_s]
    show 1 - (1 - sd) = sd
    omega
  rw [e] at b
  exact b
/-- no man that becomes another: one move alone -/
theorem nd_np (H : LOk L) (K : LawK L) (nb : L 18 0 = 0) (s2 : sd < 2) (HM : MOk L M) (w0 : wrN L (ndZ M sd) = 0) (ms : 0 < M s) (es : (M s - 1) % 2 = (sd : Int)) (np : ¬ (0 < L 81 (mnO (M s)) ∧ rkF L t sd = L 1 0)) (hv : v ∈ moP L (ndZ M sd)) (eS : mvS v = (s : Int)) (eD : mvD v = (t : Int)) : nwV sd v = M s := by
  rcases mo_i H hv with ⟨s', t', u, _, _, _, _, el, mv⟩ | ⟨s', p, d, _, _, _, _, ev, cs⟩ | ⟨t', m', _, _, ev, _⟩
  · obtain ⟨⟨v1, v2, v3, _⟩, alt⟩ := mvl_i mv
    have ss : s' = s := by have a : mvS v = (s' : Int) := v1; omega
    have tt : t' = t := by have a : mvD v = (t' : Int) := v2; omega
    rw [ss, tt] at alt
    rw [ss] at v3
    have v3 : mvM v = ((mnO (M s) : Nat) : Int) := v3
    have e : nwV sd v = cdV (if mvB v = -1 then mvM v else mvB v) sd := rfl
    rcases alt with ⟨b, _⟩ | ⟨c, _⟩
    · have b : mvB v = -1 := b
      rw [e, if_pos b, v3]
      exact cdv_m ms es
    · exact absurd ⟨c.1, c.2.1⟩ np
  · have r : rtP (ndZ M sd) p := cs.2.2.1
    exact nomatch r
  · have : mvS v = -1 := by rw [ev]
    omega
/-- a man that becomes another: what it may become -/
theorem nd_pm (H : LOk L) (K : LawK L) (nb : L 18 0 = 0) (s2 : sd < 2) (hm : mnO (M s) < 12) (pm : 0 < L 81 (mnO (M s)) ∧ rkF L t sd = L 1 0) (hv : v ∈ moP L (ndZ M sd)) (eS : mvS v = (s : Int)) (eD : mvD v = (t : Int)) : (∃ u : Nat, (u : Int) < L 81 (mnO (M s)) ∧ nwV sd v = cdV (L 80 (6 * mnO (M s) + u)) sd) ∧ ∀ u : Nat, (u : Int) < L 81 (mnO (M s)) → ∃ w, w ∈ moP L (ndZ M sd) ∧ mvS w = (s : Int) ∧ mvD w = (t : Int) ∧ nwV sd w = cdV (L 80 (6 * mnO (M s) + u)) sd := by
  rcases mo_i H hv with ⟨s', t', u, s64, t64, m0, es, el, mv⟩ | ⟨s', p, d, _, _, _, _, ev, cs⟩ | ⟨t', m', _, _, ev, _⟩
  · obtain ⟨⟨v1, v2, v3, _⟩, alt⟩ := mvl_i mv
    have ss : s' = s := by have a : mvS v = (s' : Int) := v1; omega
    have tt : t' = t := by have a : mvD v = (t' : Int) := v2; omega
    subst ss
    subst tt
    have e : ∀ w : MvT, nwV sd w = cdV (if mvB w = -1 then mvM w else mvB w) sd := fun w => rfl
    have cc : 0 < L 81 (mnO (M s')) ∧ rkF L t' sd = L 1 0 ∧ ¬ (¬ L 18 0 = 0 ∧ ¬ tkV M (pzQ (ndZ M sd) 0) t' (prB' (ByT L (ovP (ndZ M sd)) true u.1 t')) = -1) := ⟨pm.1, pm.2, fun z => z.1 nb⟩
    have m12 : ∀ x : Nat, (x : Int) < L 81 (mnO (M s')) → ¬ L 80 (6 * mnO (M s') + x) = -1 := fun x hx => by
      have := ((K.1 _ hm).2 x hx).1
      omega
    refine ⟨?_, fun x hx => ?_⟩
    · rcases alt with ⟨_, nc⟩ | ⟨_, x, hx, b⟩
      · exact absurd cc nc
      · refine ⟨x, hx, ?_⟩
        have b : mvB v = L 80 (6 * mnO (M s') + x) := b
        rw [e, b, if_neg (m12 x hx)]
    · have el' : ldF (ldD L (ndZ M sd).1 (ovP (ndZ M sd)) true (pzS (ndZ M sd)) (mnO ((ndZ M sd).1 s')) s') t' = some u := el
      have mem : ((s' : Int), (t' : Int), ((mnO (M s') : Nat) : Int), L 80 (6 * mnO (M s') + x), tkV M (pzQ (ndZ M sd) 0) t' (prB' (ByT L (ovP (ndZ M sd)) true u.1 t')), (if prB' (ByT L (ovP (ndZ M sd)) true u.1 t') = true then (1 : Int) else 0), (if fbt (L 75 u.1) 4 = true ∧ 1 < u.2 then u.2 else 0)) ∈ mvL L M (pzQ (ndZ M sd) 0) sd (mnO (M s')) s' t' u.1 u.2 (prB' (ByT L (ovP (ndZ M sd)) true u.1 t')) := by
        unfold mvL
        rw [if_pos cc]
        exact List.mem_map.mpr ⟨x, List.mem_range.mpr (by omega), rfl⟩
      refine ⟨_, mem_mo s64 t64 m0 es el' mem, rfl, rfl, ?_⟩
      rw [e]
      show cdV (if L 80 (6 * mnO (M s') + x) = -1 then _ else L 80 (6 * mnO (M s') + x)) sd = _
      rw [if_neg (m12 x hx)]
  · have r : rtP (ndZ M sd) p := cs.2.2.1
    exact nomatch r
  · have : mvS v = -1 := by rw [ev]
    omega
end
end
section
/-! ENDINGS, the reference: all moves from one square to another are looked at -/
section
variable {L : Nat → Nat → Int} {M : Nat → Int} {v : MvT} {sd s t : Nat}
/-- whatever it becomes, its own ROYAL man is as safe -/
theorem nd_ps (OK : LwOk L) (LD : LtD L) (Nc : NcL L) (s2 : sd < 2) (HM : MOk L M) (w0 : wrN L (ndZ M sd) = 0) (s64 : s < 64) (ms : 0 < M s) (hm : mnO (M s) < 12) (pm : 0 < L 81 (mnO (M s)) ∧ rkF L t sd = L 1 0) (hv : v ∈ lgL L (ndZ M sd)) (eS : mvS v = (s : Int)) (eD : mvD v = (t : Int)) (t64 : t < 64) {u : Nat} (hu : (u : Int) < L 81 (mnO (M s))) : ¬ F3p L (ndZ (afM M s t (cdV (L 80 (6 * mnO (M s) + u)) sd)) (1 - sd)) ∧ ¬ RyH L (afM M s t (cdV (L 80 (6 * mnO (M s) + u)) sd)) sd := by
  have nb := Nc.1
  have H := OK.1
  have K := OK.2.1
  have O := nd_ok H K HM s2 w0
  obtain ⟨_, mo, _⟩ := lg_sf hv
  obtain ⟨r3, r6⟩ := nd_rt OK LD Nc s2 HM w0 hv
  obtain ⟨⟨u0, hu0, n0⟩, _⟩ := nd_pm H K nb s2 hm pm mo eS eD
  have eq := mb_z H K nb O mo eS eD
  have w := wr_63 w0
  have lk : ∀ x : Nat, (x : Int) < L 81 (mnO (M s)) → (0 ≤ L 80 (6 * mnO (M s) + x) ∧ L 80 (6 * mnO (M s) + x) < L 2 0) ∧ ¬ L 80 (6 * mnO (M s) + x) = L 10 0 := fun x hx => (K.1 _ hm).2 x hx
  have l1 := lk u hu
  have l0 := lk u0 hu0
  have at_t : ∀ y, afM M s t y t = y := fun y => if_pos rfl
  have at_o : ∀ y x, ¬ x = t → afM M s t y x = if x = s then 0 else M x := fun y x z => if_neg z
  constructor
  · intro ⟨x, x64, f⟩
    by_cases c : x = t
    · have f1 : 0 < L 81 (mnO (afM M s t (cdV (L 80 (6 * mnO (M s) + u)) sd) x)) := f.2.1
      rw [c, at_t] at f1
      have e : mnO (cdV (L 80 (6 * mnO (M s) + u)) sd) = (L 80 (6 * mnO (M s) + u)).toNat := by
        unfold mnO cdV
        omega
      rw [e, (LD.2 _ u hm hu).1] at f1
      omega
    · have e : afM M s t (cdV (L 80 (6 * mnO (M s) + u)) sd) x = if x = s then 0 else M x := at_o _ x c
      have f : F3a L (afM M s t (cdV (L 80 (6 * mnO (M s) + u)) sd)) x := f
      unfold F3a at f
      rw [e] at f
      by_cases c' : x = s
      · rw [if_pos c'] at f
        exact absurd f.1 (by decide)
      · rw [if_neg c'] at f
        exact w.1 ⟨x, x64, f⟩
  · intro ⟨x, x64, r0, ex, ax⟩
    have nt : ¬ x = t := fun z => by
      rw [z, at_t] at ex
      unfold cdV at ex
      omega
    apply r6
    have oc : OcE (afM M s t (cdV (L 80 (6 * mnO (M s) + u)) sd)) (zAll L (ndZ M sd) v).1 (1 - (sd : Int)) := fun y y64 => by
      rw [eq y y64, n0]
      by_cases c : y = t
      · rw [c, at_t, at_t]
        unfold cdV
        exact ⟨⟨fun _ => by omega, fun _ => by omega⟩, fun _ z => by omega⟩
      · rw [at_o _ y c, at_o _ y c]
        exact ⟨Iff.rfl, fun _ _ => rfl⟩
    exact ⟨x, x64, r0, by rw [eq x x64, n0, at_o _ x nt]; rw [at_o _ x nt] at ex; exact ex, att_o H oc ax⟩
end
/-- what stays while a worth is worked out -/
def WkB (n : Nat) (h : Hp) (L : Nat → Nat → Int) (N : Nat) (nk : Nat → Nat) (rk : Nat → Nat → Int) (bk : Nat → Nat) (q : Nat) : Prop := RLw n h L ∧ FmR n h N nk rk bk q ∧ (hI h (n + 513) 13).toInt = (q : Int) ∧ ∀ k num sd, k < N → num < q ^ nk k → sd < 2 → (bitJ (hJ h (n + 597) ((bk k + 2 * num + sd) / 64)) ((bk k + 2 * num + sd) % 64) = true ↔ (RtN L (rk k) q num (nk k) sd ∧ RyH L (lyM (rk k) q num (nk k)) sd))
section
variable {n F N q sd k num j t : Nat} {g h h0 o : Hp} {nk : Nat → Nat} {rk : Nat → Nat → Int} {bk : Nat → Nat} {x1 x2 x3 x4 x5 x6 : Int32} {L : Nat → Nat → Int} {W Lo : Prop}
theorem wkb_f {Wr : Nat → Nat → Prop} (k0 : DyK n h0 h0) (kh : DyK n h0 h) (Fr : FrW Wr h0 h) (w : ∀ a i, Wr a i → (a = n + 513 ∧ (i = 62 ∨ i = 63)) ∨ a = n + 600 ∨ a = n + 601 ∨ a = n + 607 ∨ a = n + 595) (B : WkB n h0 L N nk rk bk q) : WkB n h L N nk rk bk q := by
  obtain ⟨a, b, c, d⟩ := B
  have s0 := dk_610 k0
  refine ⟨rlw_k k0 kh Fr (fun j i hj z => by have := w _ _ z; omega) a, fmr_f k0 Fr (fun j i hj z => by have := w _ _ z; omega) b, by rw [(Fr.2 (n + 513) 13 (by omega) (fun z => by have := w _ _ z; omega)).1]; exact c, fun k num sd hk hn hs => ?_⟩
  rw [(Fr.2 (n + 597) _ (by omega) (fun z => by have := w _ _ z; omega)).2]
  exact d k num sd hk hn hs
/-- moves from man j's square to t -/
def ArJ (L : Nat → Nat → Int) (Z : Pz) (s t : Nat) (v : MvT) : Prop := v ∈ lgL L Z ∧ mvS v = (s : Int) ∧ mvD v = (t : Int)
def MtR (n : Nat) (g h0 o : Hp) (N : Nat) (nk : Nat → Nat) (rk : Nat → Nat → Int) (bk : Nat → Nat) (q sd : Nat) (p : Int) (W Lo : Prop) (Bd : (Nat → Int) → Prop) : Prop := FrW (WWn n) h0 o ∧ DyK n h0 o ∧ DyK n g o ∧ FlB (hI o (n + 513) 62) (W ∨ ∃ B x, Bd B ∧ SvV n h0 N nk rk bk q (1 - sd) B x ∧ x = p - 1 - 1000000) ∧ FlB (hI o (n + 513) 63) (Lo ∧ ∀ B x, Bd B → SvV n h0 N nk rk bk q (1 - sd) B x → 1000000 - p < x ∧ x ≤ 1000000)
/-- one board more -/
theorem mtr_1 {M' : Nat → Int} {Bd : (Nat → Int) → Prop} {k' num' : Nat} {y : Int32} (q0 : 0 < q) (q64 : q ≤ 64) (Fm : Fam L N nk rk) (k0 : DyK n h0 h0) (sd2 : sd < 2) (np : 1 ≤ x6.toInt ∧ x6.toInt ≤ 700000) (R : MtR n g h0 h N nk rk bk q sd x6.toInt W Lo Bd) (O : NdO N nk rk q M' k' num') (ey : y = hI h0 (n + 595) (bk k' + 2 * num' + (1 - sd))) (e : sX15_meet h (n + 513) y x6 = some o) : MtR n g h0 o N nk rk bk q sd x6.toInt W Lo (fun B => Bd B ∨ B = M') := by
  obtain ⟨Fr, kh, kg, bw, bl⟩ := R
  obtain ⟨f1, d1, w1, l1⟩ := mt_k np bw bl e
  have sv : ∀ x, SvV n h0 N nk rk bk q (1 - sd) M' x ↔ x = y.toInt := fun x => by
    constructor
    · intro ⟨k2, n2, O2, ex⟩
      obtain ⟨a, b⟩ := ndo_u q0 q64 Fm O2 O
      rw [ex, a, b, ey]
    · intro ex
      exact ⟨k', num', O, by rw [ex, ey]⟩
  refine ⟨fw_t Fr (fw_s f1 (fun _ _ c => Or.inl c)), d1 kh, d1 kg, flb_i w1 ?_, flb_i l1 ?_⟩
  · constructor
    · intro z
      rcases z with (z | ⟨B, x, b, s, ex⟩) | z
      · exact Or.inl z
      · exact Or.inr ⟨B, x, Or.inl b, s, ex⟩
      · exact Or.inr ⟨M', y.toInt, Or.inr rfl, (sv _).mpr rfl, z⟩
    · intro z
      rcases z with z | ⟨B, x, b, s, ex⟩
      · exact Or.inl (Or.inl z)
      · rcases b with b | b
        · exact Or.inl (Or.inr ⟨B, x, b, s, ex⟩)
        · rw [b] at s
          exact Or.inr (by rw [← (sv x).mp s]; exact ex)
  · constructor
    · intro ⟨⟨z, al⟩, r⟩
      refine ⟨z, fun B x b s => ?_⟩
      rcases b with b | b
      · exact al B x b s
      · rw [b] at s
        rw [(sv x).mp s]
        exact r
    · intro ⟨z, al⟩
      exact ⟨⟨z, fun B x b s => al B x (Or.inl b) s⟩, al M' _ (Or.inr rfl) ((sv _).mpr rfl)⟩
theorem mtr_i {Bd Bd' : (Nat → Int) → Prop} {p : Int} (R : MtR n g h0 o N nk rk bk q sd p W Lo Bd) (a : ∀ B, Bd B → ∃ B', Bd' B' ∧ ∀ s, s < 64 → B s = B' s) (b : ∀ B, Bd' B → ∃ B', Bd B' ∧ ∀ s, s < 64 → B s = B' s) : MtR n g h0 o N nk rk bk q sd p W Lo Bd' := by
  obtain ⟨r1, r2, r3, r4, r5⟩ := R
  have sv : ∀ {B B' : Nat → Int} {x : Int}, (∀ s, s < 64 → B s = B' s) → SvV n h0 N nk rk bk q (1 - sd) B x → SvV n h0 N nk rk bk q (1 - sd) B' x := fun e ⟨k, num, O, ex⟩ => ⟨k, num, ndo_e e O, ex⟩
  refine ⟨r1, r2, r3, flb_i r4 ⟨fun z => z.elim Or.inl (fun ⟨B, x, h1, h2, h3⟩ => ?_), fun z => z.elim Or.inl (fun ⟨B, x, h1, h2, h3⟩ => ?_)⟩, flb_i r5 ⟨fun z => ⟨z.1, fun B x h1 h2 => ?_⟩, fun z => ⟨z.1, fun B x h1 h2 => ?_⟩⟩⟩
  · obtain ⟨B', b1, b2⟩ := a B h1
    exact Or.inr ⟨B', x, b1, sv b2 h2, h3⟩
  · obtain ⟨B', b1, b2⟩ := b B h1
    exact Or.inr ⟨B', x, b1, sv b2 h2, h3⟩
  · obtain ⟨B', b1, b2⟩ := b B h1
    exact z.2 B' x b1 (sv b2 h2)
  · obtain ⟨B', b1, b2⟩ := a B h1
    exact z.2 B' x b1 (sv b2 h2)
end
end
section
/-! ENDINGS, the reference: meetAll -/
def LwE (L : Nat → Nat → Int) (N : Nat) (nk : Nat → Nat) (rk : Nat → Nat → Int) (q : Nat) : Prop := (LwOk L ∧ LtD L ∧ NcL L) ∧ Fam L N nk rk ∧ 0 < q ∧ q ≤ 64 ∧ (q : Int) = L 0 0 * L 1 0
/-- the state that is looked at -/
def NdH (n : Nat) (h : Hp) (L : Nat → Nat → Int) (N : Nat) (nk : Nat → Nat) (rk : Nat → Nat → Int) (q k num sd : Nat) : Prop := (k < N ∧ num < q ^ nk k ∧ sd < 2) ∧ RtN L (rk k) q num (nk k) sd ∧ ∀ i, i < nk k → (hI h (n + 607) i).toInt = (sqi q num i : Int)
section
variable {n F N q sd k num j t : Nat} {g h h0 o : Hp} {nk : Nat → Nat} {rk : Nat → Nat → Int} {bk : Nat → Nat} {x1 x2 x3 x4 x5 x6 x7 x8 : Int32} {L : Nat → Nat → Int} {W Lo : Prop} {Bd : (Nat → Int) → Prop}
theorem f3_e {M M' : Nat → Int} (e : ∀ s, s < 64 → M s = M' s) (f : F3p L (ndZ M sd)) : F3p L (ndZ M' sd) := by
  obtain ⟨s, s64, f⟩ := f
  have f : F3a L M s := f
  refine ⟨s, s64, ?_⟩
  show F3a L M' s
  unfold F3a at f ⊢
  rw [← e s s64]
  exact f
theorem mtr_s {o' : Hp} {p : Int} (R : MtR n g h0 h N nk rk bk q sd p W Lo Bd) (Fr : FrW (WSo n) h o') (kg : DyK n g o') (kh : DyK n h o') : MtR n g h0 o' N nk rk bk q sd p W Lo Bd := by
  obtain ⟨r1, r2, r3, r4, r5⟩ := R
  have s6 := dk_610 r2
  refine ⟨fw_t r1 (fw_s Fr (fun a i c => Or.inr (by unfold WSo at c; omega))), dk_t r2 kh, kg, ?_, ?_⟩
  · rw [(Fr.2 (n + 513) 62 (by omega) (fun c => by unfold WSo at c; omega)).1]; exact r4
  · rw [(Fr.2 (n + 513) 63 (by omega) (fun c => by unfold WSo at c; omega)).1]; exact r5
/-- the state behind is looked at -/
theorem mta_bh (hF : 700000 ≤ F) (E : LwE L N nk rk q) (k0 : DyK n h0 h0) (B0 : WkB n h0 L N nk rk bk q) (Nd : NdH n h0 L N nk rk q k num sd) (jm : j < nk k) (tq : t < q) (ne : ¬ sqi q num j = t) (R : MtR n g h0 h N nk rk bk q sd x6.toInt W Lo Bd) (i7 : 1 ≤ x7.toInt ∧ x7.toInt ≤ 2 * L 2 0) (e1 : x1.toInt = (k : Int)) (e3 : x3.toInt = (j : Int)) (e4 : x4.toInt = (t : Int)) (e8 : x8.toInt = (sd : Int)) {ob : Int32 × Hp} (e : sX15_stateBehind F h (n + 513) x1 x3 x4 x7 x8 = some ob) : MtR n g h0 ob.2 N nk rk bk q sd x6.toInt W Lo Bd ∧ (¬ ob.1 < 0 → ∃ k' num', NdO N nk rk q (afM (lyM (rk k) q num (nk k)) (sqi q num j) t x7.toInt) k' num' ∧ ob.1.toInt = ((bk k' + 2 * num' + (1 - sd) : Nat) : Int)) := by
  obtain ⟨⟨OK, LD, Nc⟩, Fm, q0, q64, eq⟩ := E
  obtain ⟨⟨kN, nb, sd2⟩, Rt, sts⟩ := Nd
  obtain ⟨r1, r2, r3, r4, r5⟩ := id R
  have s0 := dk_610 k0
  have L2 := OK.1.2.2.1
  have Bh := wkb_f k0 r2 r1 (fun a i c => by unfold WWn at c; omega) B0
  have sth : ∀ i, i < nk k → (hI h (n + 607) i).toInt = (sqi q num i : Int) := fun i hi => by
    rw [(r1.2 (n + 607) i (by omega) (fun c => by unfold WWn at c; omega)).1]; exact sts i hi
  have HM := nd_mok (num := num) q0 eq (Fm.1 k kN)
  have HM' : MOk L (updM (updM (lyM (rk k) q num (nk k)) (sqi q num j) 0) t x7.toInt) := fun x x64 => by
    show 0 ≤ (if x = t then x7.toInt else if x = sqi q num j then 0 else lyM (rk k) q num (nk k) x) ∧ (0 < (if x = t then x7.toInt else if x = sqi q num j then 0 else lyM (rk k) q num (nk k) x) → (x : Int) < L 0 0 * L 1 0 ∧ (if x = t then x7.toInt else if x = sqi q num j then 0 else lyM (rk k) q num (nk k) x) ≤ 2 * L 2 0)
    split
    · exact ⟨by omega, fun _ => ⟨by omega, by omega⟩⟩
    · split
      · exact ⟨by omega, fun z => absurd z (by decide)⟩
      · exact HM x x64
  obtain ⟨f1, g1, g2, sa⟩ := bh_k (g := g) hF (dk_self r2) r3 q0 q64 eq Bh.2.2.1 Bh.2.1 Fm kN jm (by omega) Rt.1 ne sth HM' e1 e3 e4 ⟨i7.1, by omega⟩ e8 sd2 e
  refine ⟨mtr_s R f1 g1 g2, fun n0 => ?_⟩
  rcases sa with ⟨z, _⟩ | z
  · exact absurd (by rw [z]; decide) n0
  · exact z
theorem inb_n {x : Int32} {a : Nat} (z : inB x a) : ¬ x < 0 := fun y => z (Or.inl y)
theorem mta_260 (hF : 700000 ≤ F) (E : LwE L N nk rk q) (k0 : DyK n h0 h0) (sd2 : sd < 2) (np : 1 ≤ x6.toInt ∧ x6.toInt ≤ 700000) {M' : Nat → Int} {y : Int32} {k' num' : Nat} (R : MtR n g h0 h N nk rk bk q sd x6.toInt W Lo Bd) (O : NdO N nk rk q M' k' num') (ey : y.toInt = ((bk k' + 2 * num' + (1 - sd) : Nat) : Int)) (e : sX15_meet h (n + 513) (hI h (n + 595) y.toNatClampNeg) x6 = some o) : MtR n g h0 o N nk rk bk q sd x6.toInt W Lo (fun B => Bd B ∨ B = M') := by
  have s0 := dk_610 k0
  have ny : y.toNatClampNeg = bk k' + 2 * num' + (1 - sd) := by have := nc_i (x := y) (by omega); omega
  refine mtr_1 E.2.2.1 E.2.2.2.1 E.2.1 k0 sd2 np R O ?_ e
  rw [ny]
  exact (R.1.2 (n + 595) _ (by omega) (fun c => by unfold WWn at c; omega)).1
theorem mta_168 (hF : 700000 ≤ F) (E : LwE L N nk rk q) (k0 : DyK n h0 h0) (B0 : WkB n h0 L N nk rk bk q) (Nd : NdH n h0 L N nk rk q k num sd) (jm : j < nk k) (tq : t < q) (ne : ¬ sqi q num j = t) (np : 1 ≤ x6.toInt ∧ x6.toInt ≤ 700000) (R : MtR n g h0 h N nk rk bk q sd x6.toInt W Lo Bd) (e1 : x1.toInt = (k : Int)) (e2 : x2.toInt = ((2 * num + sd : Nat) : Int)) (e3 : x3.toInt = (j : Int)) (e4 : x4.toInt = (t : Int)) (e5 : x5.toInt = ((2 * q ^ j : Nat) : Int)) (e7 : x7.toInt = rk k j) (e8 : x8.toInt = (sd : Int)) : ∀ (f : Nat) {x10 x11 : Int32} {i : Nat}, x11.toInt = (i : Int) → i ≤ nk k → FlB x10 (¬ LkM (rk k) (nk k) j ∧ ∀ i', i' < i → ¬ sqi q num i' = t) → sX15_meetAll_168 F f h (n + 513) x1 x2 x3 x4 x5 x6 x7 x8 x10 x11 = some o → MtR n g h0 o N nk rk bk q sd x6.toInt W Lo (fun B => Bd B ∨ B = afM (lyM (rk k) q num (nk k)) (sqi q num j) t (rk k j)) := by
  have z1 : (1 : Int32).toInt = 1 := rfl
  have z2 : (2 : Int32).toInt = 2 := rfl
  obtain ⟨⟨OK, LD, Nc⟩, Fm, q0, q64, eq⟩ := id E
  obtain ⟨⟨kN, nb, sd2⟩, Rt, sts⟩ := id Nd
  obtain ⟨r1, r2, r3, r4, r5⟩ := id R
  have s0 := dk_610 k0
  have Bh := wkb_f k0 r2 r1 (fun a i c => by unfold WWn at c; omega) B0
  obtain ⟨⟨a1, a2⟩, _⟩ := id Bh.2.1
  obtain ⟨b1, b2, b3, b4, b5⟩ := a2 k kN
  have n1 : x1.toNatClampNeg = k := by have := nc_i (x := x1) (by omega); omega
  have n3 : x3.toNatClampNeg = j := by have := nc_i (x := x3) (by omega); omega
  have sth : ∀ i, i < nk k → (hI h (n + 607) i).toInt = (sqi q num i : Int) := fun i hi => by
    rw [(r1.2 (n + 607) i (by omega) (fun c => by unfold WWn at c; omega)).1]; exact sts i hi
  have rb := (Fm.1 k kN).2.1 j jm
  intro f
  induction f with
  | zero => intro x10 x11 i _ _ _ e; exact absurd e (by rw [sX15_meetAll_168]; exact fun z => nomatch z)
  | succ f ih =>
    intro x10 x11 i e11 im fl e
    rw [sX15_meetAll_168] at e
    replace e := ce_e (dk_e (a := 513) (f := 46) (b := 592) r2 (by decide +kernel)) e
    replace e := gg_e e
    have em := b1.1
    rcases br_s e with ⟨c, e⟩ | ⟨c, e⟩ <;> rw [n1] at c
    · have c := le_i c
      have im' : i = nk k := by omega
      rw [im'] at fl
      replace e := ce_e (dk_e (a := 513) (f := 51) (b := 595) r2 (by decide +kernel)) e
      rcases br_s e with ⟨c1, e⟩ | ⟨c1, e⟩
      · obtain ⟨o6, e6, e⟩ := cl_s e
        obtain ⟨R6, nd6⟩ := mta_bh hF E k0 B0 Nd jm tq ne R ⟨by omega, by omega⟩ e1 e3 e4 e8 e6
        unfold sX15_meetAll_260 at e
        obtain ⟨ib, e⟩ := gd_s e
        obtain ⟨o2, e2', e⟩ := cl_s e
        obtain ⟨k', num', O, ei⟩ := nd6 (inb_n ib)
        rw [so_e e]
        rw [e7] at O
        exact mta_260 hF E k0 sd2 np R6 O ei e2'
      · have pl := flb_1 fl c1
        replace e := ce_e (dk_e (a := 513) (f := 48) (b := 594) r2 (by decide +kernel)) e
        replace e := gg_e e
        replace e := ce_e (dk_e (a := 513) (f := 61) (b := 607) r2 (by decide +kernel)) e
        replace e := gg_e e
        unfold sX15_meetAll_260 at e
        replace e := gg_e e
        obtain ⟨o2, e2', e⟩ := cl_s e
        rw [so_e e]
        obtain ⟨num', u1, u2, u3, u4⟩ := nd_plain q0 q64 (Fm.1 k kN) Rt.1 nb jm tq pl.1 pl.2
        have sj := sth j jm
        have lj := sqi_lt (num := num) (i := j) q0
        have pj : 0 < q ^ j := Nat.pow_pos q0
        have pq : q ^ j * q ≤ q ^ nk k := by
          rw [← Nat.pow_succ]
          exact Nat.pow_le_pow_right q0 (by omega)
        have tb : t * q ^ j ≤ q ^ j * q := by
          rw [Nat.mul_comm]
          exact Nat.mul_le_mul_left _ (by omega)
        have sb : sqi q num j * q ^ j ≤ q ^ j * q := by
          rw [Nat.mul_comm]
          exact Nat.mul_le_mul_left _ (by omega)
        refine mta_260 hF E k0 sd2 np R ⟨kN, u2, u3, u4⟩ ?_ e2'
        rw [n1, n3]
        have d1 : (x4 - hI h (n + 607) j).toInt = (t : Int) - (sqi q num j : Int) := by rw [ts (by rw [e4, sj]; omega), e4, sj]
        have pr : ((t : Int) - (sqi q num j : Int)) * ((2 * q ^ j : Nat) : Int) = 2 * ((t * q ^ j : Nat) : Int) - 2 * ((sqi q num j * q ^ j : Nat) : Int) := by
          rw [Int.sub_mul]
          have a1 : (t : Int) * ((2 * q ^ j : Nat) : Int) = 2 * ((t * q ^ j : Nat) : Int) := by
            rw [← Int.natCast_mul, show t * (2 * q ^ j) = 2 * (t * q ^ j) by rw [Nat.mul_left_comm]]
            omega
          have a2 : (sqi q num j : Int) * ((2 * q ^ j : Nat) : Int) = 2 * ((sqi q num j * q ^ j : Nat) : Int) := by
            rw [← Int.natCast_mul, show sqi q num j * (2 * q ^ j) = 2 * (sqi q num j * q ^ j) by rw [Nat.mul_left_comm]]
            omega
          rw [a1, a2]
        have d2 : ((x4 - hI h (n + 607) j) * x5).toInt = 2 * ((t * q ^ j : Nat) : Int) - 2 * ((sqi q num j * q ^ j : Nat) : Int) := by
          rw [tm (by rw [d1, e5, pr]; omega), d1, e5, pr]
        have d3 : (hI h (n + 594) k + x2).toInt = ((bk k + (2 * num + sd) : Nat) : Int) := by rw [ta (by rw [b4, e2]; omega), b4, e2]; omega
        have d4 : ((hI h (n + 594) k + x2) + (x4 - hI h (n + 607) j) * x5).toInt = ((bk k + (2 * num + sd) : Nat) : Int) + (2 * ((t * q ^ j : Nat) : Int) - 2 * ((sqi q num j * q ^ j : Nat) : Int)) := by
          rw [ta (by rw [d3, d2]; omega), d3, d2]
        have d5 : (((hI h (n + 594) k + x2) + (x4 - hI h (n + 607) j) * x5) + (1 : Int32)).toInt = ((bk k + (2 * num + sd) : Nat) : Int) + (2 * ((t * q ^ j : Nat) : Int) - 2 * ((sqi q num j * q ^ j : Nat) : Int)) + 1 := by
          rw [ta (by rw [d4, z1]; omega), d4, z1]
        have d6 : ((2 : Int32) * x8).toInt = 2 * (sd : Int) := by rw [tm (by rw [z2, e8]; omega), z2, e8]
        show ((((hI h (n + 594) k + x2) + (x4 - hI h (n + 607) j) * x5) + (1 : Int32)) - (2 : Int32) * x8).toInt = _
        rw [ts (by rw [d5, d6]; omega), d5, d6]
        omega
    · have c := nle_i c
      have im' : i < nk k := by omega
      have n11 : x11.toNatClampNeg = i := by have := nc_i (x := x11) (by omega); omega
      replace e := ce_e (dk_e (a := 513) (f := 61) (b := 607) r2 (by decide +kernel)) e
      replace e := gg_e e
      have si := sth i im'
      unfold sX15_meetAll_198 at e
      rcases br_s e with ⟨c1, e⟩ | ⟨c1, e⟩ <;> rw [n11] at c1 <;> obtain ⟨v1, w1, e⟩ := nm_s e <;> obtain ⟨v2, w2, e⟩ := nm_s e <;> have y2 : v2.toInt = ((i + 1 : Nat) : Int) := by rw [w2, ta (by rw [z1]; omega), z1]; omega
      · have st : sqi q num i = t := by
          have := congrArg Int32.toInt c1
          rw [si, e4] at this
          omega
        refine ih y2 (by omega) ?_ e
        have : v1 = 0 := by
          rw [w1]
          rcases fl with ⟨z, _⟩ | ⟨z, _⟩ <;> rw [z] <;> decide
        rw [this]
        exact flz (fun z => z.2 i (Nat.lt_succ_self _) st)
      · have st : ¬ sqi q num i = t := fun z => c1 (Int32.toInt_inj.mp (by rw [si, e4, z]))
        refine ih y2 (by omega) ?_ e
        have : v1 = x10 := by
          rw [w1]
          rcases fl with ⟨z, _⟩ | ⟨z, _⟩ <;> rw [z] <;> decide
        rw [this]
        refine flb_i fl ⟨fun z => ⟨z.1, fun i' hi' => ?_⟩, fun z => ⟨z.1, fun i' hi' => z.2 i' (by omega)⟩⟩
        by_cases y : i' = i
        · rw [y]; exact st
        · exact z.2 i' (by omega)
end
end
