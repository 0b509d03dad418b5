section
/-! the class: what is wrong with a position: men, late men, rights -/
/-- the class's position as it is read: its PASS may be too long to be told -/
def CpR (V : Nat → Nat) (h : Hp) (ro : Int) (P : Pz) : Prop := VPc V h ∧ PosC h (V 34) (V 35) (V 36) P.1 ro ∧ (hI h (V 4) 5).toInt = (pzS P : Int) ∧ (∀ q, q < 64 → bitJ (hJ h (V 4) 8) q = pzR P q) ∧ ((Pw (hJ h (V 4) 9) (pzN P) (pzQ P) ∧ OvN (hJ h (V 4) 10) (pzN P) (pzQ P)) ∨ (8 ≤ pzN P ∧ hJ h (V 4) 9 = 8)) ∧ ((∀ s, s < 2 → HdB (hJ h (V 37) s)) ∧ ∀ d, d < 24 → ((hv (hJ h (V 37) (d % 2)) (d / 2) : Nat) : Int) = pzH P d) ∧ (∀ d, d < 2 → (hI h (V 38) d).toInt = pzC P d) ∧ (hI h (V 4) 6).toInt = pzK P
def F2d (L : Nat → Nat → Int) (P : Pz) (d : Nat) : Prop := 1 < rcL L P.1 d 64 ∨ (¬ L 18 0 = 0 ∧ rcL L P.1 d 64 = 0) ∨ 0 < pzH P (2 * (L 10 0).toNat + d)
theorem rcl_sk {L : Nat → Nat → Int} {M : Nat → Int} {d m : Nat} : ∀ k, m ≤ k → (∀ s, m ≤ s → s < k → rcF L M d s = 0) → rcL L M d k = rcL L M d m := fun k => by
  induction k with
  | zero =>
    intro h _
    have : m = 0 := by omega
    rw [this]
  | succ k ih =>
    intro h1 z
    by_cases c : m = k + 1
    · rw [c]
    · rw [rc_s, ih (by omega) (fun s a b => z s a (by omega)), z k (by omega) (by omega)]
      rfl
theorem rkf_o {L : Nat → Nat → Int} {t d : Int} (hd : d = 0 ∨ d = 1) : rkF L t (1 - d) = L 1 0 ↔ rkF L t d = 1 := by
  unfold rkF
  generalize t / L 0 0 = q
  rcases hd with z | z
  · rw [z, if_neg (by decide), if_pos rfl]; omega
  · rw [z, if_pos (by decide), if_neg (by decide)]; omega
section
variable {F : Nat} {V : Nat → Nat} {L : Nat → Nat → Int} {h : Hp} {P : Pz} {o : Int32 × Hp}
theorem fst_v {x1 x2 : Int32} {t d : Nat} (H : LOk L) (lw : CLwC V h L) (e1 : x1.toInt = (t : Int)) (tL : (t : Int) < L 0 0 * L 1 0) (e2 : x2.toInt = (d : Int)) (hd : d < 2) (e : sX1_isFirst h (V 2) x1 x2 = some o) : o.2 = h ∧ ((o.1 = 0 ∧ ¬ rkF L t d = 1) ∨ (o.1 = 1 ∧ rkF L t d = 1)) := by
  have z1 : (1 : Int32).toInt = 1 := rfl
  have t1 : ((1 : Int32) - x2).toInt = 1 - (d : Int) := by rw [ts (by rw [z1, e2]; omega), z1, e2]
  unfold sX1_isFirst at e
  replace e := cl_s e; obtain ⟨o1, eo1, e⟩ := e
  obtain ⟨w, r⟩ := last_v H lw.1 lw.2.2.2.1.2 e1 tL ⟨by rw [t1]; omega, by rw [t1]; omega⟩ eo1
  rw [t1, rkf_o (by omega)] at r
  replace e := gg_e e
  rw [so_e e]
  exact ⟨w, r⟩
/-- ROYAL men of one side, counted -/
theorem rm_33 {K : Hp → Nat → Nat → Int32 → Option (Int32 × Hp)} {x2 : Int32} {d : Nat} (HM : MOk L P.1) (L2 : L 2 0 ≤ 12) (w0 : hR h (V 6) 0 = some (V 2)) (lw : CLwC V h L) (C : CpR V h (L 10 0) P) (hd : d < 2) (hr : 0 ≤ L 10 0) : ∀ (f : Nat) {x3 x6 : Int32} {x4 : Int64} {m : Nat}, x3.toInt = ((rcL L P.1 d m : Nat) : Int) → m ≤ 64 → 0 ≤ x6.toInt → x6.toInt ≤ (m : Int) → (∀ s, s < 64 → (bitJ x4 s = true ↔ ((0 < P.1 s ∧ (P.1 s - 1) % 2 = (d : Int)) ∧ m ≤ s))) → sX5_hasRightMen_33 F K f h (V 6) (V 4) x2 x3 x4 x6 = some o → ∃ y : Int32, y.toInt = ((rcL L P.1 d 64 : Nat) : Int) ∧ sX5_hasRightMen_96 F K h (V 6) (V 4) x2 y = some o := by
  have z0 : (0 : Int32).toInt = 0 := rfl
  have z1 : (1 : Int32).toInt = 1 := rfl
  have z64 : (64 : Int32).toInt = 64 := rfl
  have non : ∀ s, ¬ (0 < P.1 s ∧ (P.1 s - 1) % 2 = (d : Int)) → rcF L P.1 d s = 0 := fun s n => if_neg (fun z => n (by omega))
  have l4 := lw.2.2.1.1
  intro f
  induction f with
  | zero => intro x3 x6 x4 m _ _ _ _ _ e; exact absurd e (by rw [sX5_hasRightMen_33]; exact fun z => nomatch z)
  | succ f ih =>
    intro x3 x6 x4 m e3 m64 a6 l6 bt e
    rw [sX5_hasRightMen_33] at e
    have done : (∀ s, s < 64 → bitJ x4 s = false) → sX5_hasRightMen_96 F K h (V 6) (V 4) x2 x3 = some o → ∃ y : Int32, y.toInt = ((rcL L P.1 d 64 : Nat) : Int) ∧ sX5_hasRightMen_96 F K h (V 6) (V 4) x2 y = some o := fun z u => by
      refine ⟨x3, ?_, u⟩
      rw [e3, rcl_sk 64 m64 (fun s a b => non s (fun w => ?_))]
      have := (bt s b).mpr ⟨w, a⟩
      rw [z s b] at this
      exact absurd this (by decide)
    rcases br_s e with ⟨c, e⟩ | ⟨c, e⟩
    · have c := le_i c
      rw [z64] at c
      refine done (fun s hs => ?_) e
      cases b : bitJ x4 s with
      | false => rfl
      | true => have := ((bt s hs).mp b).2; omega
    have c := nle_i c
    rw [z64] at c
    rcases br_s e with ⟨y, e⟩ | ⟨y, e⟩
    · exact done (j_zero.mp (cmp_eq y)) e
    replace e := cl_s e; obtain ⟨o3, eo3, e⟩ := e
    obtain ⟨w3, k, k64, ek, bk, lo, rest⟩ := low_v eo3 y
    rw [w3] at e
    obtain ⟨⟨m0, m1⟩, mk⟩ := (bt k k64).mp bk
    have rk : rcL L P.1 d k = rcL L P.1 d m := rcl_sk k mk (fun s a b => non s (fun w => by
      have := (bt s (by omega)).mpr ⟨w, a⟩
      rw [lo s b] at this
      exact absurd this (by decide)))
    rw [← rk] at e3
    have ck : o3.1.toNatClampNeg = k := by have := nc_i (x := o3.1) (by omega); omega
    have on := C.2.1.1 k k64
    have vL := ((HM k k64).2 m0).2
    have sh : ((hI h (V 34) k) >>> ((1 : Int32) &&& 31)).toInt = (P.1 k - 1) / 2 := by
      rw [shr_i 1 (by decide), on]
      rfl
    replace e := nm_s e; obtain ⟨v4, u4, e⟩ := e
    have b4 : ∀ s, s < 64 → (bitJ v4 s = true ↔ ((0 < P.1 s ∧ (P.1 s - 1) % 2 = (d : Int)) ∧ k + 1 ≤ s)) := fun s hs => by
      rw [u4, rest s hs, Bool.and_eq_true, Bool.not_eq_true', decide_eq_false_iff_not, bt s hs]
      constructor
      · rintro ⟨⟨a, b⟩, q⟩
        refine ⟨a, ?_⟩
        by_cases l : s < k
        · have := (bt s hs).mpr ⟨a, b⟩
          rw [lo s l] at this
          exact absurd this (by decide)
        · omega
      · rintro ⟨a, b⟩
        exact ⟨⟨a, by omega⟩, by omega⟩
    replace e := ce_e C.1.1 e
    replace e := gg_e e
    replace e := ce_e w0 e
    rw [ck] at e
    have le := rcl_le (L := L) (M := P.1) (d := d) (n := k)
    have t6 : (x6 + (1 : Int32)).toInt = x6.toInt + 1 := by rw [ta (by rw [z1]; omega), z1]
    unfold sX5_hasRightMen_88 at e
    rcases br_s e with ⟨q, e⟩ | ⟨q, e⟩
    · have em : (P.1 k - 1) / 2 = L 10 0 := by rw [← sh, q, l4]
      have f1 : rcF L P.1 d k = 1 := if_pos ⟨hr, by omega⟩
      refine ih (m := k + 1) (by rw [ta (by rw [e3, z1]; omega), e3, z1, rc_s, f1]; omega) (by omega) (by omega) (by omega) b4 (nx_e (nx_e e))
    · have em : ¬ (P.1 k - 1) / 2 = L 10 0 := fun z => q (Int32.toInt_inj.mp (by rw [sh, z, l4]))
      have f1 : rcF L P.1 d k = 0 := if_neg (fun z => em (by omega))
      refine ih (m := k + 1) (by rw [ta (by rw [e3, z0]; omega), e3, z0, rc_s, f1]; omega) (by omega) (by omega) (by omega) b4 (nx_e (nx_e e))
theorem rm_15 (HM : MOk L P.1) (K : LawK L) (L2 : L 2 0 ≤ 12) (w0 : hR h (V 6) 0 = some (V 2)) (lw : CLwC V h L) (C : CpR V h (L 10 0) P) (hr : 0 ≤ L 10 0) : ∀ (f : Nat) {x2 : Int32} {n : Nat}, x2.toInt = (n : Int) → n ≤ 2 → (∀ d, d < n → ¬ F2d L P d) → sX5_hasRightMen_15 F f h (V 6) (V 4) x2 = some o → o.2 = h ∧ ((o.1 = 0 ∧ ∃ d, d < 2 ∧ F2d L P d) ∨ (o.1 = 1 ∧ ∀ d, d < 2 → ¬ F2d L P d)) := by
  have z0 : (0 : Int32).toInt = 0 := rfl
  have z1 : (1 : Int32).toInt = 1 := rfl
  have z2 : (2 : Int32).toInt = 2 := rfl
  have l4 := lw.2.2.1.1
  have k2 := K.2.1.2
  intro f
  induction f with
  | zero => intro x2 n _ _ _ e; exact absurd e (by rw [sX5_hasRightMen_15]; exact fun z => nomatch z)
  | succ f ih =>
    intro x2 n e2 n2 al e
    rw [sX5_hasRightMen_15] at e
    rcases br_s e with ⟨c, e⟩ | ⟨c, e⟩
    · have c := le_i c
      rw [z2, e2] at c
      rw [so_e e]
      exact ⟨rfl, Or.inr ⟨rfl, fun d hd => al d (by omega)⟩⟩
    have c := nle_i c
    rw [z2, e2] at c
    have c2 : x2.toNatClampNeg = n := by have := nc_i (x := x2) (by omega); omega
    replace e := ce_e C.1.2.1 e
    replace e := gg_e e
    replace e := nm_s e; obtain ⟨v4, u4, e⟩ := e
    rw [c2] at u4
    have bt := C.2.1.2.1 n (by omega)
    obtain ⟨y, ey, e⟩ := rm_33 HM L2 w0 lw C (show n < 2 by omega) hr F (x3 := 0) (x6 := 0) (m := 0) rfl (by decide) (by decide) (by decide) (fun s hs => by
      rw [u4, bt s hs]
      exact ⟨fun z => ⟨z, Nat.zero_le _⟩, fun z => z.1⟩) e
    unfold sX5_hasRightMen_96 sX5_hasRightMen_132 sX5_hasRightMen_117 at e
    have bad : F2d L P n → some ((0 : Int32), h) = some o → o.2 = h ∧ ((o.1 = 0 ∧ ∃ d, d < 2 ∧ F2d L P d) ∨ (o.1 = 1 ∧ ∀ d, d < 2 → ¬ F2d L P d)) := fun b u => by
      rw [so_e u]
      exact ⟨rfl, Or.inl ⟨rfl, n, by omega, b⟩⟩
    have hand : ¬ 1 < rcL L P.1 n 64 → ¬ (¬ L 18 0 = 0 ∧ rcL L P.1 n 64 = 0) → (cl (hR h (V 6) 0) fun r_1 => cl (sX3_inHand h (V 4) x2 (hI h r_1 4)) fun o_2 => br (o_2.1 ≤ 0) (nm (x2 + (1 : Int32)) fun v_4 => sX5_hasRightMen_15 F f o_2.2 (V 6) (V 4) v_4) (some ((0 : Int32), o_2.2))) = some o → o.2 = h ∧ ((o.1 = 0 ∧ ∃ d, d < 2 ∧ F2d L P d) ∨ (o.1 = 1 ∧ ∀ d, d < 2 → ¬ F2d L P d)) := fun a b u => by
      replace u := ce_e w0 u
      replace u := cl_s u; obtain ⟨o2, eo2, u⟩ := u
      obtain ⟨w2, r2⟩ := inh_v C.1.2.2.2.1 (show Rg 0 11 (hI h (V 2) 4) from ⟨by omega, by omega⟩) eo2
      have c4 : (hI h (V 2) 4).toNatClampNeg = (L 10 0).toNat := by have := nc_i (x := hI h (V 2) 4) (by omega); omega
      rw [c2, c4] at r2
      have hh := C.2.2.2.2.2.1.2 (2 * (L 10 0).toNat + n) (by omega)
      rw [show (2 * (L 10 0).toNat + n) % 2 = n by omega, show (2 * (L 10 0).toNat + n) / 2 = (L 10 0).toNat by omega] at hh
      rw [hh] at r2
      rw [w2] at u
      rcases br_s u with ⟨q, u⟩ | ⟨q, u⟩
      · have q := le_i q
        rw [r2, z0] at q
        refine ih (n := n + 1) (by rw [ta (by rw [z1]; omega), z1, e2]; omega) (by omega) (fun d hd => ?_) (nx_e u)
        by_cases y : d = n
        · rw [y]
          rintro (w | w | w)
          · exact a w
          · exact b w
          · omega
        · exact al d (by omega)
      · have q := nle_i q
        rw [r2, z0] at q
        exact bad (Or.inr (Or.inr q)) u
    rcases br_s e with ⟨q, e⟩ | ⟨q, e⟩
    · have q := lt_i q
      rw [z1, ey] at q
      exact bad (Or.inl (by omega)) e
    have q := nlt_i q
    rw [z1, ey] at q
    rcases br_s e with ⟨w, e⟩ | ⟨w, e⟩
    · rw [w, z0] at ey
      replace e := ce_e w0 e
      replace e := cl_s e; obtain ⟨o4, eo4, e⟩ := e
      obtain ⟨w4, r4⟩ := has_v eo4
      rw [w4] at e
      rcases r4 with ⟨a, b⟩ | ⟨a, b⟩
      · exact hand (by omega) (fun z => z.1 (lw.2.1.2.1.2.2.2.mp b)) (bp_e a e)
      · exact bad (Or.inr (Or.inl ⟨fun z => b (lw.2.1.2.1.2.2.2.mpr z), by omega⟩)) (bn_e (by rw [a]; decide) e)
    · have : ¬ rcL L P.1 n 64 = 0 := fun z => w (Int32.toInt_inj.mp (by rw [ey, z, z0]; rfl))
      exact hand (by omega) (fun z => this z.2) e
theorem rm_c (H : LOk L) (HM : MOk L P.1) (K : LawK L) (w0 : hR h (V 6) 0 = some (V 2)) (lw : CLwC V h L) (C : CpR V h (L 10 0) P) (e : sX5_hasRightMen F h (V 6) (V 4) = some o) : o.2 = h ∧ ((o.1 = 0 ∧ F2p L P) ∨ (o.1 = 1 ∧ ¬ F2p L P)) := by
  have zm : (-1 : Int32).toInt = -1 := by decide
  have l4 := lw.2.2.1.1
  unfold sX5_hasRightMen at e
  replace e := ce_e w0 e
  rcases br_s e with ⟨c, e⟩ | ⟨c, e⟩
  · rw [c, zm] at l4
    rw [so_e e]
    exact ⟨rfl, Or.inr ⟨rfl, fun z => by have := z.1; omega⟩⟩
  have hr : 0 ≤ L 10 0 := by
    have : ¬ L 10 0 = -1 := fun z => c (Int32.toInt_inj.mp (by rw [l4, z, zm]))
    have := K.2.1.1
    omega
  obtain ⟨a, b⟩ := rm_15 HM K H.2.2.1.2 w0 lw C hr F (n := 0) rfl (by decide) (fun d hd => absurd hd (Nat.not_lt_zero _)) e
  refine ⟨a, ?_⟩
  rcases b with ⟨b, d, hd, g⟩ | ⟨b, g⟩
  · exact Or.inl ⟨b, hr, d, hd, g⟩
  · exact Or.inr ⟨b, fun ⟨_, d, hd, z⟩ => g d hd z⟩
/-- a man who becomes others on his last rank -/
theorem lm_17 (H : LOk L) (HM : MOk L P.1) (w0 : hR h (V 6) 0 = some (V 2)) (lw : CLwC V h L) (C : CpR V h (L 10 0) P) : ∀ (f : Nat) {x2 : Int64} {x4 : Int32} {m : Nat}, m ≤ 64 → 0 ≤ x4.toInt → x4.toInt ≤ (m : Int) → (∀ s, s < 64 → (bitJ x2 s = true ↔ (0 < P.1 s ∧ m ≤ s))) → (∀ s, s < m → ¬ F3a L P.1 s) → sX5_hasLateMan_17 F f h (V 6) (V 4) x2 x4 = some o → o.2 = h ∧ ((o.1 = 0 ∧ ¬ F3p L P) ∨ (o.1 = 1 ∧ F3p L P)) := by
  have z1 : (1 : Int32).toInt = 1 := rfl
  have z64 : (64 : Int32).toInt = 64 := rfl
  have L2 := H.2.2.1
  intro f
  induction f with
  | zero => intro x2 x4 m _ _ _ _ _ e; exact absurd e (by rw [sX5_hasLateMan_17]; exact fun z => nomatch z)
  | succ f ih =>
    intro x2 x4 m m64 a4 l4 bt al e
    rw [sX5_hasLateMan_17] at e
    unfold sX5_hasLateMan_89 sX5_hasLateMan_83 at e
    have done : (∀ s, s < 64 → bitJ x2 s = false) → some ((0 : Int32), h) = some o → o.2 = h ∧ ((o.1 = 0 ∧ ¬ F3p L P) ∨ (o.1 = 1 ∧ F3p L P)) := fun z u => by
      rw [so_e u]
      refine ⟨rfl, Or.inl ⟨rfl, fun ⟨s, hs, w⟩ => ?_⟩⟩
      by_cases q : s < m
      · exact al s q w
      · have := (bt s hs).mpr ⟨w.1, by omega⟩
        rw [z s hs] at this
        exact absurd this (by decide)
    rcases br_s e with ⟨c, e⟩ | ⟨c, e⟩
    · have c := le_i c
      rw [z64] at c
      refine done (fun s hs => ?_) e
      cases b : bitJ x2 s with
      | false => rfl
      | true => have := ((bt s hs).mp b).2; omega
    have c := nle_i c
    rw [z64] at c
    rcases br_s e with ⟨y, e⟩ | ⟨y, e⟩
    · exact done (j_zero.mp (cmp_eq y)) e
    replace e := cl_s e; obtain ⟨o3, eo3, e⟩ := e
    obtain ⟨w3, k, k64, ek, bk, lo, rest⟩ := low_v eo3 y
    rw [w3] at e
    obtain ⟨m0, mk⟩ := (bt k k64).mp bk
    have ck : o3.1.toNatClampNeg = k := by have := nc_i (x := o3.1) (by omega); omega
    have on := C.2.1.1 k k64
    obtain ⟨kL, vL⟩ := (HM k k64).2 m0
    obtain ⟨mL, mE⟩ := mno_lt (L := L) m0 vL
    replace e := nm_s e; obtain ⟨v4, u4, e⟩ := e
    have b4 : ∀ s, s < 64 → (bitJ v4 s = true ↔ (0 < P.1 s ∧ k + 1 ≤ s)) := fun s hs => by
      rw [u4, rest s hs, Bool.and_eq_true, Bool.not_eq_true', decide_eq_false_iff_not, bt s hs]
      constructor
      · rintro ⟨⟨a, b⟩, q⟩
        refine ⟨a, ?_⟩
        by_cases l : s < k
        · have := (bt s hs).mpr ⟨a, b⟩
          rw [lo s l] at this
          exact absurd this (by decide)
        · omega
      · rintro ⟨a, b⟩
        exact ⟨⟨a, by omega⟩, by omega⟩
    have t4 : (x4 + (1 : Int32)).toInt = x4.toInt + 1 := by rw [ta (by rw [z1]; omega), z1]
    have nxt : ¬ F3a L P.1 k → sX5_hasLateMan_17 F f h (V 6) (V 4) v4 (x4 + (1 : Int32)) = some o → o.2 = h ∧ ((o.1 = 0 ∧ ¬ F3p L P) ∨ (o.1 = 1 ∧ F3p L P)) := fun n u => by
      refine ih (m := k + 1) (by omega) (by omega) (by omega) b4 (fun s hs => ?_) u
      by_cases q : s = k
      · rw [q]; exact n
      · by_cases q' : s < m
        · exact al s q'
        · intro w
          have := (bt s (by omega)).mpr ⟨w.1, by omega⟩
          rw [lo s (by omega)] at this
          exact absurd this (by decide)
    replace e := ce_e C.1.1 e
    replace e := gg_e e
    replace e := nm_s e; obtain ⟨v7, u7, e⟩ := e
    rw [ck] at u7
    rw [← u7] at on
    have sh : (v7 >>> ((1 : Int32) &&& 31)).toInt = ((mnO (P.1 k) : Nat) : Int) := by
      rw [shr_i 1 (by decide), on, mE]
      rfl
    have sd : (v7 &&& (1 : Int32)).toInt = (P.1 k - 1) % 2 := by rw [and1_i (by omega), on]
    replace e := ce_e w0 e
    replace e := cl_s e; obtain ⟨o9, eo9, e⟩ := e
    obtain ⟨w9, be⟩ := beo_c lw.2.1 sh (by omega) eo9
    rw [w9] at e
    rcases be with ⟨a, b⟩ | ⟨a, b⟩
    · exact nxt (fun z => b z.2.1) (nx_e (bp_e a e))
    replace e := bn_e (by rw [a]; decide) e
    replace e := ce_e w0 e
    replace e := cl_s e; obtain ⟨o12, eo12, e⟩ := e
    obtain ⟨w12, r⟩ := last_v H lw.1 lw.2.2.2.1.2 ek kL ⟨by omega, by omega⟩ eo12
    rw [sd] at r
    rw [w12] at e
    rcases r with ⟨q, r⟩ | ⟨q, r⟩
    · exact nxt (fun z => r z.2.2) (nx_e (bp_e q e))
    · rw [so_e (bn_e (by rw [q]; decide) e)]
      exact ⟨rfl, Or.inr ⟨rfl, k, k64, m0, b, r⟩⟩
theorem lm_c (H : LOk L) (HM : MOk L P.1) (w0 : hR h (V 6) 0 = some (V 2)) (lw : CLwC V h L) (C : CpR V h (L 10 0) P) (e : sX5_hasLateMan F h (V 6) (V 4) = some o) : o.2 = h ∧ ((o.1 = 0 ∧ ¬ F3p L P) ∨ (o.1 = 1 ∧ F3p L P)) := by
  have n0 : (0 : Int32).toNatClampNeg = 0 := rfl
  have n1 : (1 : Int32).toNatClampNeg = 1 := rfl
  unfold sX5_hasLateMan at e
  replace e := ce_e C.1.2.1 e
  replace e := gg_e e
  replace e := ce_e C.1.2.1 e
  replace e := gg_e e
  replace e := nm_s e; obtain ⟨v5, u5, e⟩ := e
  rw [n0, n1] at u5
  have bo := occ_b C.2.1.2.1 u5
  exact lm_17 H HM w0 lw C F (m := 0) (by decide) (by decide) (by decide) (fun s hs => by
    rw [bo s hs]
    exact ⟨fun z => ⟨z, Nat.zero_le _⟩, fun z => z.1⟩) (fun s hs => absurd hs (Nat.not_lt_zero _)) e
/-- rights -/
theorem rr_2 (H : LOk L) (HM : MOk L P.1) (K : LawK L) (U : UnM P.1 (L 10 0)) (w0 : hR h (V 6) 0 = some (V 2)) (lw : CLwC V h L) (C : CpR V h (L 10 0) P) : ∀ (f : Nat) {x2 : Int32} {n : Nat}, x2.toInt = (n : Int) → (n : Int) ≤ L 0 0 * L 1 0 → (∀ s, s < n → pzR P s = true → RgA L P.1 s) → sX5_hasRightRights_2 F f h (V 6) (V 4) x2 = some o → o.2 = h ∧ ((o.1 = 0 ∧ F4p L P) ∨ (o.1 = 1 ∧ ¬ F4p L P)) := by
  have z0 : (0 : Int32).toInt = 0 := rfl
  have z1 : (1 : Int32).toInt = 1 := rfl
  have zm : (-1 : Int32).toInt = -1 := by decide
  have sq := sq_64 H
  have L2 := H.2.2.1
  have l6 := lw.2.2.1.2.2.1
  have l2 := lw.1.2.2.1
  intro f
  induction f with
  | zero => intro x2 n _ _ _ e; exact absurd e (by rw [sX5_hasRightRights_2]; exact fun z => nomatch z)
  | succ f ih =>
    intro x2 n e2 nL al e
    rw [sX5_hasRightRights_2] at e
    unfold sX5_hasRightRights_129 sX5_hasRightRights_123 sX5_hasRightRights_88 sX5_hasRightRights_121 at e
    have yes : (∀ s : Nat, (s : Int) < L 0 0 * L 1 0 → pzR P s = true → RgA L P.1 s) → some ((1 : Int32), h) = some o → o.2 = h ∧ ((o.1 = 0 ∧ F4p L P) ∨ (o.1 = 1 ∧ ¬ F4p L P)) := fun g u => by
      rw [so_e u]
      exact ⟨rfl, Or.inr ⟨rfl, fun ⟨s, sL, r, z⟩ => z (g s sL r)⟩⟩
    replace e := ce_e w0 e
    rcases br_s e with ⟨c, e⟩ | ⟨c, e⟩
    · have c := le_i c
      rw [l2, e2] at c
      exact yes (fun s sL r => al s (by omega) r) e
    have c := nle_i c
    rw [l2, e2] at c
    have rb := C.2.2.2.1
    rcases br_s e with ⟨y, e⟩ | ⟨y, e⟩
    · have y := j_zero.mp (cmp_eq y)
      refine yes (fun s sL r => ?_) e
      have := y s (by omega)
      rw [rb s (by omega), r] at this
      exact absurd this (by decide)
    have c2 : x2.toNatClampNeg = n := by have := nc_i (x := x2) (by omega); omega
    have i2 : Rg 0 63 x2 := ⟨by omega, by omega⟩
    have bn := rb n (by omega)
    have t2 : (x2 + (1 : Int32)).toInt = ((n + 1 : Nat) : Int) := by rw [ta (by rw [z1]; omega), z1, e2]; omega
    have nxt : (pzR P n = true → RgA L P.1 n) → sX5_hasRightRights_2 F f h (V 6) (V 4) (x2 + (1 : Int32)) = some o → o.2 = h ∧ ((o.1 = 0 ∧ F4p L P) ∨ (o.1 = 1 ∧ ¬ F4p L P)) := fun g u => by
      refine ih t2 (by omega) (fun s hs r => ?_) u
      by_cases q : s = n
      · rw [q] at r ⊢; exact g r
      · exact al s (by omega) r
    rcases br_s e with ⟨b, e⟩ | ⟨b, e⟩
    · refine nxt (fun z => ?_) (nx_e e)
      have := j_zero.mp (cmp_eq b) 0 (by decide)
      rw [bj_and, ush_bit i2, c2, bn, z, Bool.true_and] at this
      exact absurd this (by decide)
    have br := bit_set i2 b
    rw [c2, bn] at br
    have no : ¬ RgA L P.1 n → some ((0 : Int32), h) = some o → o.2 = h ∧ ((o.1 = 0 ∧ F4p L P) ∨ (o.1 = 1 ∧ ¬ F4p L P)) := fun g u => by
      rw [so_e u]
      exact ⟨rfl, Or.inl ⟨rfl, n, by omega, br, g⟩⟩
    have on := C.2.1.1 n (by omega)
    replace e := ce_e C.1.1 e
    replace e := gg_e e
    replace e := nm_s e; obtain ⟨v7, u7, e⟩ := e
    rw [c2] at u7
    rw [← u7] at on
    have m0 := (HM n (by omega)).1
    replace e := ce_e w0 e
    rcases br_s e with ⟨q, e⟩ | ⟨q, e⟩
    · rw [q, zm] at l6
      exact no (fun z => by have := z.2.1; omega) e
    have c12 : 0 ≤ L 12 0 := by
      have : ¬ L 12 0 = -1 := fun z => q (Int32.toInt_inj.mp (by rw [l6, z, zm]))
      have := K.2.2.1.1
      omega
    rcases br_s e with ⟨w, e⟩ | ⟨w, e⟩
    · rw [w, zm] at on
      exact no (fun z => by have := z.1; omega) e
    have mp : 0 < P.1 n := by
      have : ¬ P.1 n - 1 = -1 := fun z => w (Int32.toInt_inj.mp (by rw [on, z, zm]))
      omega
    obtain ⟨_, vL⟩ := (HM n (by omega)).2 mp
    obtain ⟨mL, mE⟩ := mno_lt (L := L) mp vL
    have sh : (v7 >>> ((1 : Int32) &&& 31)).toInt = ((mnO (P.1 n) : Nat) : Int) := by
      rw [shr_i 1 (by decide), on, mE]
      rfl
    obtain ⟨d, ed⟩ : ∃ d : Nat, (P.1 n - 1) % 2 = (d : Int) := ⟨((P.1 n - 1) % 2).toNat, by omega⟩
    have d2 : d < 2 := by omega
    have sd : (v7 &&& (1 : Int32)).toInt = (d : Int) := by rw [and1_i (by omega), on, ed]
    have cd : (v7 &&& (1 : Int32)).toNatClampNeg = d := by have := nc_i (x := v7 &&& (1 : Int32)) (by omega); omega
    replace e := ce_e w0 e
    rcases br_s e with ⟨k, e⟩ | ⟨k, e⟩
    rotate_left
    · exact no (fun z => k (Int32.toInt_inj.mp (by rw [sh, z.2.2.1, l6]))) e
    have em : ((mnO (P.1 n) : Nat) : Int) = L 12 0 := by rw [← sh, k, l6]
    replace e := ce_e w0 e
    replace e := cl_s e; obtain ⟨o14, eo14, e⟩ := e
    obtain ⟨w14, r14⟩ := fst_v H lw e2 (by omega) sd d2 eo14
    rw [w14] at e
    rcases r14 with ⟨a, r14⟩ | ⟨a, r14⟩
    · exact no (fun z => r14 (by rw [← ed]; exact z.2.2.2.1)) (bp_e a e)
    replace e := bn_e (by rw [a]; decide) e
    replace e := ce_e C.1.2.2.1 e
    replace e := gg_e e
    replace e := nm_s e; obtain ⟨v18, u18, e⟩ := e
    rw [cd] at u18
    have ro := C.2.1.2.2.1 d d2
    rw [← u18] at ro
    rcases roa_e ro with ⟨a1, a2⟩ | ⟨a1, a2, a3, a4, _⟩
    · exact no (fun z => by
        obtain ⟨r, r64, r0, mr, _⟩ := z.2.2.2.2
        exact a2 ⟨r, r64, r0, by rw [mr, ed]⟩) (bp_e a1 e)
    replace e := bn_e a1 e
    have ca := nc_i a2.1
    have a63 := a2.2
    have aL := ((HM v18.toNatClampNeg (by omega)).2 (by omega)).1
    replace e := ce_e w0 e
    replace e := cl_s e; obtain ⟨o21, eo21, e⟩ := e
    obtain ⟨w21, r21⟩ := fst_v H lw (t := v18.toNatClampNeg) (by omega) aL sd d2 eo21
    rw [w21] at e
    rcases r21 with ⟨b', r21⟩ | ⟨b', r21⟩
    · refine no (fun z => ?_) (bp_e b' e)
      obtain ⟨r, r64, r0, mr, rr⟩ := z.2.2.2.2
      rw [ed] at mr rr
      have := U r0 d r v18.toNatClampNeg d2 r64 (by omega) mr a4
      rw [this] at rr
      exact r21 rr
    · exact nxt (fun _ => ⟨mp, c12, em, by rw [ed]; exact r14, v18.toNatClampNeg, by omega, a3, by rw [a4, ed], by rw [ed]; exact r21⟩) (nx_e (bn_e (by rw [b']; decide) e))
end
end
section
/-! the class: what is wrong with a position: PASS, and the whole -/
theorem wd_16a : ∀ k : Fin 8, ∀ f : Fin 64, (((nI (f.val + 64 * k.val)) &&& (16 : Int32)) = 0 ↔ fbt (f.val : Int) 4 = false) := by decide +kernel
theorem wd_16 {w : Int32} {t : Nat} {fl k : Int} (ht : t < 64) (hf : 0 ≤ fl ∧ fl ≤ 63) (hk : 0 ≤ k ∧ k ≤ 7) (e : w.toInt = t + 64 * fl + 4096 * k) : (w >>> ((6 : Int32) &&& 31)) &&& (16 : Int32) = 0 ↔ fbt fl 4 = false := by
  have sh : (w >>> ((6 : Int32) &&& 31)).toInt = w.toInt / 64 := shr_i 6 (by decide)
  have v : (w >>> ((6 : Int32) &&& 31)).toInt = fl + 64 * k := by rw [sh, e]; omega
  have a := wd_16a ⟨k.toNat, by omega⟩ ⟨fl.toNat, by omega⟩
  have ev : w >>> ((6 : Int32) &&& 31) = nI (fl.toNat + 64 * k.toNat) := Int32.toInt_inj.mp (by rw [v, z_toInt (by omega)]; omega)
  have ef : ((fl.toNat : Nat) : Int) = fl := by omega
  dsimp only at a
  rw [ef] at a
  rw [ev]
  exact a
theorem pw_z {x : Int64} {n : Nat} {q : Nat → Nat} (A : Pw x n q) : x = 0 ↔ n = 0 := by
  obtain ⟨_, _, a3⟩ := A
  constructor
  · intro z
    rw [z] at a3
    have : (0 : Int64).toBitVec.toNat = 0 := rfl
    omega
  · intro z
    rw [z] at a3
    have : x.toBitVec.toNat = 0 := a3
    exact Int64.toBitVec_inj.mp (BitVec.eq_of_toNat_eq (by rw [this]; rfl))
/-- the squares gone over from s -/
def WoA (P : Pz) (s : Int) (st : Int) : Prop := ∀ i : Nat, 1 ≤ i → i < pzN P → (pzQ P i : Int) = s + i * st
theorem psa_7 {L : Nat → Nat → Int} {P : Pz} (H : LOk L) (HM : MOk L P.1) (q64 : pzQ P 0 < 64) (a : PsA L P) : pzN P ≤ 7 := by
  obtain ⟨m0, _, _, i, s, il, _, pb⟩ := a
  have vL := ((HM _ q64).2 m0).2
  obtain ⟨mL, mE⟩ := mno_lt (L := L) m0 vL
  have J := (H.2.2.2 _ mL).2 i il
  have := pb.2.1.2.2.1
  have := J.2.2.2.2.1
  omega
section
variable {F : Nat} {V : Nat → Nat} {L : Nat → Nat → Int} {h : Hp} {P : Pz} {o : Int32 × Hp}
theorem wo_21 {x1 x2 x3 : Int32} {s st : Int} (A : Pw (hJ h (V 4) 9) (pzN P) (pzQ P)) (e1 : x1.toInt = s) (e2 : x2.toInt = (pzN P : Int)) (e3 : x3.toInt = st) (is : 0 ≤ s ∧ s ≤ 63) (ist : -63 ≤ st ∧ st ≤ 63) : ∀ (f : Nat) {x4 : Int32} {n : Nat}, x4.toInt = (n : Int) → 1 ≤ n → (∀ i, 1 ≤ i → i < n → i < pzN P → (pzQ P i : Int) = s + i * st) → sX5_wentOver_21 F f h (V 4) x1 x2 x3 x4 = some o → o.2 = h ∧ ((o.1 = 0 ∧ ¬ WoA P s st) ∨ (o.1 = 1 ∧ WoA P s st)) := by
  have z1 : (1 : Int32).toInt = 1 := rfl
  have n7 := A.1
  intro f
  induction f with
  | zero => intro x4 n _ _ _ e; exact absurd e (by rw [sX5_wentOver_21]; exact fun z => nomatch z)
  | succ f ih =>
    intro x4 n e4 n1 al e
    rw [sX5_wentOver_21] at e
    rcases br_s e with ⟨c, e⟩ | ⟨c, e⟩
    · have c := le_i c
      rw [e2, e4] at c
      rw [so_e e]
      exact ⟨rfl, Or.inr ⟨rfl, fun i i1 i2 => al i i1 (by omega) i2⟩⟩
    have c := nle_i c
    rw [e2, e4] at c
    have c4 : x4.toNatClampNeg = n := by have := nc_i (x := x4) (by omega); omega
    replace e := cl_s e; obtain ⟨o2, eo2, e⟩ := e
    obtain ⟨w2, r2⟩ := psq_q eo2 A (by omega) (by omega)
    rw [c4] at r2
    rw [w2] at e
    have mbb := mb (n := 63) (m := 8) (k := (n : Int)) (d := st) ⟨by omega, by omega⟩ ⟨by omega, by omega⟩ (by decide)
    have t1 : (x4 * x3).toInt = (n : Int) * st := by rw [tm (by rw [e4, e3]; omega), e4, e3]
    have t2 : (x1 + (x4 * x3)).toInt = s + (n : Int) * st := by rw [ta (by rw [t1, e1]; omega), t1, e1]
    rcases br_s e with ⟨q, e⟩ | ⟨q, e⟩
    · have qe : (pzQ P n : Int) = s + n * st := by rw [← r2, q, t2]
      refine ih (n := n + 1) (by rw [ta (by rw [z1]; omega), z1, e4]; omega) (by omega) (fun i i1 i2 i3 => ?_) (nx_e e)
      by_cases y : i = n
      · rw [y]; exact qe
      · exact al i i1 (by omega) i3
    · rw [so_e e]
      exact ⟨rfl, Or.inl ⟨rfl, fun z => q (Int32.toInt_inj.mp (by rw [r2, t2]; exact z n n1 (by omega)))⟩⟩
/-- along a way of that length -/
theorem wo_c {x1 x2 : Int32} {s : Nat} {st : Int} (A : Pw (hJ h (V 4) 9) (pzN P) (pzQ P)) (n1 : 1 ≤ pzN P) (e1 : x1.toInt = (s : Int)) (s64 : s < 64) (e2 : x2.toInt = (pzN P : Int)) (est : (pzQ P 0 : Int) - s = (pzN P : Int) * st) (e : sX5_wentOver F h (V 4) x1 x2 = some o) : o.2 = h ∧ ((o.1 = 0 ∧ ¬ WoA P s st) ∨ (o.1 = 1 ∧ WoA P s st)) := by
  have z0 : (0 : Int32).toInt = 0 := rfl
  have n0 : (0 : Int32).toNatClampNeg = 0 := rfl
  have n7 := A.1
  have q64 := A.2.1 0 (by omega)
  unfold sX5_wentOver sX5_wentOver_17 at e
  replace e := bn_e (fun z => by have := le_i z; rw [e2, z0] at this; omega) e
  replace e := cl_s e; obtain ⟨o2, eo2, e⟩ := e
  obtain ⟨w2, r2⟩ := psq_q eo2 A (by decide) (by rw [z0]; omega)
  rw [n0] at r2
  rw [w2] at e
  replace e := gg_e e
  have tz : (o2.1 - x1).toInt = (pzN P : Int) * st := by rw [ts (by rw [r2, e1]; omega), r2, e1, est]
  have dv := tdx e2 (by omega) tz
  have ist : -63 ≤ st ∧ st ≤ 63 := by
    have hk : (1 : Int) ≤ (pzN P : Int) := by omega
    constructor
    · by_cases c : 0 ≤ st
      · omega
      · have := Int.mul_le_mul_of_nonpos_right hk (show st ≤ 0 by omega)
        rw [Int.one_mul] at this
        omega
    · by_cases c : 0 ≤ st
      · have := Int.mul_le_mul_of_nonneg_right hk c
        rw [Int.one_mul] at this
        omega
      · omega
  exact wo_21 A e1 e2 dv ⟨by omega, by omega⟩ ist F (n := 1) rfl (by omega) (fun i i1 i2 => by omega) e
def PsW (L : Nat → Nat → Int) (P : Pz) (c s i : Nat) : Prop := fbt (L 75 (8 * (c / 2) + i)) 4 = true ∧ RchL L (8 * (c / 2) + i) ((c % 2 : Nat) : Int) s (pzQ P 0) (pzN P) ∧ WoA P s (((pzQ P 0 : Int) - s) / (pzN P : Int))
/-- over the ways of one cell -/
theorem rp_108 {K : Hp → Nat → Nat → Int32 → Int32 → Int32 → Int32 → Option (Int32 × Hp)} {x2 x3 x4 x5 x6 : Int32} {c s a b : Nat} {I : Nat → Nat} (H : LOk L) (A : Pw (hJ h (V 4) 9) (pzN P) (pzQ P)) (n1 : 1 ≤ pzN P) (w6 : hR h (V 6) 1 = some (V 11)) (wc : WCf V h) (cL : (c : Int) < 2 * L 2 0) (sL : (s : Int) < L 0 0 * L 1 0) (e2 : x2.toInt = (pzN P : Int)) (e5 : x5.toInt = (s : Int)) (e13 : rowN h (V 50) (x6 + (1 : Int32)).toNatClampNeg = b) (nn : 0 ≤ (hI h (V 50) (x6 + (1 : Int32)).toNatClampNeg).toInt) (II : ∀ w, a ≤ w → w < b → ((I w : Nat) : Int) < L 74 (c / 2) ∧ WyE L V h c s (pzQ P 0) (I w) w) : ∀ (f : Nat) {x7 : Int32}, 0 ≤ x7.toInt → a ≤ x7.toNatClampNeg → sX5_hasRightPass_108 F K f h (V 6) (V 4) x2 x3 x4 x5 x6 x7 = some o → ((∀ w, x7.toNatClampNeg ≤ w → w < b → ¬ PsW L P c s (I w)) ∧ sX5_hasRightPass_179 F K h (V 6) (V 4) x2 x3 x4 x5 = some o) ∨ (o = ((1 : Int32), h) ∧ ∃ w, a ≤ w ∧ w < b ∧ PsW L P c s (I w)) := by
  have z1 : (1 : Int32).toInt = 1 := rfl
  have sq := sq_64 H
  have ht : pzQ P 0 < 64 := A.2.1 0 (by omega)
  have mL : ((c / 2 : Nat) : Int) < L 2 0 := by omega
  obtain ⟨H74, Hst⟩ := H.2.2.2 _ mL
  have cb := nc_i nn
  intro f
  induction f with
  | zero => intro x7 _ _ e; exact absurd e (by rw [sX5_hasRightPass_108]; exact fun z => nomatch z)
  | succ f ih =>
    intro x7 a7 la e
    have c7 := nc_i a7
    rw [sX5_hasRightPass_108] at e
    replace e := ce_e w6 e
    replace e := ce_e wc.1 e
    replace e := gg_e e
    rcases br_s e with ⟨l, e⟩ | ⟨l, e⟩
    · have l := le_i l
      refine Or.inl ⟨fun w x y => ?_, e⟩
      unfold rowN at e13
      omega
    have l := nle_i l
    have lb : x7.toNatClampNeg < b := by unfold rowN at e13; omega
    obtain ⟨iL, k, rk, wd, bt⟩ := II _ la lb
    have J : StR L (8 * (c / 2) + I x7.toNatClampNeg) := Hst _ iL
    have kr := rk.2.2.1
    have k1 := rk.2.1
    have r7 := J.2.2.2.2.1
    have w16 := wd_16 ht J.1 ⟨by omega, by omega⟩ wd
    have w12 := (wd_f ht J.1 ⟨by omega, by omega⟩ wd).2.2
    have bd : ∀ x, (hI h (V 50) x).toInt ≤ 2147483647 := fun x => Int32.toInt_le _
    have t7 : (x7 + (1 : Int32)).toInt = x7.toInt + 1 := by
      have := bd (x6 + (1 : Int32)).toNatClampNeg
      rw [ta (by rw [z1]; omega), z1]
    have n7 : (x7 + (1 : Int32)).toNatClampNeg = x7.toNatClampNeg + 1 := by
      have := nc_i (x := x7 + (1 : Int32)) (by omega)
      omega
    have nxt : ¬ PsW L P c s (I x7.toNatClampNeg) → sX5_hasRightPass_173 F K (sX5_hasRightPass_108 F K f) h (V 6) (V 4) x2 x3 x4 x5 x6 x7 = some o → ((∀ w, x7.toNatClampNeg ≤ w → w < b → ¬ PsW L P c s (I w)) ∧ sX5_hasRightPass_179 F K h (V 6) (V 4) x2 x3 x4 x5 = some o) ∨ (o = ((1 : Int32), h) ∧ ∃ w, a ≤ w ∧ w < b ∧ PsW L P c s (I w)) := fun no u => by
      unfold sX5_hasRightPass_173 at u
      rcases ih (by omega) (by omega) (nx_e u) with ⟨x, y⟩ | r
      · refine Or.inl ⟨fun w p p' => ?_, y⟩
        by_cases z : w = x7.toNatClampNeg
        · rw [z]; exact no
        · exact x w (by omega) p'
      · exact Or.inr r
    replace e := ce_e w6 e
    replace e := ce_e wc.2.1 e
    replace e := gg_e e
    rcases br_s e with ⟨p, e⟩ | ⟨p, e⟩
    · have p := w16.mp p
      exact nxt (fun z => by have := z.1; rw [p] at this; exact absurd this (by decide)) e
    have p4 : fbt (L 75 (8 * (c / 2) + I x7.toNatClampNeg)) 4 = true := by
      cases y : fbt (L 75 (8 * (c / 2) + I x7.toNatClampNeg)) 4 with
      | true => rfl
      | false => exact absurd (w16.mpr y) p
    replace e := ce_e w6 e
    replace e := ce_e wc.2.1 e
    replace e := gg_e e
    rcases br_s e with ⟨q, e⟩ | ⟨q, e⟩
    rotate_left
    · refine nxt (fun z => q (Int32.toInt_inj.mp ?_)) e
      rw [w12, e2]
      exact rch_u J.2.2.2.1 rk.2 z.2.1.2
    have kn : k = (pzN P : Int) := by rw [← w12, q, e2]
    rw [kn] at rk
    obtain ⟨_, _, _, _, st, z⟩ := rch_st rk.2
    rw [← st] at z
    replace e := cl_s e; obtain ⟨o13, eo13, e⟩ := e
    obtain ⟨w13, r13⟩ := wo_c A n1 e5 (by omega) e2 z eo13
    rw [w13] at e
    rcases r13 with ⟨y, r⟩ | ⟨y, r⟩
    · exact nxt (fun z => r z.2.2) (bp_e y e)
    · replace e := bn_e (by rw [y]; decide) e
      exact Or.inr ⟨so_e e, x7.toNatClampNeg, la, lb, p4, rk, r⟩
/-- over the squares from which he may have come -/
theorem rp_60 {x2 x3 x4 : Int32} {c : Nat} (H : LOk L) (HM : MOk L P.1) (A : Pw (hJ h (V 4) 9) (pzN P) (pzQ P)) (n1 : 1 ≤ pzN P) (w0 : hR h (V 6) 0 = some (V 2)) (w6 : hR h (V 6) 1 = some (V 11)) (wc : WCf V h) (T : WyT L V h) (lw : CLwC V h L) (C : CpR V h (L 10 0) P) (cL : (c : Int) < 2 * L 2 0) (e2 : x2.toInt = (pzN P : Int)) (e3 : x3.toInt = (pzQ P 0 : Int)) (e4 : x4.toInt = (c : Int)) : ∀ (f : Nat) {x5 : Int32} {n : Nat}, x5.toInt = (n : Int) → (n : Int) ≤ L 0 0 * L 1 0 → (∀ s i : Nat, s < n → (i : Int) < L 74 (c / 2) → ¬ 0 < P.1 s → ¬ PsW L P c s i) → sX5_hasRightPass_60 F f h (V 6) (V 4) x2 x3 x4 x5 = some o → o.2 = h ∧ ((o.1 = 0 ∧ ∀ s i : Nat, (s : Int) < L 0 0 * L 1 0 → (i : Int) < L 74 (c / 2) → ¬ 0 < P.1 s → ¬ PsW L P c s i) ∨ (o.1 = 1 ∧ ∃ s i : Nat, (s : Int) < L 0 0 * L 1 0 ∧ (i : Int) < L 74 (c / 2) ∧ ¬ 0 < P.1 s ∧ PsW L P c s i)) := by
  have z1 : (1 : Int32).toInt = 1 := rfl
  have zm : (-1 : Int32).toInt = -1 := by decide
  have z64 : (64 : Int32).toInt = 64 := rfl
  have sq := sq_64 H
  have L2 := H.2.2.1
  have l2 := lw.1.2.2.1
  have ht : pzQ P 0 < 64 := A.2.1 0 (by omega)
  intro f
  induction f with
  | zero => intro x5 n _ _ _ e; exact absurd e (by rw [sX5_hasRightPass_60]; exact fun z => nomatch z)
  | succ f ih =>
    intro x5 n e5 nL al e
    rw [sX5_hasRightPass_60] at e
    replace e := ce_e w0 e
    rcases br_s e with ⟨l, e⟩ | ⟨l, e⟩
    · have l := le_i l
      rw [l2, e5] at l
      rw [so_e e]
      exact ⟨rfl, Or.inl ⟨rfl, fun s i sL => al s i (by omega)⟩⟩
    have l := nle_i l
    rw [l2, e5] at l
    have c5 : x5.toNatClampNeg = n := by have := nc_i (x := x5) (by omega); omega
    have t5 : (x5 + (1 : Int32)).toInt = ((n + 1 : Nat) : Int) := by rw [ta (by rw [z1]; omega), z1, e5]; omega
    have nxt : (∀ i : Nat, (i : Int) < L 74 (c / 2) → ¬ 0 < P.1 n → ¬ PsW L P c n i) → sX5_hasRightPass_179 F (sX5_hasRightPass_60 F f) h (V 6) (V 4) x2 x3 x4 x5 = some o → o.2 = h ∧ ((o.1 = 0 ∧ ∀ s i : Nat, (s : Int) < L 0 0 * L 1 0 → (i : Int) < L 74 (c / 2) → ¬ 0 < P.1 s → ¬ PsW L P c s i) ∨ (o.1 = 1 ∧ ∃ s i : Nat, (s : Int) < L 0 0 * L 1 0 ∧ (i : Int) < L 74 (c / 2) ∧ ¬ 0 < P.1 s ∧ PsW L P c s i)) := fun no u => by
      unfold sX5_hasRightPass_179 at u
      refine ih t5 (by omega) (fun s i hs => ?_) (nx_e u)
      by_cases q : s = n
      · rw [q]; exact no i
      · exact al s i (by omega)
    have on := C.2.1.1 n (by omega)
    replace e := ce_e C.1.1 e
    replace e := gg_e e
    rw [c5] at e
    have m0 := (HM n (by omega)).1
    rcases br_s e with ⟨q, e⟩ | ⟨q, e⟩
    rotate_left
    · refine nxt (fun i _ z => absurd ?_ z) e
      have : ¬ P.1 n - 1 = -1 := fun z => q (Int32.toInt_inj.mp (by rw [on, z, zm]))
      omega
    rw [q, zm] at on
    unfold sX10_cell at e
    replace e := cl_s e; obtain ⟨o6, eo6, e⟩ := e
    rw [so_e eo6] at e
    have a1 : (x4 * (64 : Int32)).toInt = (c : Int) * 64 := by rw [tm (by rw [e4, z64]; omega), e4, z64]
    have a2 : ((x4 * (64 : Int32)) + x5).toInt = (c : Int) * 64 + n := by rw [ta (by rw [a1, e5]; omega), a1, e5]
    have a3 : (((x4 * (64 : Int32)) + x5) * (64 : Int32)).toInt = ((c : Int) * 64 + n) * 64 := by rw [tm (by rw [a2, z64]; omega), a2, z64]
    obtain ⟨v6, u6⟩ : ∃ v6, v6 = (((x4 * (64 : Int32)) + x5) * (64 : Int32)) + x3 := ⟨_, rfl⟩
    have t6 : v6.toInt = ((c : Int) * 64 + n) * 64 + pzQ P 0 := by rw [u6, ta (by rw [a3, e3]; omega), a3, e3]
    rw [← u6] at e
    have n6 : v6.toNatClampNeg = celN c n (pzQ P 0) := by
      unfold celN
      have := nc_i (x := v6) (by omega)
      omega
    have s6 : (v6 + (1 : Int32)).toInt = v6.toInt + 1 := by rw [ta (by rw [z1]; omega), z1]
    have n7 : (v6 + (1 : Int32)).toNatClampNeg = celN c n (pzQ P 0) + 1 := by
      have := nc_i (x := v6) (by omega)
      have := nc_i (x := v6 + (1 : Int32)) (by omega)
      omega
    replace e := ce_e w6 e
    replace e := ce_e wc.1 e
    replace e := gg_e e
    replace e := nm_s e; obtain ⟨v10, u10, e⟩ := e
    dsimp only at u10 e
    rw [n6] at u10
    obtain ⟨⟨nn1, nn2⟩, ⟨ab, I, I1, I2, I3⟩, _⟩ := T c n (pzQ P 0) cL (by omega) ht
    have c10 : v10.toNatClampNeg = rowN h (V 50) (celN c n (pzQ P 0)) := by rw [u10]; rfl
    rcases rp_108 (x6 := v6) H A n1 w6 wc cL (by omega) e2 e5 (by rw [n7]) (by rw [n7]; exact nn2) I1 F (x7 := v10) (by rw [u10]; exact nn1) (by rw [c10]; exact Nat.le_refl _) e with ⟨no, u⟩ | ⟨r, w, wa, wb, pw⟩
    · refine nxt (fun i iL _ z => ?_) u
      obtain ⟨w, wa, wb, wi⟩ := I3 i _ iL z.2.1
      exact no w (by rw [c10]; exact wa) wb (by rw [wi]; exact z)
    · rw [r]
      exact ⟨rfl, Or.inr ⟨rfl, n, I w, by omega, (I1 w wa wb).1, by omega, pw⟩⟩
theorem rp_c (H : LOk L) (O : PzR L P) (w : CWy V h L) (lw : CLwC V h L) (C : CpR V h (L 10 0) P) (n2 : 2 ≤ pzN P) (qs : ∀ i, i < pzN P → (pzQ P i : Int) < L 0 0 * L 1 0) (e : sX5_hasRightPass F h (V 6) (V 4) = some o) : o.2 = h ∧ ((o.1 = 0 ∧ ¬ PsA L P) ∨ (o.1 = 1 ∧ PsA L P)) := by
  have z2 : (2 : Int32).toInt = 2 := rfl
  have z0 : (0 : Int32).toInt = 0 := rfl
  have zm : (-1 : Int32).toInt = -1 := by decide
  have n0 : (0 : Int32).toNatClampNeg = 0 := rfl
  have n1' : (1 : Int32).toNatClampNeg = 1 := rfl
  have sq := sq_64 H
  have L2 := H.2.2.1
  have HM := O.1
  have q0 := qs 0 (by omega)
  unfold sX5_hasRightPass sX5_hasRightPass_55 at e
  have no : ¬ PsA L P → some ((0 : Int32), h) = some o → o.2 = h ∧ ((o.1 = 0 ∧ ¬ PsA L P) ∨ (o.1 = 1 ∧ PsA L P)) := fun n u => by
    rw [so_e u]
    exact ⟨rfl, Or.inl ⟨rfl, n⟩⟩
  replace e := cl_s e; obtain ⟨o1, eo1, e⟩ := e
  rcases C.2.2.2.2.1 with ⟨A, ov⟩ | ⟨n8, w8⟩
  rotate_left
  · -- too long
    unfold sX3_passSize sX3_passSquare at *
    rw [w8] at eo1
    rw [so_e eo1] at e
    replace e := cl_s e; obtain ⟨o2, eo2, e⟩ := e
    rw [so_e eo2] at e
    replace e := ce_e C.1.1 e
    replace e := gg_e e
    replace e := nm_s e; obtain ⟨v5, u5, e⟩ := e
    replace e := bp_e (show Int64.toInt32 8 &&& (7 : Int32) < (2 : Int32) by decide) e
    exact no (fun z => by have := psa_7 H HM (by omega) z; omega) e
  obtain ⟨w1, r1⟩ := ps_q eo1 A
  rw [w1] at e
  replace e := cl_s e; obtain ⟨o2, eo2, e⟩ := e
  obtain ⟨w2, r2⟩ := psq_q eo2 A (by decide) (by rw [z0]; omega)
  rw [n0] at r2
  rw [w2] at e
  have c2 : o2.1.toNatClampNeg = pzQ P 0 := by have := nc_i (x := o2.1) (by omega); omega
  have on := C.2.1.1 (pzQ P 0) (by omega)
  have m0 := (HM (pzQ P 0) (by omega)).1
  replace e := ce_e C.1.1 e
  replace e := gg_e e
  replace e := nm_s e; obtain ⟨v5, u5, e⟩ := e
  rw [c2] at u5
  rw [← u5] at on
  replace e := bn_e (fun z => by have := lt_i z; rw [r1, z2] at this; omega) e
  rcases br_s e with ⟨q, e⟩ | ⟨q, e⟩
  · rw [q, zm] at on
    exact no (fun z => by have := z.1; omega) e
  have mp : 0 < P.1 (pzQ P 0) := by
    have : ¬ P.1 (pzQ P 0) - 1 = -1 := fun z => q (Int32.toInt_inj.mp (by rw [on, z, zm]))
    omega
  obtain ⟨_, vL⟩ := (HM (pzQ P 0) (by omega)).2 mp
  obtain ⟨mL, mE⟩ := mno_lt (L := L) mp vL
  have sd : (v5 &&& (1 : Int32)).toInt = (P.1 (pzQ P 0) - 1) % 2 := by rw [and1_i (by omega), on]
  have bs := C.2.2.1
  rcases br_s e with ⟨y, e⟩ | ⟨y, e⟩
  · exact no (fun z => z.2.1 (by rw [← sd, y, bs])) e
  have ns : ¬ (P.1 (pzQ P 0) - 1) % 2 = (pzS P : Int) := fun z => y (Int32.toInt_inj.mp (by rw [sd, z, bs]))
  unfold sX3_occupied at e
  replace e := cl_s e; obtain ⟨o9, eo9, e⟩ := e
  replace eo9 := ce_e C.1.2.1 eo9
  replace eo9 := gg_e eo9
  replace eo9 := ce_e C.1.2.1 eo9
  replace eo9 := gg_e eo9
  have w9 : o9.2 = h := by rw [so_e eo9]
  have r9 : o9.1 = (hJ h (V 35) 0) ||| (hJ h (V 35) 1) := by rw [so_e eo9]; rfl
  rw [w9] at e
  have bo := occ_b C.2.1.2.1 r9
  have oe : (lg_cmp ((hJ h (V 4) 10) &&& o9.1) (0 : Int64) = 0) ↔ ∀ k, 1 ≤ k → k < pzN P → ¬ 0 < P.1 (pzQ P k) := by
    rw [c_zero, j_zero]
    constructor
    · intro z k k1 k2 m
      have q64 : pzQ P k < 64 := by have := qs k k2; omega
      have := z (pzQ P k) q64
      rw [bj_and, (bo _ q64).mpr m, (ov _).mpr ⟨k, k1, k2, rfl⟩] at this
      exact absurd this (by decide)
    · intro z t ht
      rw [bj_and]
      cases b : bitJ (hJ h (V 4) 10) t with
      | false => rfl
      | true =>
        obtain ⟨k, k1, k2, kt⟩ := (ov t).mp b
        cases b' : bitJ o9.1 t with
        | false => rfl
        | true =>
          have := (bo t ht).mp b'
          rw [← kt] at this
          exact absurd this (z k k1 k2)
  rcases br_s e with ⟨k, e⟩ | ⟨k, e⟩
  rotate_left
  · exact no (fun z => k (oe.mpr z.2.2.1)) e
  have em := oe.mp k
  obtain ⟨c, hc⟩ : ∃ c : Nat, v5.toInt = (c : Int) := ⟨v5.toInt.toNat, by omega⟩
  have cd : mnO (P.1 (pzQ P 0)) = c / 2 := by unfold mnO; omega
  have cm : (P.1 (pzQ P 0) - 1) % 2 = ((c % 2 : Nat) : Int) := by omega
  obtain ⟨a, b⟩ := rp_60 H HM A (by omega) w.1.1 w.1.2 w.2.1 w.2.2.1 lw C (show (c : Int) < 2 * L 2 0 by omega) r1 r2 hc F (n := 0) rfl (by omega) (fun s i hs => absurd hs (Nat.not_lt_zero _)) e
  refine ⟨a, ?_⟩
  rcases b with ⟨b, al⟩ | ⟨b, s, i, sL, il, ms, pw⟩
  · refine Or.inl ⟨b, fun ⟨_, _, _, i, s, il, sL, pb⟩ => ?_⟩
    unfold PsB at pb
    rw [cd] at il pb
    rw [cm] at pb
    exact al s i sL il pb.2.2.1 ⟨pb.1, pb.2.1, pb.2.2.2⟩
  · refine Or.inr ⟨b, mp, ns, em, i, s, by rw [cd]; exact il, sL, ?_⟩
    unfold PsB
    rw [cd, cm]
    exact ⟨pw.1, pw.2.1, ms, pw.2.2⟩
/-- hands -/
theorem hd_c (C : CpR V h (L 10 0) P) (O : PzR L P) : (∃ d, d < 24 ∧ 0 < pzH P d) ↔ ¬ (hJ h (V 37) 0 = 0 ∧ hJ h (V 37) 1 = 0) := by
  have h0 := hd_0 (C.2.2.2.2.2.1.1 0 (by decide))
  have h1 := hd_0 (C.2.2.2.2.2.1.1 1 (by decide))
  have hh := C.2.2.2.2.2.1.2
  constructor
  · rintro ⟨d, hd, z⟩ ⟨a, b⟩
    have e := hh d hd
    by_cases c : d % 2 = 0
    · rw [c, h0.mp a _ (by omega)] at e; omega
    · rw [show d % 2 = 1 by omega, h1.mp b _ (by omega)] at e; omega
  · intro n
    apply Classical.byContradiction
    intro z
    have al : ∀ d, d < 24 → pzH P d = 0 := fun d hd => by
      have := (O.2.2.2.1 d hd).1
      by_cases c : 0 < pzH P d
      · exact absurd ⟨d, hd, c⟩ z
      · omega
    refine n ⟨h0.mpr (fun m hm => ?_), h1.mpr (fun m hm => ?_)⟩
    · have e := hh (2 * m) (by omega)
      rw [show 2 * m % 2 = 0 by omega, show 2 * m / 2 = m by omega, al _ (by omega)] at e
      omega
    · have e := hh (2 * m + 1) (by omega)
      rw [show (2 * m + 1) % 2 = 1 by omega, show (2 * m + 1) / 2 = m by omega, al _ (by omega)] at e
      omega
theorem ft_97 (O : PzR L P) (w0 : hR h (V 6) 0 = some (V 2)) (lw : CLwC V h L) (C : CpR V h (L 10 0) P) (n7 : ¬ F7p L P) (e : sX5_faultOf_97 F h (V 6) (V 4) = some o) : o.2 = h ∧ o.1.toInt = wr7 L P := by
  have n0 : (0 : Int32).toNatClampNeg = 0 := rfl
  have n1 : (1 : Int32).toNatClampNeg = 1 := rfl
  have hc := hd_c C O
  unfold sX5_faultOf_97 sX5_faultOf_135 sX5_faultOf_130 sX5_faultOf_136 at e
  have none : ¬ F8p L P → some ((0 : Int32), h) = some o → o.2 = h ∧ o.1.toInt = wr7 L P := fun n8 u => by
    unfold wr7
    rw [so_e u, if_neg (fun z => n7 (prb_e.mp z)), if_neg (fun z => n8 (prb_e.mp z))]
    exact ⟨rfl, rfl⟩
  have some' : F8p L P → some ((8 : Int32), h) = some o → o.2 = h ∧ o.1.toInt = wr7 L P := fun n8 u => by
    unfold wr7
    rw [so_e u, if_neg (fun z => n7 (prb_e.mp z)), if_pos (prb_e.mpr n8)]
    exact ⟨rfl, rfl⟩
  replace e := ce_e w0 e
  replace e := cl_s e; obtain ⟨o2, eo2, e⟩ := e
  obtain ⟨w2, r2⟩ := has_v eo2
  rw [w2] at e
  rcases r2 with ⟨a, b⟩ | ⟨a, b⟩
  rotate_left
  · exact none (fun z => b (lw.2.1.2.1.1.mpr z.1)) (bn_e (by rw [a]; decide) e)
  have l15 := lw.2.1.2.1.1.mp b
  replace e := bp_e a e
  replace e := ce_e C.1.2.2.2.1 e
  replace e := gg_e e
  rcases br_s e with ⟨c, e⟩ | ⟨c, e⟩ <;> rw [n0, c_zero] at c
  rotate_left
  · exact some' ⟨l15, hc.mpr (fun z => c z.1)⟩ e
  replace e := ce_e C.1.2.2.2.1 e
  replace e := gg_e e
  rcases br_s e with ⟨d, e⟩ | ⟨d, e⟩ <;> rw [n1, c_zero] at d
  · exact none (fun z => hc.mp z.2 ⟨c, d⟩) e
  · exact some' ⟨l15, hc.mpr (fun z => d z.2)⟩ e
theorem ft_49 (H : LOk L) (O : PzR L P) (U : UnM P.1 (L 10 0)) (w : CWy V h L) (lw : CLwC V h L) (C : CpR V h (L 10 0) P) (e : sX5_faultOf_49 F h (V 6) (V 4) = some o) : o.2 = h ∧ o.1.toInt = wr6 L P := by
  have z0 : (0 : Int32).toInt = 0 := rfl
  have z1 : (1 : Int32).toInt = 1 := rfl
  have n0 : (0 : Int32).toNatClampNeg = 0 := rfl
  have n1 : (1 : Int32).toNatClampNeg = 1 := rfl
  have isd := O.2.1
  have bs := C.2.2.1
  have s1 : ((1 : Int32) - (hI h (V 4) 5)).toInt = ((1 - pzS P : Nat) : Int) := by rw [ts (by rw [z1, bs]; omega), z1, bs]; omega
  have l7 := lw.2.2.1.2.2.2.1
  unfold sX5_faultOf_49 sX5_faultOf_94 at e
  replace e := cl_s e; obtain ⟨o1, eo1, e⟩ := e
  obtain ⟨w1, r1⟩ := ryh_c H O.1 U w.1.2 w.2.1 w.2.2.1 C.1 C.2.1 s1 (by omega) eo1
  rw [w1] at e
  unfold wr6
  rcases r1 with ⟨a, b⟩ | ⟨a, b⟩
  rotate_left
  · rw [so_e (bn_e (by rw [a]; decide) e), if_pos (prb_e.mpr b)]
    exact ⟨rfl, rfl⟩
  replace e := bp_e a e
  rw [if_neg (fun z => b (prb_e.mp z))]
  have c0 := C.2.2.2.2.2.2.1 0 (by decide)
  have c1 := C.2.2.2.2.2.2.1 1 (by decide)
  have b0 := O.2.2.2.2 0 (by decide)
  have b1 := O.2.2.2.2 1 (by decide)
  have seven : F7p L P → some ((7 : Int32), h) = some o → o.2 = h ∧ o.1.toInt = wr7 L P := fun g u => by
    unfold wr7
    rw [so_e u, if_pos (prb_e.mpr g)]
    exact ⟨rfl, rfl⟩
  replace e := ce_e w.1.1 e
  rcases br_s e with ⟨c, e⟩ | ⟨c, e⟩
  rotate_left
  · exact ft_97 O w.1.1 lw C (fun z => c (Int32.toInt_inj.mp (by rw [l7, z.1, z0]))) e
  rw [c, z0] at l7
  replace e := ce_e C.1.2.2.2.2 e
  replace e := gg_e e
  rcases br_s e with ⟨d, e⟩ | ⟨d, e⟩ <;> rw [n0] at d
  rotate_left
  · have : ¬ pzC P 0 = 0 := fun z => d (Int32.toInt_inj.mp (by rw [c0, z, z0]))
    exact seven ⟨l7.symm, by omega⟩ e
  rw [d, z0] at c0
  replace e := ce_e C.1.2.2.2.2 e
  replace e := gg_e e
  rcases br_s e with ⟨g, e⟩ | ⟨g, e⟩ <;> rw [n1] at g
  rotate_left
  · have : ¬ pzC P 1 = 0 := fun z => g (Int32.toInt_inj.mp (by rw [c1, z, z0]))
    exact seven ⟨l7.symm, by omega⟩ e
  rw [g, z0] at c1
  exact ft_97 O w.1.1 lw C (fun z => by have := z.2; omega) e
/-- what is wrong with a position: the class -/
theorem ft_c (H : LOk L) (K : LawK L) (O : PzR L P) (w : CWy V h L) (lw : CLwC V h L) (C : CpR V h (L 10 0) P) (e : sX5_faultOf F h (V 6) (V 4) = some o) : o.2 = h ∧ o.1.toInt = wrN L P := by
  have sq := sq_64 H
  unfold sX5_faultOf at e
  unfold wrN
  replace e := cl_s e; obtain ⟨o1, eo1, e⟩ := e
  obtain ⟨w1, r1⟩ := rm_c H O.1 K w.1.1 lw C eo1
  rw [w1] at e
  rcases r1 with ⟨a, b⟩ | ⟨a, b⟩
  · rw [so_e (bp_e a e), if_pos (prb_e.mpr b)]
    exact ⟨rfl, rfl⟩
  replace e := bn_e (by rw [a]; decide) e
  rw [if_neg (fun z => b (prb_e.mp z))]
  have U : UnM P.1 (L 10 0) := fun r => by
    refine rc_un (fun d hd => ?_) r
    by_cases c : 1 < rcL L P.1 d 64
    · exact absurd ⟨r, d, hd, Or.inl c⟩ b
    · omega
  unfold wr3
  replace e := cl_s e; obtain ⟨o3, eo3, e⟩ := e
  obtain ⟨w3, r3⟩ := lm_c H O.1 w.1.1 lw C eo3
  rw [w3] at e
  rcases r3 with ⟨a, b⟩ | ⟨a, b⟩
  rotate_left
  · rw [so_e (bn_e (by rw [a]; decide) e), if_pos (prb_e.mpr b)]
    exact ⟨rfl, rfl⟩
  replace e := bp_e a e
  rw [if_neg (fun z => b (prb_e.mp z))]
  unfold wr4
  replace e := cl_s e; obtain ⟨o5, eo5, e⟩ := e
  unfold sX5_hasRightRights at eo5
  obtain ⟨w5, r5⟩ := rr_2 H O.1 K U w.1.1 lw C F (n := 0) rfl (by omega) (fun s hs => absurd hs (Nat.not_lt_zero _)) eo5
  rw [w5] at e
  rcases r5 with ⟨a, b⟩ | ⟨a, b⟩
  · rw [so_e (bp_e a e), if_pos (prb_e.mpr b)]
    exact ⟨rfl, rfl⟩
  replace e := bn_e (by rw [a]; decide) e
  rw [if_neg (fun z => b (prb_e.mp z))]
  unfold wr5
  have pz : hJ h (V 4) 9 = 0 ↔ pzN P = 0 := by
    rcases C.2.2.2.2.1 with ⟨A, _⟩ | ⟨n8, w8⟩
    · exact pw_z A
    · rw [w8]
      exact ⟨fun z => absurd z (by decide), fun z => by omega⟩
  rcases br_s e with ⟨c, e⟩ | ⟨c, e⟩ <;> rw [c_zero, pz] at c
  · rw [if_neg (fun z => by have := (prb_e.mp z).1; omega)]
    exact ft_49 H O U w lw C e
  obtain ⟨n2, n64, qs⟩ : 2 ≤ pzN P ∧ pzN P ≤ 64 ∧ ∀ i, i < pzN P → (pzQ P i : Int) < L 0 0 * L 1 0 := by
    rcases O.2.2.1 with z | z
    · exact absurd z c
    · exact z
  replace e := cl_s e; obtain ⟨o8, eo8, e⟩ := e
  obtain ⟨w8, r8⟩ := rp_c H O w lw C n2 qs eo8
  rw [w8] at e
  rcases r8 with ⟨a, b⟩ | ⟨a, b⟩
  · rw [so_e (bp_e a e), if_pos (prb_e.mpr ⟨by omega, b⟩)]
    exact ⟨rfl, rfl⟩
  · replace e := bn_e (by rw [a]; decide) e
    rw [if_neg (fun z => (prb_e.mp z).2 b)]
    exact ft_49 H O U w lw C e
end
end
section
/-! a position that is read and has no fault is RIGHT -/
/-- what reading promises -/
def PzRd (L : Nat → Nat → Int) (P : Pz) : Prop := PzR L P ∧ (∀ q, q < 64 → pzR P q = true → (q : Int) < L 0 0 * L 1 0) ∧ (∀ d : Nat, d < 24 → L 2 0 ≤ ((d / 2 : Nat) : Int) → pzH P d = 0) ∧ (0 ≤ pzK P ∧ pzK P ≤ 200)
section
variable {V : Nat → Nat} {L : Nat → Nat → Int} {h : Hp} {P : Pz}
theorem wr_0 (e : wrN L P = 0) : ¬ F2p L P ∧ ¬ F3p L P ∧ ¬ F4p L P ∧ ¬ F5p L P ∧ ¬ RyH L P.1 (1 - pzS P) ∧ ¬ F7p L P ∧ ¬ F8p L P := by
  unfold wrN at e
  by_cases c2 : F2p L P
  · rw [if_pos (prb_e.mpr c2)] at e; exact absurd e (by decide)
  rw [if_neg (fun z => c2 (prb_e.mp z))] at e
  unfold wr3 at e
  by_cases c3 : F3p L P
  · rw [if_pos (prb_e.mpr c3)] at e; exact absurd e (by decide)
  rw [if_neg (fun z => c3 (prb_e.mp z))] at e
  unfold wr4 at e
  by_cases c4 : F4p L P
  · rw [if_pos (prb_e.mpr c4)] at e; exact absurd e (by decide)
  rw [if_neg (fun z => c4 (prb_e.mp z))] at e
  unfold wr5 at e
  by_cases c5 : F5p L P
  · rw [if_pos (prb_e.mpr c5)] at e; exact absurd e (by decide)
  rw [if_neg (fun z => c5 (prb_e.mp z))] at e
  unfold wr6 at e
  by_cases c6 : RyH L P.1 (1 - pzS P)
  · rw [if_pos (prb_e.mpr c6)] at e; exact absurd e (by decide)
  rw [if_neg (fun z => c6 (prb_e.mp z))] at e
  unfold wr7 at e
  by_cases c7 : F7p L P
  · rw [if_pos (prb_e.mpr c7)] at e; exact absurd e (by decide)
  rw [if_neg (fun z => c7 (prb_e.mp z))] at e
  by_cases c8 : F8p L P
  · rw [if_pos (prb_e.mpr c8)] at e; exact absurd e (by decide)
  exact ⟨c2, c3, c4, c5, c6, c7, c8⟩
theorem wr_un (r : ¬ F2p L P) : UnM P.1 (L 10 0) := fun hr => by
  refine rc_un (fun d hd => ?_) hr
  by_cases c : 1 < rcL L P.1 d 64
  · exact absurd ⟨hr, d, hd, Or.inl c⟩ r
  · omega
theorem wr_n7 (H : LOk L) (O : PzRd L P) (e : wrN L P = 0) : pzN P = 0 ∨ (2 ≤ pzN P ∧ pzN P ≤ 7 ∧ PsA L P) := by
  obtain ⟨_, _, _, c5, _⟩ := wr_0 e
  have sq := sq_64 H
  rcases O.1.2.2.1 with z | ⟨n2, n64, qs⟩
  · exact Or.inl z
  · have a : PsA L P := by
      apply Classical.byContradiction
      intro z
      exact c5 ⟨by omega, z⟩
    exact Or.inr ⟨n2, psa_7 H O.1.1 (by have := qs 0 (by omega); omega) a, a⟩
/-- RIGHT positions are as the rest of the proof wants them -/
theorem wr_ok (H : LOk L) (K : LawK L) (O : PzRd L P) (e : wrN L P = 0) : PzOk L P := by
  obtain ⟨c2, c3, c4, c5, c6, c7, c8⟩ := wr_0 e
  have sq := sq_64 H
  have L2 := H.2.2.1
  have HM := O.1.1
  refine ⟨HM, wr_un c2, O.1.2.1, fun q hq r => ?_, ?_, ⟨O.1.2.2.2.1, fun d hd z => ?_, fun z d hd => ?_⟩, O.1.2.2.2.2, O.2.2.2⟩
  · have qL := O.2.1 q hq r
    have g : RgA L P.1 q := by
      apply Classical.byContradiction
      intro z
      exact c4 ⟨q, qL, r, z⟩
    obtain ⟨mp, c12, em, rk, _⟩ := g
    have vL := ((HM q hq).2 mp).2
    have mE := (mno_lt (L := L) mp vL).2
    refine ⟨c12, ((P.1 q - 1) % 2).toNat, by omega, ?_, ?_⟩
    · unfold cdV
      omega
    · rw [show (((P.1 q - 1) % 2).toNat : Int) = (P.1 q - 1) % 2 by omega]
      exact rk
  · rcases wr_n7 H O e with z | ⟨n2, n7, a⟩
    · exact Or.inl z
    · refine Or.inr ⟨n2, n7, ?_, a.1, a.2.1, fun i i1 i2 => ?_⟩
      · rcases O.1.2.2.1 with z | z
        · omega
        · exact z.2.2
      · have := a.2.2.1 i i1 i2
        have qs : (pzQ P i : Int) < L 0 0 * L 1 0 := by
          rcases O.1.2.2.1 with z | z
          · omega
          · exact z.2.2 i i2
        have := (HM (pzQ P i) (by omega)).1
        omega
  · rcases z with z | z
    · exact O.2.2.1 d hd z
    · have b := (O.1.2.2.2.1 d hd).1
      by_cases c : 0 < pzH P d
      · refine absurd ⟨by omega, d % 2, by omega, Or.inr (Or.inr ?_)⟩ c2
        rw [show 2 * (L 10 0).toNat + d % 2 = d by omega]
        exact c
      · omega
  · have b := (O.1.2.2.2.1 d hd).1
    by_cases c : 0 < pzH P d
    · exact absurd ⟨z, d, hd, c⟩ c8
    · omega
/-- and the class tells its PASS -/
theorem cpr_ok (H : LOk L) (O : PzRd L P) (C : CpR V h (L 10 0) P) (e : wrN L P = 0) : CpP V h (L 10 0) P := by
  obtain ⟨a, b, c, d, p, g⟩ := C
  refine ⟨a, b, c, d, ?_, g⟩
  rcases p with p | ⟨n8, _⟩
  · exact p
  · rcases wr_n7 H O e with z | z
    · omega
    · omega
end
end
