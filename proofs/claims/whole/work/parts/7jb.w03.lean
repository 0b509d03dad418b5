section
/-! the reference: where a man is led -/
def GdT (L : Nat → Nat → Int) (M : Nat → Int) (sd : Int) (j t : Nat) : Prop := (0 < M t ∧ ¬ (M t - 1) % 2 = sd ∧ fbt (L 75 j) 0 = false) ∨ (¬ 0 < M t ∧ fbt (L 75 j) 1 = false)
def ByT (L : Nat → Nat → Int) (ov : Nat → Prop) (ct : Bool) (j t : Nat) : Prop := ct = true ∧ fbt (L 75 j) 5 = true ∧ ov t
/-- STEP j leads from s to t, and may end there -/
def LdG (L : Nat → Nat → Int) (M : Nat → Int) (ov : Nat → Prop) (ct : Bool) (sd : Int) (j s t : Nat) (k : Int) : Prop := Led L M j sd s t k ∧ (ByT L ov ct j t ∨ GdT L M sd j t)
/-- squares gone over -/
def OvR (V : Nat → Nat) (h : Hp) (t : Nat) : Prop := ∃ k : Nat, 1 ≤ k ∧ (k : Int) < (hI h (V 13) 3).toInt ∧ (hI h (V 63) k).toInt = (t : Int)
/-- rows of the leading: by D, the leads that were seen -/
def RwS (L : Nat → Nat → Int) (ov : Nat → Prop) (ct : Bool) (V : Nat → Nat) (h : Hp) (D : Nat → Nat → Int → Prop) : Prop := ∀ t : Nat, (t : Int) < L 0 0 * L 1 0 → (hI h (V 86) t = (-1 : Int32) ∧ ∀ j k, ¬ D j t k) ∨ ∃ (j : Nat) (k : Int), (hI h (V 86) t).toInt = (j : Int) ∧ (hI h (V 87) t).toInt = k ∧ ((hI h (V 88) t = 0 ∧ ¬ ByT L ov ct j t) ∨ (hI h (V 88) t = 1 ∧ ByT L ov ct j t)) ∧ D j t k ∧ ∀ j' k', D j' t k' → j ≤ j'
theorem rws_c {L : Nat → Nat → Int} {ov : Nat → Prop} {ct : Bool} {V : Nat → Nat} {h : Hp} {D D' : Nat → Nat → Int → Prop} (R : RwS L ov ct V h D) (c : ∀ (j t : Nat) (k : Int), (t : Int) < L 0 0 * L 1 0 → (D j t k ↔ D' j t k)) : RwS L ov ct V h D' := fun t ht => by
  rcases R t ht with ⟨a, b⟩ | ⟨j, k, a, b, d, e, f⟩
  · exact Or.inl ⟨a, fun j k z => b j k ((c j t k ht).mpr z)⟩
  · exact Or.inr ⟨j, k, a, b, d, (c j t k ht).mp e, fun j' k' z => f j' k' ((c j' t k' ht).mpr z)⟩
abbrev wld : List (Nat × Nat) := [(86, 999), (87, 999), (88, 999)]
section
variable {F : Nat} {V : Nat → Nat} {L : Nat → Nat → Int} {M : Nat → Int} {o' : Hp} {o : Int32 × Hp}
theorem gov_2 {h : Hp} {x2 : Int32} {t : Nat} (e4 : hR h (V 13) 4 = some (V 63)) (et : x2.toInt = (t : Int)) : ∀ (f : Nat) {x3 : Int32}, 1 ≤ x3.toInt → sX15_isGoneOver_2 F f h (V 13) x2 x3 = some o → o.2 = h ∧ ((o.1 = 0 ∧ ∀ k : Nat, x3.toInt ≤ k → (k : Int) < (hI h (V 13) 3).toInt → ¬ (hI h (V 63) k).toInt = (t : Int)) ∨ (o.1 = 1 ∧ OvR V h t)) := by
  have z1 : (1 : Int32).toInt = 1 := rfl
  intro f
  induction f with
  | zero => intro x3 _ e; exact absurd e (by rw [sX15_isGoneOver_2]; exact fun z => nomatch z)
  | succ f ih =>
    intro x3 a3 e
    have c3 := nc_i (x := x3) (by omega)
    rw [sX15_isGoneOver_2] at e
    rcases br_s e with ⟨l, e⟩ | ⟨l, e⟩
    · have l := le_i l
      rw [so_e e]
      exact ⟨rfl, Or.inl ⟨rfl, fun k a b => by omega⟩⟩
    have l := nle_i l
    replace e := ce_e e4 e
    replace e := gg_e e
    rcases br_s e with ⟨c, e⟩ | ⟨c, e⟩
    · rw [so_e e]
      exact ⟨rfl, Or.inr ⟨rfl, x3.toNatClampNeg, by omega, by omega, by rw [c, et]⟩⟩
    have up : (hI h (V 13) 3).toInt ≤ 2147483647 := Int32.toInt_le _
    have t3 : (x3 + (1 : Int32)).toInt = x3.toInt + 1 := by rw [ta (by rw [z1]; omega), z1]
    obtain ⟨r1, r2⟩ := ih (by omega) (nx_e e)
    refine ⟨r1, ?_⟩
    rcases r2 with ⟨a, b⟩ | r2
    · refine Or.inl ⟨a, fun k p q => ?_⟩
      by_cases y : k = x3.toNatClampNeg
      · rw [y]
        exact fun z => c (Int32.toInt_inj.mp (by rw [z, et]))
      · exact b k (by omega) q
    · exact Or.inr r2
theorem gov_v {h : Hp} {x2 : Int32} {t x0 : Nat} (e4 : hR h (V 13) 4 = some (V 63)) (et : x2.toInt = (t : Int)) (e : sX15_isGoneOver F h x0 (V 13) x2 = some o) : o.2 = h ∧ ((o.1 = 0 ∧ ¬ OvR V h t) ∨ (o.1 = 1 ∧ OvR V h t)) := by
  unfold sX15_isGoneOver at e
  obtain ⟨r1, r2⟩ := gov_2 e4 et F (by decide) e
  refine ⟨r1, ?_⟩
  rcases r2 with ⟨a, b⟩ | r2
  · refine Or.inl ⟨a, ?_⟩
    rintro ⟨k, p, q, r⟩
    have z1 : (1 : Int32).toInt = 1 := rfl
    exact b k (by rw [z1]; omega) q r
  · exact Or.inr r2
/-- rows, laws and board of the leading -/
def LdW (V : Nat → Nat) (h : Hp) (L : Nat → Nat → Int) (M : Nat → Int) (ov : Nat → Prop) : Prop := RWd V h L M ∧ (hR h (V 16) 25 = some (V 86) ∧ hR h (V 16) 26 = some (V 87) ∧ hR h (V 16) 27 = some (V 88)) ∧ hR h (V 13) 4 = some (V 63) ∧ ∀ t, OvR V h t ↔ ov t
theorem ldw_f (D : VD V) {ov : Nat → Prop} {h : Hp} {Ls : List (Nat × Nat)} (P : LdW V h L M ov) (A : FrV V (wl Ls) h o') (n : ∀ p, p ∈ Ls → p.1 ∈ vql ∧ ¬ p.1 = 15 ∧ ¬ (73 ≤ p.1 ∧ p.1 ≤ 81)) (n62 : ∀ p, p ∈ Ls → ¬ p.1 = 62) (n11 : wl Ls 16 11 = false) (n12 : wl Ls 16 12 = false) (n13 : wl Ls 16 13 = false) (n3 : wl Ls 13 3 = false) (n63 : ∀ p, p ∈ Ls → ¬ p.1 = 63) : LdW V o' L M ov := by
  obtain ⟨a, ⟨b1, b2, b3⟩, c, d⟩ := P
  have hL : ∀ p, p ∈ Ls → p.1 ∈ vql := fun p hp => (n p hp).1
  refine ⟨rwd_f D a A n n62 n11 n12 n13, ⟨by rw [A.1]; exact b1, by rw [A.1]; exact b2, by rw [A.1]; exact b3⟩, by rw [A.1]; exact c, fun t => ?_⟩
  rw [← d t]
  unfold OvR
  constructor
  · rintro ⟨k, p, q, r⟩
    rw [fvi D A 13 3 n3 (by decide) hL] at q
    rw [fvI D A 63 k n63 (by decide) hL] at r
    exact ⟨k, p, q, r⟩
  · rintro ⟨k, p, q, r⟩
    refine ⟨k, p, ?_, ?_⟩
    · rw [fvi D A 13 3 n3 (by decide) hL]; exact q
    · rw [fvI D A 63 k n63 (by decide) hL]; exact r
theorem nar_b {x : Int32} (i : x = 0 ∨ x = 1) : vp_nar .boolean x = x := by
  rcases i with i | i <;> rw [i] <;> decide
/-- along one vector -/
theorem lb_18 (D : VD V) {ov : Nat → Prop} {ct : Bool} {s sd st x5 x6 X Y : Int32} (H : LOk L) (HM : MOk L M) (J : StR L st.toNatClampNeg) (i4 : 0 ≤ st.toInt) (is : 0 ≤ s.toInt) (sL : s.toInt < L 0 0 * L 1 0) (e5 : x5 = 0 ↔ ct = false) (e6 : x6.toInt = L 75 st.toNatClampNeg) (isd : Rg 0 1 sd) (iX : Rg (-7) 7 X) (iY : Rg (-7) 7 Y) (nz : ¬ (X.toInt = 0 ∧ Y.toInt = 0)) : ∀ (f : Nat) {h : Hp} {x7 x8 : Int32} {D0 : Nat → Nat → Int → Prop}, LdW V h L M ov → hI h (V 16) 23 = X → hI h (V 16) 24 = Y → RwS L ov ct V h D0 → (∀ j t k, D0 j t k → j ≤ st.toNatClampNeg) → Rg 1 8 x8 → x7.toInt = ((cnP M s.toInt (Y.toInt * L 0 0 + X.toInt) (x8.toInt - 1).toNat : Nat) : Int) → sX15_leadBy_18 F f h (V 16) (V 13) s sd st x5 x6 x7 x8 = some o' → FrV V (wl wld) h o' ∧ RwS L ov ct V o' (fun j t k => D0 j t k ∨ (j = st.toNatClampNeg ∧ x8.toInt ≤ k ∧ k ≤ L 78 j ∧ onK (L 0 0) (L 1 0) s.toInt X.toInt Y.toInt k ∧ (t : Int) = tgt (L 0 0) s.toInt X.toInt Y.toInt k ∧ cnP M s.toInt (Y.toInt * L 0 0 + X.toInt) (k - 1).toNat = ovN L j ∧ (ByT L ov ct j t ∨ GdT L M sd.toInt j t))) := by
  have z0 : (0 : Int32).toInt = 0 := rfl
  have z1 : (1 : Int32).toInt = 1 := rfl
  have z2 : (2 : Int32).toInt = 2 := rfl
  have sq := sq_64 H
  have fi := H.1
  have ra := H.2.1
  have L2 := H.2.2.1
  have r7 := J.2.2.2.2.1
  have c4 := nc_i i4
  have ov1 : ovN L st.toNatClampNeg ≤ 1 := by unfold ovN; split <;> omega
  have i6 : Rg 0 63 x6 := ⟨by rw [e6]; exact J.1.1, by rw [e6]; exact J.1.2⟩
  obtain ⟨fb0, fb1, _, fb3, _, fb5⟩ := fb_e i6
  rw [e6] at fb0 fb1 fb3 fb5
  intro f
  induction f with
  | zero => intro h x7 x8 D0 _ _ _ _ _ _ _ e; exact absurd e (by rw [sX15_leadBy_18]; exact fun z => nomatch z)
  | succ f ih =>
    intro h x7 x8 D0 W eX eY R bD i8 c7 e
    have i80 := i8.1
    have i81 := i8.2
    obtain ⟨W0, ⟨b1, b2, b3⟩, b4, hov⟩ := W
    have W : LdW V h L M ov := ⟨W0, ⟨b1, b2, b3⟩, b4, hov⟩
    obtain ⟨w, ⟨g1, g2, g3, g4⟩, bM, mM⟩ := W0
    obtain ⟨l75, _, _, l78, _⟩ := lw_75 W.1 st.toNatClampNeg
    rw [sX15_leadBy_18] at e
    unfold sX15_leadBy_216 at e
    -- nothing more is found
    have stop : (∀ k : Int, x8.toInt ≤ k → k ≤ L 78 st.toNatClampNeg → onK (L 0 0) (L 1 0) s.toInt X.toInt Y.toInt k → ¬ cnP M s.toInt (Y.toInt * L 0 0 + X.toInt) (k - 1).toNat = ovN L st.toNatClampNeg) → some h = some o' → FrV V (wl wld) h o' ∧ RwS L ov ct V o' (fun j t k => D0 j t k ∨ (j = st.toNatClampNeg ∧ x8.toInt ≤ k ∧ k ≤ L 78 j ∧ onK (L 0 0) (L 1 0) s.toInt X.toInt Y.toInt k ∧ (t : Int) = tgt (L 0 0) s.toInt X.toInt Y.toInt k ∧ cnP M s.toInt (Y.toInt * L 0 0 + X.toInt) (k - 1).toNat = ovN L j ∧ (ByT L ov ct j t ∨ GdT L M sd.toInt j t))) := fun no u => by
      rw [so_e u]
      refine ⟨fv_0, rws_c R (fun j t k _ => ⟨fun z => Or.inl z, ?_⟩)⟩
      rintro (z | ⟨a, b, c, d, _, g, _⟩)
      · exact z
      · rw [a] at c g
        exact absurd g (no k b c d)
    replace e := ce_e w.1 e
    replace e := ce_e w.2.2.2.2.2.2.1 e
    replace e := gg_e e
    rcases br_s e with ⟨l, e⟩ | ⟨l, e⟩
    · have l := lt_i l
      rw [l78] at l
      exact stop (fun k a b => by omega) e
    have l := nlt_i l
    rw [l78] at l
    rcases br_s e with ⟨f2, e⟩ | ⟨f2, e⟩
    · have f2 := le_i f2
      rw [z2] at f2
      refine stop (fun k a b _ c => ?_) e
      have := cnp_le (M := M) (s := s.toInt) (st := Y.toInt * L 0 0 + X.toInt) (n := (x8.toInt - 1).toNat) (k - 1).toNat (by omega)
      omega
    have f2 := nle_i f2
    rw [z2] at f2
    replace e := cl_s e; obtain ⟨o6, eo6, e⟩ := e
    have v6 := on_val eo6
    rw [eX, eY] at v6
    have w6 : o6.2 = h := by rw [v6]
    have w1 : o6.1 = onV (hI h (V 16) 11) (hI h (V 16) 12) X Y s x8 := by rw [v6]
    rw [w6] at e
    have oi := on_int (a := hI h (V 16) 11) (b := hI h (V 16) 12) (x := X) (y := Y) (s := s) (k := x8) ⟨is, by omega⟩ ⟨by omega, by omega⟩ ⟨by omega, by omega⟩ iX iY ⟨by omega, by omega⟩
    rw [← w1, g2, g3] at oi
    rcases oi with ⟨m, no⟩ | ⟨on, tv⟩
    · replace e := bp_e m e
      exact stop (fun k a b c => absurd (onk_mid (by omega) is sL c ⟨by omega, a⟩) no) e
    obtain ⟨t0, t1, _⟩ := tgt_on (show 0 < L 0 0 by omega) on
    replace e := bn_e (fun z => by rw [z] at tv; have : (-1 : Int32).toInt = -1 := by decide
                                   omega) e
    have c6 := nc_i (x := o6.1) (by omega)
    have t64 : o6.1.toNatClampNeg < 64 := by omega
    replace e := ce_e bM e
    replace e := gg_e e
    replace e := nm_s e; obtain ⟨v10, u10, e⟩ := e
    have mv : v10.toInt = M o6.1.toNatClampNeg := by rw [u10]; exact mM _ t64
    have hm := HM o6.1.toNatClampNeg t64
    have t8 : (x8 + (1 : Int32)).toInt = x8.toInt + 1 := by rw [ta (by rw [z1]; omega), z1]
    have ix : o6.1.toNatClampNeg = (s.toInt + x8.toInt * (Y.toInt * L 0 0 + X.toInt)).toNat := by
      rw [tgt_s] at tv
      omega
    have cs : (cnP M s.toInt (Y.toInt * L 0 0 + X.toInt) (x8.toInt + 1 - 1).toNat) = cnP M s.toInt (Y.toInt * L 0 0 + X.toInt) (x8.toInt - 1).toNat + (if 0 < M o6.1.toNatClampNeg then 1 else 0) := by
      obtain ⟨n, hn⟩ : ∃ n : Nat, x8.toInt = (n : Int) + 1 := ⟨(x8.toInt - 1).toNat, by omega⟩
      rw [ix, hn, show ((n : Int) + 1 + 1 - 1).toNat = n + 1 by omega, show ((n : Int) + 1 - 1).toNat = n by omega]
      rfl
    -- what is new at this square
    have nxt : ∀ {g : Hp}, FrV V (wl wld) h g → RwS L ov ct V g (fun j t k => D0 j t k ∨ (j = st.toNatClampNeg ∧ k = x8.toInt ∧ t = o6.1.toNatClampNeg ∧ cnP M s.toInt (Y.toInt * L 0 0 + X.toInt) (k - 1).toNat = ovN L j ∧ (ByT L ov ct j t ∨ GdT L M sd.toInt j t))) → sX15_leadBy_195 F (sX15_leadBy_18 F f) g (V 16) (V 13) s sd st x5 x6 x7 x8 v10 = some o' → FrV V (wl wld) h o' ∧ RwS L ov ct V o' (fun j t k => D0 j t k ∨ (j = st.toNatClampNeg ∧ x8.toInt ≤ k ∧ k ≤ L 78 j ∧ onK (L 0 0) (L 1 0) s.toInt X.toInt Y.toInt k ∧ (t : Int) = tgt (L 0 0) s.toInt X.toInt Y.toInt k ∧ cnP M s.toInt (Y.toInt * L 0 0 + X.toInt) (k - 1).toNat = ovN L j ∧ (ByT L ov ct j t ∨ GdT L M sd.toInt j t))) := fun {g} A Rg' u => by
      unfold sX15_leadBy_195 sX15_leadBy_207 at u
      have go : ∀ {v1 : Int32}, v1.toInt = ((cnP M s.toInt (Y.toInt * L 0 0 + X.toInt) (x8.toInt + 1 - 1).toNat : Nat) : Int) → sX15_leadBy_18 F f g (V 16) (V 13) s sd st x5 x6 v1 (x8 + (1 : Int32)) = some o' → FrV V (wl wld) h o' ∧ RwS L ov ct V o' (fun j t k => D0 j t k ∨ (j = st.toNatClampNeg ∧ x8.toInt ≤ k ∧ k ≤ L 78 j ∧ onK (L 0 0) (L 1 0) s.toInt X.toInt Y.toInt k ∧ (t : Int) = tgt (L 0 0) s.toInt X.toInt Y.toInt k ∧ cnP M s.toInt (Y.toInt * L 0 0 + X.toInt) (k - 1).toNat = ovN L j ∧ (ByT L ov ct j t ∨ GdT L M sd.toInt j t))) := fun {v1} hv y => by
        obtain ⟨r1, r2⟩ := ih (ldw_f D W A (by decide) (by decide) rfl rfl rfl rfl (by decide)) (by rw [fvi D A 16 23]; exact eX) (by rw [fvi D A 16 24]; exact eY) Rg' (fun j t k z => by
          rcases z with z | z
          · exact bD j t k z
          · rw [z.1]; exact Nat.le_refl _) ⟨by omega, by omega⟩ (by rw [t8]; exact hv) y
        refine ⟨fv_t A r1, rws_c r2 (fun j t k ht => ?_)⟩
        rw [t8]
        constructor
        · rintro ((z | ⟨a, b, c, d⟩) | ⟨a, b, c⟩)
          · exact Or.inl z
          · refine Or.inr ⟨a, by omega, by rw [a, b]; exact l, by rw [b]; exact on, ?_, d⟩
            rw [b, c, c6, tv]
          · exact Or.inr ⟨a, by omega, c⟩
        · rintro (z | ⟨a, b, c, d, g', i⟩)
          · exact Or.inl (Or.inl z)
          · by_cases q : k = x8.toInt
            · refine Or.inl (Or.inr ⟨a, q, ?_, i⟩)
              rw [q] at g'
              omega
            · exact Or.inr ⟨a, by omega, c, d, g', i⟩
      rcases br_s u with ⟨mz, u⟩ | ⟨mz, u⟩
      · have mz := le_i mz
        rw [mv, z0] at mz
        replace u := nm_s u; obtain ⟨v1, wv, u⟩ := u
        refine go ?_ (nx_e u)
        rw [wv, ta (by rw [z0]; omega), z0, cs, if_neg (by omega), c7]
        omega
      · have mz := nle_i mz
        rw [mv, z0] at mz
        replace u := nm_s u; obtain ⟨v1, wv, u⟩ := u
        refine go ?_ (nx_e u)
        rw [wv, ta (by rw [z1]; omega), z1, cs, if_pos (by omega), c7]
        omega
    -- nothing new
    have same : (∀ t k, t = o6.1.toNatClampNeg → k = x8.toInt → cnP M s.toInt (Y.toInt * L 0 0 + X.toInt) (k - 1).toNat = ovN L st.toNatClampNeg → ¬ (ByT L ov ct st.toNatClampNeg t ∨ GdT L M sd.toInt st.toNatClampNeg t)) → RwS L ov ct V h (fun j t k => D0 j t k ∨ (j = st.toNatClampNeg ∧ k = x8.toInt ∧ t = o6.1.toNatClampNeg ∧ cnP M s.toInt (Y.toInt * L 0 0 + X.toInt) (k - 1).toNat = ovN L j ∧ (ByT L ov ct j t ∨ GdT L M sd.toInt j t))) := fun no => rws_c R (fun j t k _ => ⟨fun z => Or.inl z, by
      rintro (z | ⟨a, b, c, d, g⟩)
      · exact z
      · rw [a] at d g
        exact absurd g (no t k c b d)⟩)
    replace e := cl_s e; obtain ⟨o11, eo11, e⟩ := e
    have v11 := fr_val eo11
    have w11 : o11.2 = h := by rw [v11]
    have f11 : o11.1 = frV x6 x7 := by rw [v11]
    rw [w11] at e
    have free : (o11.1 = 0 ∧ ¬ cnP M s.toInt (Y.toInt * L 0 0 + X.toInt) (x8.toInt - 1).toNat = ovN L st.toNatClampNeg) ∨ (¬ o11.1 = 0 ∧ cnP M s.toInt (Y.toInt * L 0 0 + X.toInt) (x8.toInt - 1).toNat = ovN L st.toNatClampNeg) := by
      rw [f11]
      rcases frv_e fb3 c7 with ⟨a, b⟩ | ⟨a, b⟩
      · exact Or.inr ⟨by rw [a]; decide, b⟩
      · exact Or.inl ⟨a, b⟩
    rcases br_s e with ⟨c, e⟩ | ⟨c, e⟩
    · refine nxt fv_0 (same (fun t k _ y d _ => ?_)) e
      rcases free with ⟨_, f⟩ | ⟨f, _⟩
      · rw [y] at d; exact f d
      · exact f c
    have opn : cnP M s.toInt (Y.toInt * L 0 0 + X.toInt) (x8.toInt - 1).toNat = ovN L st.toNatClampNeg := by
      rcases free with ⟨f, _⟩ | ⟨_, f⟩
      · exact absurd f c
      · exact f
    replace e := ce_e b1 e
    replace e := gg_e e
    rcases br_s e with ⟨fresh, e⟩ | ⟨fresh, e⟩
    rotate_left
    · -- a STEP leads there already
      refine nxt fv_0 (fun t ht => ?_) e
      rcases R t ht with ⟨a, b⟩ | ⟨j, k, a, b, c, d, g⟩
      · by_cases y : t = o6.1.toNatClampNeg
        · rw [y] at a; exact absurd a fresh
        · exact Or.inl ⟨a, fun j k z => by
            rcases z with z | ⟨_, _, z, _⟩
            · exact b j k z
            · exact y z⟩
      · refine Or.inr ⟨j, k, a, b, c, Or.inl d, fun j' k' z => ?_⟩
        rcases z with z | ⟨z, _⟩
        · exact g j' k' z
        · rw [z]; exact bD j t k d
    -- the first
    have none : ∀ j k, ¬ D0 j o6.1.toNatClampNeg k := by
      rcases R o6.1.toNatClampNeg (by omega) with ⟨_, b⟩ | ⟨j, k, a, _⟩
      · exact b
      · rw [fresh] at a
        have : (-1 : Int32).toInt = -1 := by decide
        omega
    have put : ∀ {b : Int32}, ((b = 0 ∧ ¬ ByT L ov ct st.toNatClampNeg o6.1.toNatClampNeg) ∨ (b = 1 ∧ ByT L ov ct st.toNatClampNeg o6.1.toNatClampNeg)) → (ByT L ov ct st.toNatClampNeg o6.1.toNatClampNeg ∨ GdT L M sd.toInt st.toNatClampNeg o6.1.toNatClampNeg) → sX15_leadBy_168 F (sX15_leadBy_18 F f) h (V 16) (V 13) s sd st x5 x6 x7 x8 o6.1 v10 b = some o' → FrV V (wl wld) h o' ∧ RwS L ov ct V o' (fun j t k => D0 j t k ∨ (j = st.toNatClampNeg ∧ x8.toInt ≤ k ∧ k ≤ L 78 j ∧ onK (L 0 0) (L 1 0) s.toInt X.toInt Y.toInt k ∧ (t : Int) = tgt (L 0 0) s.toInt X.toInt Y.toInt k ∧ cnP M s.toInt (Y.toInt * L 0 0 + X.toInt) (k - 1).toNat = ovN L j ∧ (ByT L ov ct j t ∨ GdT L M sd.toInt j t))) := fun {b} hb ok u => by
      unfold sX15_leadBy_168 at u
      replace u := ce_e b1 u
      replace u := gg_e u
      replace u := nm_s u; obtain ⟨h3, u3, u⟩ := u
      replace u := ce_e (show hR h3 (V 16) 26 = some (V 87) by rw [u3]; exact b2) u
      replace u := gg_e u
      replace u := nm_s u; obtain ⟨h6, u6, u⟩ := u
      replace u := ce_e (show hR h6 (V 16) 27 = some (V 88) by rw [u6, u3]; exact b3) u
      replace u := gg_e u
      replace u := nm_s u; obtain ⟨h9, u9, u⟩ := u
      rw [nar_b (hb.elim (fun z => Or.inl z.1) (fun z => Or.inr z.1))] at u9
      have A9 : FrV V (wl wld) h h9 := fv_t (g2 := h6) (fv_t (g2 := h3) (by rw [u3]; exact fv_w (wl_9 (by decide))) (by rw [u6]; exact fv_w (wl_9 (by decide)))) (by rw [u9]; exact fv_w (wl_9 (by decide)))
      refine nxt A9 (fun t ht => ?_) u
      by_cases y : t = o6.1.toNatClampNeg
      · rw [y]
        have r86 : hI h9 (V 86) o6.1.toNatClampNeg = st := by rw [u9, rI_a (vne D), u6, rI_a (vne D), u3, rI_s]
        have r87 : hI h9 (V 87) o6.1.toNatClampNeg = x8 := by rw [u9, rI_a (vne D), u6, rI_s]
        have r88 : hI h9 (V 88) o6.1.toNatClampNeg = b := by rw [u9, rI_s]
        rw [r86, r87, r88]
        refine Or.inr ⟨st.toNatClampNeg, x8.toInt, by omega, rfl, hb, Or.inr ⟨rfl, rfl, rfl, opn, ok⟩, fun j' k' z => ?_⟩
        rcases z with z | ⟨z, _⟩
        · exact absurd z (none j' k')
        · rw [z]; exact Nat.le_refl _
      · have r86 : hI h9 (V 86) t = hI h (V 86) t := by rw [u9, rI_a (vne D), u6, rI_a (vne D), u3, rI_o y]
        have r87 : hI h9 (V 87) t = hI h (V 87) t := by rw [u9, rI_a (vne D), u6, rI_o y, u3, rI_a (vne D)]
        have r88 : hI h9 (V 88) t = hI h (V 88) t := by rw [u9, rI_o y, u6, rI_a (vne D), u3, rI_a (vne D)]
        rw [r86, r87, r88]
        rcases R t ht with ⟨a, b'⟩ | ⟨j, k, a, b', c', d, g⟩
        · exact Or.inl ⟨a, fun j k z => by
            rcases z with z | ⟨_, _, z, _⟩
            · exact b' j k z
            · exact y z⟩
        · refine Or.inr ⟨j, k, a, b', c', Or.inl d, fun j' k' z => ?_⟩
          rcases z with z | ⟨_, _, z, _⟩
          · exact g j' k' z
          · exact absurd z y
    -- whether it may end there
    have k113 : ∀ {b : Int32}, ((b = 0 ∧ ¬ ByT L ov ct st.toNatClampNeg o6.1.toNatClampNeg) ∨ (b = 1 ∧ ByT L ov ct st.toNatClampNeg o6.1.toNatClampNeg)) → sX15_leadBy_113 F (sX15_leadBy_18 F f) h (V 16) (V 13) s sd st x5 x6 x7 x8 o6.1 v10 b = some o' → FrV V (wl wld) h o' ∧ RwS L ov ct V o' (fun j t k => D0 j t k ∨ (j = st.toNatClampNeg ∧ x8.toInt ≤ k ∧ k ≤ L 78 j ∧ onK (L 0 0) (L 1 0) s.toInt X.toInt Y.toInt k ∧ (t : Int) = tgt (L 0 0) s.toInt X.toInt Y.toInt k ∧ cnP M s.toInt (Y.toInt * L 0 0 + X.toInt) (k - 1).toNat = ovN L j ∧ (ByT L ov ct j t ∨ GdT L M sd.toInt j t))) := fun {b} hb u => by
      have k156 : ∀ {g : Int32}, ((g = 0 ∧ ¬ GdT L M sd.toInt st.toNatClampNeg o6.1.toNatClampNeg) ∨ (¬ g = 0 ∧ GdT L M sd.toInt st.toNatClampNeg o6.1.toNatClampNeg)) → sX15_leadBy_156 F (sX15_leadBy_18 F f) h (V 16) (V 13) s sd st x5 x6 x7 x8 o6.1 v10 b g = some o' → FrV V (wl wld) h o' ∧ RwS L ov ct V o' (fun j t k => D0 j t k ∨ (j = st.toNatClampNeg ∧ x8.toInt ≤ k ∧ k ≤ L 78 j ∧ onK (L 0 0) (L 1 0) s.toInt X.toInt Y.toInt k ∧ (t : Int) = tgt (L 0 0) s.toInt X.toInt Y.toInt k ∧ cnP M s.toInt (Y.toInt * L 0 0 + X.toInt) (k - 1).toNat = ovN L j ∧ (ByT L ov ct j t ∨ GdT L M sd.toInt j t))) := fun {g} hg v => by
        unfold sX15_leadBy_156 at v
        rcases br_s v with ⟨b0, v⟩ | ⟨b0, v⟩
        · have nb : ¬ ByT L ov ct st.toNatClampNeg o6.1.toNatClampNeg := by
            rcases hb with ⟨_, z⟩ | ⟨z, _⟩
            · exact z
            · rw [z] at b0; exact absurd b0 (by decide)
          rcases br_s v with ⟨g0, v⟩ | ⟨g0, v⟩
          · refine nxt fv_0 (same (fun t k y _ _ z => ?_)) v
            rw [y] at z
            rcases z with z | z
            · exact nb z
            · rcases hg with ⟨_, q⟩ | ⟨q, _⟩
              · exact q z
              · exact q g0
          · refine put hb (Or.inr ?_) v
            rcases hg with ⟨q, _⟩ | ⟨_, q⟩
            · exact absurd q g0
            · exact q
        · refine put hb (Or.inl ?_) v
          rcases hb with ⟨z, _⟩ | ⟨_, z⟩
          · exact absurd z b0
          · exact z
      unfold sX15_leadBy_113 sX15_leadBy_140 at u
      rcases br_s u with ⟨mz, u⟩ | ⟨mz, u⟩
      · have mz := le_i mz
        rw [mv, z0] at mz
        rcases br_s u with ⟨q, u⟩ | ⟨q, u⟩
        · exact k156 (Or.inr ⟨by decide, Or.inr ⟨by omega, fb1.mp q⟩⟩) u
        · refine k156 (Or.inl ⟨rfl, ?_⟩) u
          rintro (⟨z, _⟩ | ⟨_, z⟩)
          · omega
          · exact q (fb1.mpr z)
      · have mz := nle_i mz
        rw [mv, z0] at mz
        have m24 := (hm.2 mz).2
        have tv10 : (v10 - (1 : Int32)).toInt = M o6.1.toNatClampNeg - 1 := by rw [ts (by rw [z1]; omega), z1, mv]
        have sdv : ((v10 - (1 : Int32)) &&& (1 : Int32)).toInt = (M o6.1.toNatClampNeg - 1) % 2 := by rw [and1_i (by omega), tv10]
        unfold sX15_sideOf at u
        replace u := cl_s u; obtain ⟨o3, eo3, u⟩ := u
        rw [so_e eo3] at u
        rcases br_s u with ⟨q, u⟩ | ⟨q, u⟩
        · refine k156 (Or.inl ⟨rfl, ?_⟩) u
          rintro (⟨_, z, _⟩ | ⟨z, _⟩)
          · exact z (by rw [← sdv]; exact congrArg Int32.toInt q)
          · exact z mz
        · rcases br_s u with ⟨q', u⟩ | ⟨q', u⟩
          · exact k156 (Or.inr ⟨by decide, Or.inl ⟨mz, fun z => q (Int32.toInt_inj.mp (by rw [sdv, z])), fb0.mp q'⟩⟩) u
          · refine k156 (Or.inl ⟨rfl, ?_⟩) u
            rintro (⟨_, _, z⟩ | ⟨z, _⟩)
            · exact q' (fb0.mpr z)
            · exact z mz
    unfold sX15_leadBy_112 at e
    rcases br_s e with ⟨q, e⟩ | ⟨q, e⟩
    · refine k113 (Or.inl ⟨rfl, fun z => ?_⟩) e
      have := z.1
      rw [e5.mp q] at this
      exact absurd this (by decide)
    have ctT : ct = true := by
      cases y : ct with
      | true => rfl
      | false => exact absurd (e5.mpr y) q
    rcases br_s e with ⟨q5, e⟩ | ⟨q5, e⟩
    · refine k113 (Or.inl ⟨rfl, fun z => ?_⟩) e
      have := z.2.1
      rw [fb5.mp q5] at this
      exact absurd this (by decide)
    have f5 : fbt (L 75 st.toNatClampNeg) 5 = true := by
      cases y : fbt (L 75 st.toNatClampNeg) 5 with
      | true => rfl
      | false => exact absurd (fb5.mpr y) q5
    replace e := cl_s e; obtain ⟨o18, eo18, e⟩ := e
    obtain ⟨w18, g18⟩ := gov_v (t := o6.1.toNatClampNeg) b4 c6.symm eo18
    rw [hov] at g18
    rw [w18] at e
    rcases br_s e with ⟨q8, e⟩ | ⟨q8, e⟩
    · refine k113 (Or.inl ⟨rfl, fun z => ?_⟩) e
      rcases g18 with ⟨_, y⟩ | ⟨y, _⟩
      · exact y z.2.2
      · rw [y] at q8; exact absurd q8 (by decide)
    · refine k113 (Or.inr ⟨rfl, ctT, f5, ?_⟩) e
      rcases g18 with ⟨y, _⟩ | ⟨_, y⟩
      · exact absurd y q8
      · exact y
end
end
section
/-! the reference: lead -/
abbrev wlx : List (Nat × Nat) := [(86, 999), (87, 999), (88, 999), (16, 23), (16, 24)]
section
variable {F : Nat} {V : Nat → Nat} {L : Nat → Nat → Int} {M : Nat → Int} {o' : Hp}
theorem ldw_x (D : VD V) {ov : Nat → Prop} {h g : Hp} (P : LdW V h L M ov) (A : FrV V (wl wlx) h g) : LdW V g L M ov := ldw_f D P A (by decide) (by decide) rfl rfl rfl rfl (by decide)
theorem rws_k {ov : Nat → Prop} {ct : Bool} {h g : Hp} {D : Nat → Nat → Int → Prop} (R : RwS L ov ct V h D) (a : ∀ i, hI g (V 86) i = hI h (V 86) i) (b : ∀ i, hI g (V 87) i = hI h (V 87) i) (c : ∀ i, hI g (V 88) i = hI h (V 88) i) : RwS L ov ct V g D := fun t ht => by
  rw [a, b, c]
  exact R t ht
/-- whether a STEP may start from a square -/
theorem from_v {h : Hp} {st s sd : Int32} {o : Int32 × Hp} (H : LOk L) (W : RWd V h L M) (is : 0 ≤ s.toInt) (sL : s.toInt < L 0 0 * L 1 0) (e : sX15_isFrom h (V 16) st s sd = some o) : o.2 = h ∧ ((o.1 = 0 ∧ ¬ (L 79 st.toNatClampNeg = 0 ∨ L 79 st.toNatClampNeg = rkF L s.toNatClampNeg sd.toInt)) ∨ (¬ o.1 = 0 ∧ (L 79 st.toNatClampNeg = 0 ∨ L 79 st.toNatClampNeg = rkF L s.toNatClampNeg sd.toInt))) := by
  have z0 : (0 : Int32).toInt = 0 := rfl
  have z1 : (1 : Int32).toInt = 1 := rfl
  have v12 := fm_val W.1.1 W.1.2.2.2.2.2.2.2.1 e
  have l79 := (lw_75 W st.toNatClampNeg).2.2.2.2.1
  have e1 : o.1 = fmV (hI h (V 79) st.toNatClampNeg) (hI h (V 16) 11) (hI h (V 16) 12) s sd := by rw [v12]
  obtain ⟨_, ⟨g1, g2, g3, g4⟩, _⟩ := W
  have fi := H.1
  have ra := H.2.1
  have sq := sq_64 H
  have cs := nc_i is
  have iS : Rg 0 63 s := ⟨is, by omega⟩
  have iA : Rg 3 8 (hI h (V 16) 11) := ⟨by omega, by omega⟩
  have dv := td iS iA ⟨by decide, by decide⟩
  have dr := rg_divv iS iA ⟨by decide, by decide⟩
  have dr0 := dr.1
  have dr1 := dr.2
  have rk : (rkV (hI h (V 16) 11) (hI h (V 16) 12) s sd).toInt = rkF L s.toNatClampNeg sd.toInt := by
    unfold rkV rkF
    rw [cs]
    by_cases c : sd = 0
    · rw [if_pos c, if_pos (by rw [c]; rfl), ta (by rw [z1]; omega), z1, dv, g2]
    · rw [if_neg c, if_neg (fun z => c (Int32.toInt_inj.mp (by rw [z]; rfl))), ts (by omega), dv, g2, g3]
  refine ⟨by rw [v12], ?_⟩
  rw [e1]
  unfold fmV
  by_cases c : hI h (V 79) st.toNatClampNeg = 0
  · rw [if_pos c]
    rw [c, z0] at l79
    exact Or.inr ⟨by decide, Or.inl l79.symm⟩
  · rw [if_neg c]
    have n79 : ¬ L 79 st.toNatClampNeg = 0 := fun z => c (Int32.toInt_inj.mp (by rw [l79, z]; rfl))
    by_cases d : hI h (V 79) st.toNatClampNeg = rkV (hI h (V 16) 11) (hI h (V 16) 12) s sd
    · rw [if_pos d]
      exact Or.inr ⟨by decide, Or.inr (by rw [← l79, d, rk])⟩
    · rw [if_neg d]
      refine Or.inl ⟨rfl, ?_⟩
      rintro (z | z)
      · exact n79 z
      · exact d (Int32.toInt_inj.mp (by rw [l79, z, rk]))
theorem ldr_78 (D : VD V) {ov : Nat → Prop} {ct : Bool} {K : Hp → Nat → Nat → Int32 → Int32 → Int32 → Int32 → Int32 → Option Hp} {s x3 v sd i st : Int32} (H : LOk L) (HM : MOk L M) (J : StR L st.toNatClampNeg) (i4 : 0 ≤ st.toInt) (is : 0 ≤ s.toInt) (sL : s.toInt < L 0 0 * L 1 0) (e3 : x3 = 0 ↔ ct = false) (isd : Rg 0 1 sd) : ∀ (f : Nat) {h : Hp} {x8 : Int32} {D0 : Nat → Nat → Int → Prop}, LdW V h L M ov → RwS L ov ct V h D0 → (∀ j t k, D0 j t k → j ≤ st.toNatClampNeg) → Rg 0 8 x8 → sX15_lead_78 F K f h (V 16) (V 13) s x3 v sd i st x8 = some o' → ∃ g, FrV V (wl wlx) h g ∧ RwS L ov ct V g (fun j t k => D0 j t k ∨ (j = st.toNatClampNeg ∧ (L 79 j = 0 ∨ L 79 j = rkF L s.toNatClampNeg sd.toInt) ∧ (∃ d : Nat, x8.toInt ≤ d ∧ d < 8 ∧ vOk (L 76 j) (L 77 j) (fbt (L 75 j) 2) d = true ∧ WkD L M j sd.toInt s.toNatClampNeg t d k) ∧ (ByT L ov ct j t ∨ GdT L M sd.toInt j t))) ∧ sX15_lead_127 F K g (V 16) (V 13) s x3 v sd i = some o' := by
  have z1 : (1 : Int32).toInt = 1 := rfl
  have z8 : (8 : Int32).toInt = 8 := rfl
  have cs := nc_i is
  intro f
  induction f with
  | zero => intro h x8 D0 _ _ _ _ e; exact absurd e (by rw [sX15_lead_78]; exact fun z => nomatch z)
  | succ f ih =>
    intro h x8 D0 W R bD i8 e
    have i80 := i8.1
    have i81 := i8.2
    have c8 := nc_i i80
    rw [sX15_lead_78] at e
    rcases br_s e with ⟨l, e⟩ | ⟨l, e⟩
    · have l := le_i l
      rw [z8] at l
      refine ⟨h, fv_0, rws_c R (fun j t k _ => ⟨fun z => Or.inl z, ?_⟩), e⟩
      rintro (z | ⟨_, _, ⟨d, a, b, _⟩, _⟩)
      · exact z
      · omega
    have l := nle_i l
    rw [z8] at l
    replace e := cl_s e; obtain ⟨o2, eo2, e⟩ := e
    obtain ⟨w2, f2⟩ := from_v H W.1 is sL eo2
    rw [w2] at e
    rcases br_s e with ⟨c, e⟩ | ⟨c, e⟩
    · refine ⟨h, fv_0, rws_c R (fun j t k _ => ⟨fun z => Or.inl z, ?_⟩), e⟩
      rintro (z | ⟨a, b, _⟩)
      · exact z
      · rcases f2 with ⟨_, y⟩ | ⟨y, _⟩
        · rw [a] at b; exact absurd b y
        · exact absurd c y
    replace e := cl_s e; obtain ⟨o4, eo4, e⟩ := e
    obtain ⟨l75, l76, l77, _⟩ := lw_75 W.1 st.toNatClampNeg
    obtain ⟨X, Y, w4, vx, vy, ok⟩ := hv_val W.1.1 ⟨by rw [l75]; exact J.1.1, by rw [l75]; exact J.1.2⟩ ⟨by rw [l76]; exact J.2.1.1, by rw [l76]; exact J.2.1.2⟩ ⟨by rw [l77]; exact J.2.2.1.1, by rw [l77]; exact J.2.2.1.2⟩ ⟨i80, by omega⟩ eo4
    rw [l75, l76, l77] at vx vy ok
    have A : FrV V (wl wlx) h o4.2 := by rw [w4]; exact fv_t (fv_w rfl) (fv_w rfl)
    have W4 := ldw_x D W A
    have R4 : RwS L ov ct V o4.2 D0 := rws_k R (fun i => by rw [w4, rI_a (vne D), rI_a (vne D)]) (fun i => by rw [w4, rI_a (vne D), rI_a (vne D)]) (fun i => by rw [w4, rI_a (vne D), rI_a (vne D)])
    have t8 : (x8 + (1 : Int32)).toInt = x8.toInt + 1 := by rw [ta (by rw [z1]; omega), z1]
    have nxt : ∀ {g : Hp}, FrV V (wl wlx) h g → RwS L ov ct V g (fun j t k => D0 j t k ∨ (j = st.toNatClampNeg ∧ (L 79 j = 0 ∨ L 79 j = rkF L s.toNatClampNeg sd.toInt) ∧ (vOk (L 76 j) (L 77 j) (fbt (L 75 j) 2) x8.toNatClampNeg = true ∧ WkD L M j sd.toInt s.toNatClampNeg t x8.toNatClampNeg k) ∧ (ByT L ov ct j t ∨ GdT L M sd.toInt j t))) → sX15_lead_121 F K (sX15_lead_78 F K f) g (V 16) (V 13) s x3 v sd i st x8 = some o' → ∃ g, FrV V (wl wlx) h g ∧ RwS L ov ct V g (fun j t k => D0 j t k ∨ (j = st.toNatClampNeg ∧ (L 79 j = 0 ∨ L 79 j = rkF L s.toNatClampNeg sd.toInt) ∧ (∃ d : Nat, x8.toInt ≤ d ∧ d < 8 ∧ vOk (L 76 j) (L 77 j) (fbt (L 75 j) 2) d = true ∧ WkD L M j sd.toInt s.toNatClampNeg t d k) ∧ (ByT L ov ct j t ∨ GdT L M sd.toInt j t))) ∧ sX15_lead_127 F K g (V 16) (V 13) s x3 v sd i = some o' := fun {g} G Rg' u => by
      unfold sX15_lead_121 at u
      obtain ⟨g', a, b, c⟩ := ih (ldw_x D W G) Rg' (fun j t k z => by
        rcases z with z | z
        · exact bD j t k z
        · rw [z.1]; exact Nat.le_refl _) ⟨by omega, by omega⟩ (nx_e u)
      refine ⟨g', fv_t G a, rws_c b (fun j t k _ => ?_), c⟩
      rw [t8]
      constructor
      · rintro ((z | ⟨a, b, ⟨c, d⟩, e⟩) | ⟨a, b, ⟨d, p, q, r⟩, e⟩)
        · exact Or.inl z
        · exact Or.inr ⟨a, b, ⟨x8.toNatClampNeg, by omega, by omega, c, d⟩, e⟩
        · exact Or.inr ⟨a, b, ⟨d, by omega, q, r⟩, e⟩
      · rintro (z | ⟨a, b, ⟨d, p, q, r⟩, e⟩)
        · exact Or.inl (Or.inl z)
        · by_cases y : d = x8.toNatClampNeg
          · rw [y] at r
            exact Or.inl (Or.inr ⟨a, b, r, e⟩)
          · exact Or.inr ⟨a, b, ⟨d, by omega, q, r⟩, e⟩
    rcases br_s e with ⟨c', e⟩ | ⟨c', e⟩
    · refine nxt A (rws_c R4 (fun j t k _ => ⟨fun z => Or.inl z, ?_⟩)) e
      rintro (z | ⟨a, _, ⟨b, _⟩, _⟩)
      · exact z
      · rcases ok with ⟨_, y⟩ | ⟨y, _⟩
        · rw [a, y] at b; exact absurd b (by decide)
        · rw [y] at c'; exact absurd c' (by decide)
    have okT : vOk (L 76 st.toNatClampNeg) (L 77 st.toNatClampNeg) (fbt (L 75 st.toNatClampNeg) 2) x8.toNatClampNeg = true := by
      rcases ok with ⟨y, _⟩ | ⟨_, y⟩
      · exact absurd y c'
      · exact y
    have fromT : L 79 st.toNatClampNeg = 0 ∨ L 79 st.toNatClampNeg = rkF L s.toNatClampNeg sd.toInt := by
      rcases f2 with ⟨y, _⟩ | ⟨_, y⟩
      · exact absurd y c
      · exact y
    replace e := cl_s e; obtain ⟨o6, eo6, e⟩ := e
    unfold sX15_leadBy at eo6
    have vr := v_rg (a := L 76 st.toNatClampNeg) (b := L 77 st.toNatClampNeg) (sd := sd.toInt) (fo := fbt (L 75 st.toNatClampNeg) 2) (d := x8.toNatClampNeg) J.2.1 J.2.2.1
    have nz := v_nz (sd := sd.toInt) (fo := fbt (L 75 st.toNatClampNeg) 2) (d := x8.toNatClampNeg) J.2.2.2.1
    rw [← vx, ← vy] at vr nz
    replace eo6 := ce_e W4.1.1.1 eo6
    replace eo6 := ce_e W4.1.1.2.2.2.1 eo6
    replace eo6 := gg_e eo6
    replace eo6 := nx_e eo6
    obtain ⟨r1, r2⟩ := lb_18 D (ct := ct) (X := X) (Y := Y) H HM J i4 is sL e3 (lw_75 W4.1 st.toNatClampNeg).1 isd ⟨vr.1.1, vr.1.2⟩ ⟨vr.2.1, vr.2.2⟩ nz F W4 (by rw [w4, rI_o (by decide), rI_s]) (by rw [w4, rI_s]) R4 bD (x7 := 0) (x8 := 1) ⟨by decide, by decide⟩ rfl eo6
    refine nxt (fv_t A (sub_l r1 (by decide))) (rws_c r2 (fun j t k _ => ?_)) e
    constructor
    · rintro (z | ⟨a, b, c, d, g, p, q⟩)
      · exact Or.inl z
      · refine Or.inr ⟨a, by rw [a]; exact fromT, ⟨by rw [a]; exact okT, ?_⟩, q⟩
        rw [a] at c p ⊢
        rw [z1] at b
        unfold WkD
        rw [← vx, ← vy, cs]
        exact ⟨b, c, d, g, p⟩
    · rintro (z | ⟨a, _, ⟨_, b⟩, q⟩)
      · exact Or.inl z
      · rw [a] at b
        unfold WkD at b
        rw [← vx, ← vy, cs] at b
        obtain ⟨b1, b2, b3, b4, b5⟩ := b
        exact Or.inr ⟨a, by rw [z1]; exact b1, by rw [a]; exact b2, b3, b4, by rw [a]; exact b5, q⟩
/-- over all STEPS -/
theorem ldr_44 (D : VD V) {ov : Nat → Prop} {ct : Bool} {s x3 v sd : Int32} (H : LOk L) (HM : MOk L M) (is : 0 ≤ s.toInt) (sL : s.toInt < L 0 0 * L 1 0) (e3 : x3 = 0 ↔ ct = false) (iv : Rg 1 24 v) (vL : v.toInt ≤ 2 * L 2 0) (esd : sd.toInt = (v.toInt - 1) % 2) : ∀ (f : Nat) {h : Hp} {x6 : Int32}, LdW V h L M ov → 0 ≤ x6.toInt → x6.toInt ≤ L 74 (mnO v.toInt) → RwS L ov ct V h (fun j t k => ∃ i : Nat, i < x6.toNatClampNeg ∧ j = 8 * mnO v.toInt + i ∧ LdG L M ov ct sd.toInt j s.toNatClampNeg t k) → sX15_lead_44 F f h (V 16) (V 13) s x3 v sd x6 = some o' → FrV V (wl wlx) h o' ∧ RwS L ov ct V o' (fun j t k => ∃ i : Nat, (i : Int) < L 74 (mnO v.toInt) ∧ j = 8 * mnO v.toInt + i ∧ LdG L M ov ct sd.toInt j s.toNatClampNeg t k) := by
  have z1 : (1 : Int32).toInt = 1 := rfl
  have z0 : (0 : Int32).toInt = 0 := rfl
  have z8 : (8 : Int32).toInt = 8 := rfl
  have cs := nc_i is
  have v0 := iv.1
  have v1 := iv.2
  have L2 := H.2.2.1
  obtain ⟨mL, mE⟩ := mno_lt (L := L) (v := v.toInt) (by omega) vL
  obtain ⟨H74, Hst⟩ := H.2.2.2 _ mL
  have tv : (v - (1 : Int32)).toInt = v.toInt - 1 := by rw [ts (by rw [z1]; omega), z1]
  have sh : ((v - (1 : Int32)) >>> ((1 : Int32) &&& 31)).toInt = ((mnO v.toInt : Nat) : Int) := by
    rw [shr_i 1 (by decide), tv, mE]
    rfl
  have cm : ((v - (1 : Int32)) >>> ((1 : Int32) &&& 31)).toNatClampNeg = mnO v.toInt := by
    have := nc_i (x := (v - (1 : Int32)) >>> ((1 : Int32) &&& 31)) (by omega)
    omega
  have isd : Rg 0 1 sd := ⟨by omega, by omega⟩
  intro f
  induction f with
  | zero => intro h x6 _ _ _ _ e; exact absurd e (by rw [sX15_lead_44]; exact fun z => nomatch z)
  | succ f ih =>
    intro h x6 W a6 b6 R e
    have c6 := nc_i a6
    rw [sX15_lead_44] at e
    unfold sX15_manOf at e
    replace e := ce_e W.1.1.1 e
    replace e := ce_e W.1.1.2.2.1 e
    replace e := cl_s e; obtain ⟨o3, eo3, e⟩ := e
    rw [so_e eo3] at e
    replace e := gg_e e
    have l74 := (lw_75 W.1 (mnO v.toInt)).2.2.2.2.2
    dsimp only at e
    rw [cm] at e
    rcases br_s e with ⟨l, e⟩ | ⟨l, e⟩
    · have l := le_i l
      rw [l74] at l
      rw [so_e e]
      refine ⟨fv_0, rws_c R (fun j t k _ => ⟨?_, ?_⟩)⟩
      · rintro ⟨i, a, b⟩
        exact ⟨i, by omega, b⟩
      · rintro ⟨i, a, b⟩
        exact ⟨i, by omega, b⟩
    have l := nle_i l
    rw [l74] at l
    replace e := cl_s e; obtain ⟨o6, eo6, e⟩ := e
    rw [so_e eo6] at e
    replace e := nm_s e; obtain ⟨v7, u7, e⟩ := e
    dsimp only at u7 e
    have t8 : ((8 : Int32) * ((v - (1 : Int32)) >>> ((1 : Int32) &&& 31))).toInt = 8 * ((mnO v.toInt : Nat) : Int) := by rw [tm (by rw [z8, sh]; omega), z8, sh]
    have t7 : v7.toInt = 8 * ((mnO v.toInt : Nat) : Int) + x6.toInt := by rw [u7, ta (by rw [t8]; omega), t8]
    have c7 : v7.toNatClampNeg = 8 * mnO v.toInt + x6.toNatClampNeg := by
      have := nc_i (x := v7) (by omega)
      omega
    have J : StR L v7.toNatClampNeg := by
      rw [c7]
      exact Hst _ (by omega)
    obtain ⟨g, A, Rg', e⟩ := ldr_78 D H HM J (by omega) is sL e3 isd F W R (fun j t k z => by
      obtain ⟨i, a, b, _⟩ := z
      omega) ⟨by decide, by decide⟩ e
    unfold sX15_lead_127 at e
    have t6 : (x6 + (1 : Int32)).toInt = x6.toInt + 1 := by rw [ta (by rw [z1]; omega), z1]
    have n6 : (x6 + (1 : Int32)).toNatClampNeg = x6.toNatClampNeg + 1 := by
      have := nc_i (x := x6 + (1 : Int32)) (by omega)
      omega
    obtain ⟨r1, r2⟩ := ih (ldw_x D W A) (by omega) (by omega) (rws_c Rg' (fun j t k _ => by
      rw [n6]
      constructor
      · rintro (⟨i, a, b⟩ | ⟨a, b, ⟨d, _, p, _, q⟩, r⟩)
        · exact ⟨i, by omega, b⟩
        · exact ⟨x6.toNatClampNeg, by omega, by rw [a, c7], led_d.mpr ⟨b, d, p, q⟩, r⟩
      · rintro ⟨i, a, b, c, d⟩
        by_cases y : i = x6.toNatClampNeg
        · have ej : j = v7.toNatClampNeg := by rw [b, y, c7]
          obtain ⟨p, d', q, r⟩ := led_d.mp c
          have J' : StR L j := by rw [ej]; exact J
          obtain ⟨d2, q2, ok2, r2⟩ := wkd_ok J' q r
          exact Or.inr ⟨ej, p, ⟨d2, by rw [z0]; omega, q2, ok2, r2⟩, d⟩
        · exact Or.inl ⟨i, by omega, b, c, d⟩)) (nx_e e)
    exact ⟨fv_t A r1, r2⟩
/-- nothing is led to yet -/
theorem ldr_18 (D : VD V) {ov : Nat → Prop} {ct : Bool} {s x3 v sd : Int32} (H : LOk L) (HM : MOk L M) (is : 0 ≤ s.toInt) (sL : s.toInt < L 0 0 * L 1 0) (e3 : x3 = 0 ↔ ct = false) (iv : Rg 1 24 v) (vL : v.toInt ≤ 2 * L 2 0) (esd : sd.toInt = (v.toInt - 1) % 2) : ∀ (f : Nat) {h : Hp} {x6 : Int32}, LdW V h L M ov → 0 ≤ x6.toInt → (∀ t : Nat, (t : Int) < x6.toInt → hI h (V 86) t = (-1 : Int32)) → sX15_lead_18 F f h (V 16) (V 13) s x3 v sd x6 = some o' → FrV V (wl wlx) h o' ∧ RwS L ov ct V o' (fun j t k => ∃ i : Nat, (i : Int) < L 74 (mnO v.toInt) ∧ j = 8 * mnO v.toInt + i ∧ LdG L M ov ct sd.toInt j s.toNatClampNeg t k) := by
  have z1 : (1 : Int32).toInt = 1 := rfl
  have sq := sq_64 H
  have v0 := iv.1
  obtain ⟨mL, mE⟩ := mno_lt (L := L) (v := v.toInt) (by omega) vL
  obtain ⟨H74, Hst⟩ := H.2.2.2 _ mL
  intro f
  induction f with
  | zero => intro h x6 _ _ _ e; exact absurd e (by rw [sX15_lead_18]; exact fun z => nomatch z)
  | succ f ih =>
    intro h x6 W a6 R e
    have c6 := nc_i a6
    rw [sX15_lead_18] at e
    have g4 := W.1.2.1.2.2.2
    rcases br_s e with ⟨l, e⟩ | ⟨l, e⟩
    · have l := le_i l
      rw [g4] at l
      have n0 : (0 : Int32).toNatClampNeg = 0 := rfl
      have z0 : (0 : Int32).toInt = 0 := rfl
      exact ldr_44 D H HM is sL e3 iv vL esd F W (by decide) (by rw [z0]; omega) (fun t ht => Or.inl ⟨R t (by omega), fun j k z => by
        obtain ⟨i, a, _⟩ := z
        rw [n0] at a
        omega⟩) e
    have l := nle_i l
    rw [g4] at l
    replace e := ce_e W.2.1.1 e
    replace e := gg_e e
    replace e := nm_s e; obtain ⟨h4, u4, e⟩ := e
    have A : FrV V (wl wlx) h h4 := by rw [u4]; exact fv_w (wl_9 (by decide))
    have t6 : (x6 + (1 : Int32)).toInt = x6.toInt + 1 := by rw [ta (by rw [z1]; omega), z1]
    obtain ⟨r1, r2⟩ := ih (ldw_x D W A) (by omega) (fun t ht => by
      rw [u4]
      by_cases y : t = x6.toNatClampNeg
      · rw [y, rI_s]
      · rw [rI_o y]; exact R t (by omega)) (nx_e e)
    exact ⟨fv_t A r1, r2⟩
/-- lead: by every square the first STEP that leads there -/
theorem ld_r (D : VD V) {ov : Nat → Prop} {ct : Bool} {h : Hp} {s x3 : Int32} (H : LOk L) (HM : MOk L M) (W : LdW V h L M ov) (is : 0 ≤ s.toInt) (sL : s.toInt < L 0 0 * L 1 0) (e3 : x3 = 0 ↔ ct = false) (ms : 0 < M s.toNatClampNeg) (e : sX15_lead F h (V 16) (V 13) s x3 = some o') : FrV V (wl wlx) h o' ∧ RwS L ov ct V o' (fun j t k => ∃ i : Nat, (i : Int) < L 74 (mnO (M s.toNatClampNeg)) ∧ j = 8 * mnO (M s.toNatClampNeg) + i ∧ LdG L M ov ct ((M s.toNatClampNeg - 1) % 2) j s.toNatClampNeg t k) := by
  have z1 : (1 : Int32).toInt = 1 := rfl
  have z0 : (0 : Int32).toInt = 0 := rfl
  have sq := sq_64 H
  have L2 := H.2.2.1
  have cs := nc_i is
  have hm := HM s.toNatClampNeg (by omega)
  unfold sX15_lead sX15_sideOf at e
  replace e := ce_e W.1.2.2.1 e
  replace e := gg_e e
  replace e := nm_s e; obtain ⟨v3, u3, e⟩ := e
  have mv : v3.toInt = M s.toNatClampNeg := by rw [u3]; exact W.1.2.2.2 _ (by omega)
  have vL := (hm.2 ms).2
  replace e := cl_s e; obtain ⟨o4, eo4, e⟩ := e
  rw [so_e eo4] at e
  have tv : (v3 - (1 : Int32)).toInt = v3.toInt - 1 := by rw [ts (by rw [z1]; omega), z1]
  have sdv : ((v3 - (1 : Int32)) &&& (1 : Int32)).toInt = (v3.toInt - 1) % 2 := by rw [and1_i (by omega), tv]
  obtain ⟨r1, r2⟩ := ldr_18 (ct := ct) D H HM is sL e3 (v := v3) ⟨by omega, by omega⟩ (by omega) sdv F W (by decide) (fun t ht => by rw [z0] at ht; omega) e
  rw [sdv, mv] at r2
  exact ⟨r1, r2⟩
end
end
section
/-! packed moves as numbers -/
def PkI (t s m b a k p : Int) : Int := t + 64 * s + 4096 * m + 65536 * b + 1048576 * a + 16777216 * k + 67108864 * p
def PkR (t s m b a k p : Int) : Prop := (0 ≤ t ∧ t < 64) ∧ (0 ≤ s ∧ s < 64) ∧ (0 ≤ m ∧ m < 16) ∧ (0 ≤ b ∧ b < 16) ∧ (0 ≤ a ∧ a < 16) ∧ (0 ≤ k ∧ k < 4) ∧ (0 ≤ p ∧ p < 8)
/-- x is that move -/
def PkM (x : Int32) (t s m b a k p : Int) : Prop := PkR t s m b a k p ∧ x.toInt = PkI t s m b a k p
theorem pk_fd {x : Int32} {t s m b a k p : Int} (P : PkM x t s m b a k p) : (x &&& (63 : Int32)).toInt = t ∧ ((x >>> ((6 : Int32) &&& 31)) &&& (63 : Int32)).toInt = s ∧ ((x >>> ((12 : Int32) &&& 31)) &&& (15 : Int32)).toInt = m ∧ ((x >>> ((16 : Int32) &&& 31)) &&& (15 : Int32)).toInt = b ∧ ((x >>> ((20 : Int32) &&& 31)) &&& (15 : Int32)).toInt = a ∧ ((x >>> ((24 : Int32) &&& 31)) &&& (3 : Int32)).toInt = k ∧ ((x >>> ((26 : Int32) &&& 31)) &&& (7 : Int32)).toInt = p := by
  obtain ⟨⟨⟨t0, t1⟩, ⟨s0, s1⟩, ⟨m0, m1⟩, ⟨b0, b1⟩, ⟨a0, a1⟩, ⟨k0, k1⟩, ⟨p0, p1⟩⟩, e⟩ := P
  unfold PkI at e
  have s6 : (x >>> ((6 : Int32) &&& 31)).toInt = x.toInt / 64 := shr_i 6 (by decide)
  have s12 : (x >>> ((12 : Int32) &&& 31)).toInt = x.toInt / 4096 := shr_i 12 (by decide)
  have s16 : (x >>> ((16 : Int32) &&& 31)).toInt = x.toInt / 65536 := shr_i 16 (by decide)
  have s20' : (x >>> ((20 : Int32) &&& 31)).toInt = x.toInt / 1048576 := shr_i 20 (by decide)
  have s24 : (x >>> ((24 : Int32) &&& 31)).toInt = x.toInt / 16777216 := shr_i 24 (by decide)
  have s26' : (x >>> ((26 : Int32) &&& 31)).toInt = x.toInt / 67108864 := shr_i 26 (by decide)
  have c6 : ((2 ^ 6 : Nat) : Int) = 64 := by decide
  have c4 : ((2 ^ 4 : Nat) : Int) = 16 := by decide
  have c3 : ((2 ^ 3 : Nat) : Int) = 8 := by decide
  have c2 : ((2 ^ 2 : Nat) : Int) = 4 := by decide
  refine ⟨?_, ?_, ?_, ?_, ?_, ?_, ?_⟩
  · rw [and_i (m := 6) (by omega) (by decide) rfl, c6]; omega
  · rw [and_i (m := 6) (by rw [s6]; omega) (by decide) rfl, s6, c6]; omega
  · rw [and_i (m := 4) (by rw [s12]; omega) (by decide) rfl, s12, c4]; omega
  · rw [and_i (m := 4) (by rw [s16]; omega) (by decide) rfl, s16, c4]; omega
  · rw [and_i (m := 4) (by rw [s20']; omega) (by decide) rfl, s20', c4]; omega
  · rw [and_i (m := 2) (by rw [s24]; omega) (by decide) rfl, s24, c2]; omega
  · rw [and_i (m := 3) (by rw [s26']; omega) (by decide) rfl, s26', c3]; omega
theorem pk_plain {h : Hp} {x0 x1 x2 x3 : Int32} {o : Int32 × Hp} (i0 : Rg 0 63 x0) (i1 : Rg 0 63 x1) (i2 : Rg 0 11 x2) (i3 : Rg 0 3 x3) (e : sX5_plainMove h x0 x1 x2 x3 = some o) : o.2 = h ∧ PkM o.1 x1.toInt x0.toInt x2.toInt 15 15 x3.toInt 0 := by
  unfold sX5_plainMove at e
  rw [so_e e]
  refine ⟨rfl, ⟨⟨i1.1, by have := i1.2; omega⟩, ⟨i0.1, by have := i0.2; omega⟩, ⟨i2.1, by have := i2.2; omega⟩, by omega, by omega, ⟨i3.1, by have := i3.2; omega⟩, by omega⟩, ?_⟩
  have a0 := i0.1
  have b0 := i0.2
  have a1 := i1.1
  have b1 := i1.2
  have a2 := i2.1
  have b2 := i2.2
  have a3 := i3.1
  have b3 := i3.2
  have c6 : ((2 ^ 6 : Nat) : Int) = 64 := by decide
  have c12 : ((2 ^ 12 : Nat) : Int) = 4096 := by decide
  have c16 : ((2 ^ 16 : Nat) : Int) = 65536 := by decide
  have c20 : ((2 ^ 20 : Nat) : Int) = 1048576 := by decide
  have c24 : ((2 ^ 24 : Nat) : Int) = 16777216 := by decide
  have s0 : (x0 <<< ((6 : Int32) &&& 31)).toInt = x0.toInt * 64 := by rw [shl_i (m := 6) (by decide) a0 (by rw [c6]; omega), c6]
  have s2 : (x2 <<< ((12 : Int32) &&& 31)).toInt = x2.toInt * 4096 := by rw [shl_i (m := 12) (by decide) a2 (by rw [c12]; omega), c12]
  have s3 : (x3 <<< ((24 : Int32) &&& 31)).toInt = x3.toInt * 16777216 := by rw [shl_i (m := 24) (by decide) a3 (by rw [c24]; omega), c24]
  have k1 : (983040 : Int32).toInt = 15 * 65536 := rfl
  have k2 : (15728640 : Int32).toInt = 15 * 1048576 := rfl
  have o1 : (x1 ||| (x0 <<< ((6 : Int32) &&& 31))).toInt = x1.toInt + x0.toInt * 64 := by rw [or_i (m := 6) (z := x0.toInt) a1 (by rw [c6]; omega) a0 (by rw [s0, c6]) (by rw [s0]; omega), s0]
  have o2 : ((x1 ||| (x0 <<< ((6 : Int32) &&& 31))) ||| (x2 <<< ((12 : Int32) &&& 31))).toInt = x1.toInt + x0.toInt * 64 + x2.toInt * 4096 := by rw [or_i (m := 12) (z := x2.toInt) (by rw [o1]; omega) (by rw [o1, c12]; omega) a2 (by rw [s2, c12]) (by rw [o1, s2]; omega), o1, s2]
  have o3 : (((x1 ||| (x0 <<< ((6 : Int32) &&& 31))) ||| (x2 <<< ((12 : Int32) &&& 31))) ||| (983040 : Int32)).toInt = x1.toInt + x0.toInt * 64 + x2.toInt * 4096 + 15 * 65536 := by rw [or_i (m := 16) (z := 15) (by rw [o2]; omega) (by rw [o2, c16]; omega) (by decide) (by rw [k1, c16]) (by rw [o2, k1]; omega), o2, k1]
  have o4 : ((((x1 ||| (x0 <<< ((6 : Int32) &&& 31))) ||| (x2 <<< ((12 : Int32) &&& 31))) ||| (983040 : Int32)) ||| (15728640 : Int32)).toInt = x1.toInt + x0.toInt * 64 + x2.toInt * 4096 + 15 * 65536 + 15 * 1048576 := by rw [or_i (m := 20) (z := 15) (by rw [o3]; omega) (by rw [o3, c20]; omega) (by decide) (by rw [k2, c20]) (by rw [o3, k2]; omega), o3, k2]
  show (_ ||| _ : Int32).toInt = _
  rw [or_i (m := 24) (z := x3.toInt) (by rw [o4]; omega) (by rw [o4, c24]; omega) a3 (by rw [s3, c24]) (by rw [o4, s3]; omega), o4, s3]
  unfold PkI
  omega
/-- bits taken out of a number -/
theorem nat_clr {X p : Nat} (hp : p + 4 ≤ 31) (hX : X < 2 ^ 31) : X &&& (2 ^ 32 - 1 - 15 * 2 ^ p) = X % 2 ^ p + X / 2 ^ (p + 4) * 2 ^ (p + 4) := by
  apply Nat.eq_of_testBit_eq
  intro i
  have e : X % 2 ^ p + X / 2 ^ (p + 4) * 2 ^ (p + 4) = 2 ^ (p + 4) * (X / 2 ^ (p + 4)) + X % 2 ^ p := by rw [Nat.mul_comm, Nat.add_comm]
  have lt : X % 2 ^ p < 2 ^ (p + 4) := Nat.lt_of_lt_of_le (Nat.mod_lt _ (Nat.two_pow_pos p)) (Nat.pow_le_pow_right (by decide) (by omega))
  have m : 2 ^ 32 - 1 - 15 * 2 ^ p = 2 ^ (p + 4) * (2 ^ (28 - p) - 1) + (2 ^ p - 1) := by
    have h1 : 2 ^ 32 = 2 ^ (p + 4) * 2 ^ (28 - p) := by rw [← Nat.pow_add]; congr 1; omega
    have h2 : 2 ^ (p + 4) = 16 * 2 ^ p := by rw [Nat.pow_add, Nat.mul_comm]
    have h3 := Nat.two_pow_pos (28 - p)
    rw [h1, Nat.mul_sub, Nat.mul_one, h2]
    have h4 : 16 * 2 ^ p ≤ 16 * 2 ^ p * 2 ^ (28 - p) := Nat.le_mul_of_pos_right _ h3
    have h5 := Nat.two_pow_pos p
    omega
  have ml : 2 ^ p - 1 < 2 ^ (p + 4) := Nat.lt_of_lt_of_le (by have := Nat.two_pow_pos p; omega) (Nat.pow_le_pow_right (by decide) (show p ≤ p + 4 by omega))
  rw [e, Nat.testBit_and, m, Nat.testBit_two_pow_mul_add _ lt, Nat.testBit_two_pow_mul_add _ ml]
  by_cases c : i < p + 4
  · rw [if_pos c, if_pos c, Nat.testBit_two_pow_sub_one, Nat.testBit_mod_two_pow, Bool.and_comm]
  · rw [if_neg c, if_neg c, Nat.testBit_two_pow_sub_one, Nat.testBit_div_two_pow]
    by_cases d : i - (p + 4) < 28 - p
    · rw [decide_eq_true d, Bool.and_true]
      congr 1
      omega
    · rw [decide_eq_false d, Bool.and_false]
      symm
      rw [show i - (p + 4) + (p + 4) = i by omega]
      exact Nat.testBit_lt_two_pow (Nat.lt_of_lt_of_le hX (Nat.pow_le_pow_right (by decide) (by omega)))
theorem clr_i {x y : Int32} {p : Nat} (hp : p + 4 ≤ 31) (x0 : 0 ≤ x.toInt) (ey : y.toBitVec.toNat = 2 ^ 32 - 1 - 15 * 2 ^ p) : (x &&& y).toInt = x.toInt % ((2 ^ p : Nat) : Int) + x.toInt / ((2 ^ (p + 4) : Nat) : Int) * ((2 ^ (p + 4) : Nat) : Int) := by
  have xn : (x.toBitVec.toNat : Int) = x.toInt ∧ x.toBitVec.toNat < 2 ^ 31 := by
    have h1 : x.toInt = x.toBitVec.toInt := rfl
    have h2 := BitVec.toInt_eq_toNat_cond x.toBitVec
    have h3 := x.toBitVec.isLt
    rw [h1] at x0
    rw [h1]
    by_cases c : 2 * x.toBitVec.toNat < 2 ^ 32
    · rw [if_pos c] at h2
      omega
    · rw [if_neg c] at h2
      omega
  have v : (x &&& y).toBitVec.toNat = x.toBitVec.toNat % 2 ^ p + x.toBitVec.toNat / 2 ^ (p + 4) * 2 ^ (p + 4) := by
    rw [Int32.toBitVec_and, BitVec.toNat_and, ey, nat_clr hp xn.2]
  have le : x.toBitVec.toNat % 2 ^ p + x.toBitVec.toNat / 2 ^ (p + 4) * 2 ^ (p + 4) ≤ x.toBitVec.toNat := by
    rw [← nat_clr hp xn.2]
    exact Nat.and_le_left
  show (x &&& y).toBitVec.toInt = _
  rw [BitVec.toInt_eq_toNat_of_lt (by rw [v]; omega), v, ← xn.1]
  rw [Int.natCast_add, Int.natCast_mul, Int.natCast_emod, Int.natCast_ediv]
theorem nn_i {x : Int32} (x0 : 0 ≤ x.toInt) : (x.toBitVec.toNat : Int) = x.toInt ∧ x.toBitVec.toNat < 2 ^ 31 := by
  have h1 : x.toInt = x.toBitVec.toInt := rfl
  have h2 := BitVec.toInt_eq_toNat_cond x.toBitVec
  have h3 := x.toBitVec.isLt
  rw [h1] at x0
  rw [h1]
  by_cases c : 2 * x.toBitVec.toNat < 2 ^ 32
  · rw [if_pos c] at h2
    omega
  · rw [if_neg c] at h2
    omega
/-- a field laid into a gap -/
theorem or_f {x y : Int32} {p : Nat} {lo H z : Int} (ex : x.toInt = lo + H * ((2 ^ (p + 4) : Nat) : Int)) (l0 : 0 ≤ lo) (l1 : lo < ((2 ^ p : Nat) : Int)) (H0 : 0 ≤ H) (ey : y.toInt = z * ((2 ^ p : Nat) : Int)) (z0 : 0 ≤ z) (z1 : z < 16) (sm : x.toInt + y.toInt < 2147483648) : (x ||| y).toInt = x.toInt + y.toInt := by
  have pp : (0 : Int) < ((2 ^ p : Nat) : Int) := by have := Nat.two_pow_pos p; omega
  have y0 : 0 ≤ y.toInt := by rw [ey]; exact Int.mul_nonneg z0 (by omega)
  have x0 : 0 ≤ x.toInt := by
    have : 0 ≤ H * ((2 ^ (p + 4) : Nat) : Int) := Int.mul_nonneg H0 (Int.natCast_nonneg _)
    omega
  obtain ⟨xn, xb⟩ := nn_i x0
  obtain ⟨yn, yb⟩ := nn_i y0
  obtain ⟨l, hl⟩ : ∃ l : Nat, lo = (l : Int) := ⟨lo.toNat, by omega⟩
  obtain ⟨g, hg⟩ : ∃ g : Nat, H = (g : Int) := ⟨H.toNat, by omega⟩
  obtain ⟨w, hw⟩ : ∃ w : Nat, z = (w : Int) := ⟨z.toNat, by omega⟩
  have X : x.toBitVec.toNat = 2 ^ (p + 4) * g + l := by
    have : ((2 ^ (p + 4) * g + l : Nat) : Int) = x.toInt := by
      rw [ex, hl, hg, Int.natCast_add, Int.natCast_mul, Int.mul_comm]; omega
    omega
  have Y : y.toBitVec.toNat = 2 ^ p * w := by
    have : ((2 ^ p * w : Nat) : Int) = y.toInt := by
      rw [ey, hw, Int.natCast_mul, Int.mul_comm]
    omega
  have ll : l < 2 ^ p := by omega
  have p4 : 2 ^ (p + 4) = 2 ^ p * 16 := by rw [Nat.pow_add]
  have wl' : 2 ^ p * w + l < 2 ^ (p + 4) := by
    have : 2 ^ p * w ≤ 2 ^ p * 15 := Nat.mul_le_mul_left _ (by omega)
    omega
  have ll' : l < 2 ^ (p + 4) := by omega
  have v : (x ||| y).toBitVec.toNat = x.toBitVec.toNat + y.toBitVec.toNat := by
    rw [Int32.toBitVec_or, BitVec.toNat_or, X, Y, Nat.two_pow_add_eq_or_of_lt ll', Nat.or_assoc, Nat.or_comm l, ← Nat.two_pow_add_eq_or_of_lt ll, ← Nat.two_pow_add_eq_or_of_lt wl', ← Nat.two_pow_add_eq_or_of_lt ll']
    omega
  show (x ||| y).toBitVec.toInt = _
  rw [BitVec.toInt_eq_toNat_of_lt (by rw [v]; omega), v, Int.natCast_add, xn, yn]
section
variable {h : Hp} {x y : Int32} {t s m b a k p : Int} {o : Int32 × Hp}
theorem pk_taken (P : PkM x t s m b a k p) (iy : Rg 0 15 y) : PkM ((x &&& (-15728641 : Int32)) ||| (y <<< ((20 : Int32) &&& 31))) t s m b y.toInt k p := by
  obtain ⟨⟨⟨t0, t1⟩, ⟨s0, s1⟩, ⟨m0, m1⟩, ⟨b0, b1⟩, ⟨a0, a1⟩, ⟨k0, k1⟩, ⟨p0, p1⟩⟩, e⟩ := P
  have y0 := iy.1
  have y1 := iy.2
  unfold PkI at e
  have c20 : ((2 ^ 20 : Nat) : Int) = 1048576 := by decide
  have c24 : ((2 ^ (20 + 4) : Nat) : Int) = 16777216 := by decide
  have cl := clr_i (x := x) (y := (-15728641 : Int32)) (p := 20) (by decide) (by omega) (by decide)
  rw [c20, c24] at cl
  have v : (x &&& (-15728641 : Int32)).toInt = (t + 64 * s + 4096 * m + 65536 * b) + (k + 4 * p) * 16777216 := by rw [cl]; omega
  have sy : (y <<< ((20 : Int32) &&& 31)).toInt = y.toInt * 1048576 := by rw [shl_i (m := 20) (by decide) y0 (by rw [c20]; omega), c20]
  refine ⟨⟨⟨t0, t1⟩, ⟨s0, s1⟩, ⟨m0, m1⟩, ⟨b0, b1⟩, ⟨y0, by omega⟩, ⟨k0, k1⟩, ⟨p0, p1⟩⟩, ?_⟩
  rw [or_f (p := 20) (lo := t + 64 * s + 4096 * m + 65536 * b) (H := k + 4 * p) (z := y.toInt) (by rw [v, c24]) (by omega) (by rw [c20]; omega) (by omega) (by rw [sy, c20]) y0 (by omega) (by rw [v, sy]; omega), v, sy]
  unfold PkI
  omega
theorem pk_become (P : PkM x t s m b a k p) (iy : Rg 0 15 y) (e' : sX5_becoming h x y = some o) : o.2 = h ∧ PkM o.1 t s m y.toInt a k p := by
  unfold sX5_becoming at e'
  rw [so_e e']
  refine ⟨rfl, ?_⟩
  obtain ⟨⟨⟨t0, t1⟩, ⟨s0, s1⟩, ⟨m0, m1⟩, ⟨b0, b1⟩, ⟨a0, a1⟩, ⟨k0, k1⟩, ⟨p0, p1⟩⟩, e⟩ := P
  have y0 := iy.1
  have y1 := iy.2
  unfold PkI at e
  have c16 : ((2 ^ 16 : Nat) : Int) = 65536 := by decide
  have c20 : ((2 ^ (16 + 4) : Nat) : Int) = 1048576 := by decide
  have cl := clr_i (x := x) (y := (-983041 : Int32)) (p := 16) (by decide) (by omega) (by decide)
  rw [c16, c20] at cl
  have v : (x &&& (-983041 : Int32)).toInt = (t + 64 * s + 4096 * m) + (a + 16 * k + 64 * p) * 1048576 := by rw [cl]; omega
  have sy : (y <<< ((16 : Int32) &&& 31)).toInt = y.toInt * 65536 := by rw [shl_i (m := 16) (by decide) y0 (by rw [c16]; omega), c16]
  refine ⟨⟨⟨t0, t1⟩, ⟨s0, s1⟩, ⟨m0, m1⟩, ⟨y0, by omega⟩, ⟨a0, a1⟩, ⟨k0, k1⟩, ⟨p0, p1⟩⟩, ?_⟩
  show ((x &&& (-983041 : Int32)) ||| (y <<< ((16 : Int32) &&& 31))).toInt = _
  rw [or_f (p := 16) (lo := t + 64 * s + 4096 * m) (H := a + 16 * k + 64 * p) (z := y.toInt) (by rw [v, c20]) (by omega) (by rw [c16]; omega) (by omega) (by rw [sy, c16]) y0 (by omega) (by rw [v, sy]; omega), v, sy]
  unfold PkI
  omega
theorem pk_pass (P : PkM x t s m b a k 0) (iy : Rg 0 7 y) : PkM (x ||| (y <<< ((26 : Int32) &&& 31))) t s m b a k y.toInt := by
  obtain ⟨⟨⟨t0, t1⟩, ⟨s0, s1⟩, ⟨m0, m1⟩, ⟨b0, b1⟩, ⟨a0, a1⟩, ⟨k0, k1⟩, _⟩, e⟩ := P
  have y0 := iy.1
  have y1 := iy.2
  unfold PkI at e
  have c26 : ((2 ^ 26 : Nat) : Int) = 67108864 := by decide
  have sy : (y <<< ((26 : Int32) &&& 31)).toInt = y.toInt * 67108864 := by rw [shl_i (m := 26) (by decide) y0 (by rw [c26]; omega), c26]
  refine ⟨⟨⟨t0, t1⟩, ⟨s0, s1⟩, ⟨m0, m1⟩, ⟨b0, b1⟩, ⟨a0, a1⟩, ⟨k0, k1⟩, ⟨y0, by omega⟩⟩, ?_⟩
  rw [or_i (m := 26) (z := y.toInt) (by omega) (by rw [c26]; omega) y0 (by rw [sy, c26]) (by rw [sy]; omega), sy]
  unfold PkI
  omega
end
end
