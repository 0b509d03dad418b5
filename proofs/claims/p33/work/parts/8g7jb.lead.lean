/-! the reference: where a man is led -/
def GdT (L : Nat → Nat → Int) (M : Nat → Int) (sd : Int) (j t : Nat) : Prop := (0 < M t ∧ ¬ (M t - 1) % 2 = sd ∧ fbt (L 75 j) 0 = false) ∨ (¬ 0 < M t ∧ fbt (L 75 j) 1 = false)
def ByT (L : Nat → Nat → Int) (ov : Nat → Prop) (ct : Bool) (j t : Nat) : Prop := ct = true ∧ fbt (L 75 j) 5 = true ∧ ov t
/-- STEP j leads from s to t, and may end there -/
def LdG (L : Nat → Nat → Int) (M : Nat → Int) (ov : Nat → Prop) (ct : Bool) (sd : Int) (j s t : Nat) (k : Int) : Prop := Led L M j sd s t k ∧ (ByT L ov ct j t ∨ GdT L M sd j t)
/-- squares gone over -/
def OvR (V : Nat → Nat) (h : Hp) (t : Nat) : Prop := ∃ k : Nat, 1 ≤ k ∧ (k : Int) < (hI h (V 13) 3).toInt ∧ (hI h (V 63) k).toInt = (t : Int)
/-- rows of the leading: by D, the leads that were seen -/
def RwS (L : Nat → Nat → Int) (ov : Nat → Prop) (ct : Bool) (V : Nat → Nat) (h : Hp) (D : Nat → Nat → Int → Prop) : Prop := ∀ t : Nat, (t : Int) < L 0 0 * L 1 0 → (hI h (V 86) t = (-1 : Int32) ∧ ∀ j k, ¬ D j t k) ∨ ∃ (j : Nat) (k : Int), (hI h (V 86) t).toInt = (j : Int) ∧ (hI h (V 87) t).toInt = k ∧ ((hI h (V 88) t = 0 ∧ ¬ ByT L ov ct j t) ∨ (hI h (V 88) t = 1 ∧ ByT L ov ct j t)) ∧ D j t k ∧ ∀ j' k', D j' t k' → j ≤ j'
theorem rws_c {L : Nat → Nat → Int} {ov : Nat → Prop} {ct : Bool} {V : Nat → Nat} {h : Hp} {D D' : Nat → Nat → Int → Prop} (R : RwS L ov ct V h D) (c : ∀ (j t : Nat) (k : Int), (t : Int) < L 0 0 * L 1 0 → (D j t k ↔ D' j t k)) : RwS L ov ct V h D' := fun t ht => by
  rcases R t ht with ⟨a, b⟩ | ⟨j, k, a, b, d, e, f⟩
  · exact Or.inl ⟨a, fun j k z => b j k ((c j t k ht).mpr z)⟩
  · exact Or.inr ⟨j, k, a, b, d, (c j t k ht).mp e, fun j' k' z => f j' k' ((c j' t k' ht).mpr z)⟩
abbrev wld : List (Nat × Nat) := [(86, 999), (87, 999), (88, 999)]
section
variable {F : Nat} {V : Nat → Nat} {L : Nat → Nat → Int} {M : Nat → Int} {o' : Hp} {o : Int32 × Hp}
theorem gov_2 {h : Hp} {x2 : Int32} {t : Nat} (e4 : hR h (V 13) 4 = some (V 63)) (et : x2.toInt = (t : Int)) : ∀ (f : Nat) {x3 : Int32}, 1 ≤ x3.toInt → sX15_isGoneOver_2 F f h (V 13) x2 x3 = some o → o.2 = h ∧ ((o.1 = 0 ∧ ∀ k : Nat, x3.toInt ≤ k → (k : Int) < (hI h (V 13) 3).toInt → ¬ (hI h (V 63) k).toInt = (t : Int)) ∨ (o.1 = 1 ∧ OvR V h t)) := by
  have z1 : (1 : Int32).toInt = 1 := rfl
  intro f
  induction f with
  | zero => intro x3 _ e; exact absurd e (by rw [sX15_isGoneOver_2]; exact fun z => nomatch z)
  | succ f ih =>
    intro x3 a3 e
    have c3 := nc_i (x := x3) (by omega)
    rw [sX15_isGoneOver_2] at e
    rcases br_s e with ⟨l, e⟩ | ⟨l, e⟩
    · have l := le_i l
      rw [so_e e]
      exact ⟨rfl, Or.inl ⟨rfl, fun k a b => by omega⟩⟩
    have l := nle_i l
    replace e := ce_e e4 e
    replace e := gg_e e
    rcases br_s e with ⟨c, e⟩ | ⟨c, e⟩
    · rw [so_e e]
      exact ⟨rfl, Or.inr ⟨rfl, x3.toNatClampNeg, by omega, by omega, by rw [c, et]⟩⟩
    have up : (hI h (V 13) 3).toInt ≤ 2147483647 := Int32.toInt_le _
    have t3 : (x3 + (1 : Int32)).toInt = x3.toInt + 1 := by rw [ta (by rw [z1]; omega), z1]
    obtain ⟨r1, r2⟩ := ih (by omega) (nx_e e)
    refine ⟨r1, ?_⟩
    rcases r2 with ⟨a, b⟩ | r2
    · refine Or.inl ⟨a, fun k p q => ?_⟩
      by_cases y : k = x3.toNatClampNeg
      · rw [y]
        exact fun z => c (Int32.toInt_inj.mp (by rw [z, et]))
      · exact b k (by omega) q
    · exact Or.inr r2
theorem gov_v {h : Hp} {x2 : Int32} {t x0 : Nat} (e4 : hR h (V 13) 4 = some (V 63)) (et : x2.toInt = (t : Int)) (e : sX15_isGoneOver F h x0 (V 13) x2 = some o) : o.2 = h ∧ ((o.1 = 0 ∧ ¬ OvR V h t) ∨ (o.1 = 1 ∧ OvR V h t)) := by
  unfold sX15_isGoneOver at e
  obtain ⟨r1, r2⟩ := gov_2 e4 et F (by decide) e
  refine ⟨r1, ?_⟩
  rcases r2 with ⟨a, b⟩ | r2
  · refine Or.inl ⟨a, ?_⟩
    rintro ⟨k, p, q, r⟩
    have z1 : (1 : Int32).toInt = 1 := rfl
    exact b k (by rw [z1]; omega) q r
  · exact Or.inr r2
/-- rows, laws and board of the leading -/
def LdW (V : Nat → Nat) (h : Hp) (L : Nat → Nat → Int) (M : Nat → Int) (ov : Nat → Prop) : Prop := RWd V h L M ∧ (hR h (V 16) 25 = some (V 86) ∧ hR h (V 16) 26 = some (V 87) ∧ hR h (V 16) 27 = some (V 88)) ∧ hR h (V 13) 4 = some (V 63) ∧ ∀ t, OvR V h t ↔ ov t
theorem ldw_f (D : VD V) {ov : Nat → Prop} {h : Hp} {Ls : List (Nat × Nat)} (P : LdW V h L M ov) (A : FrV V (wl Ls) h o') (n : ∀ p, p ∈ Ls → p.1 ∈ vql ∧ ¬ p.1 = 15 ∧ ¬ (73 ≤ p.1 ∧ p.1 ≤ 81)) (n62 : ∀ p, p ∈ Ls → ¬ p.1 = 62) (n11 : wl Ls 16 11 = false) (n12 : wl Ls 16 12 = false) (n13 : wl Ls 16 13 = false) (n3 : wl Ls 13 3 = false) (n63 : ∀ p, p ∈ Ls → ¬ p.1 = 63) : LdW V o' L M ov := by
  obtain ⟨a, ⟨b1, b2, b3⟩, c, d⟩ := P
  have hL : ∀ p, p ∈ Ls → p.1 ∈ vql := fun p hp => (n p hp).1
  refine ⟨rwd_f D a A n n62 n11 n12 n13, ⟨by rw [A.1]; exact b1, by rw [A.1]; exact b2, by rw [A.1]; exact b3⟩, by rw [A.1]; exact c, fun t => ?_⟩
  rw [← d t]
  unfold OvR
  constructor
  · rintro ⟨k, p, q, r⟩
    rw [fvi D A 13 3 n3 (by decide) hL] at q
    rw [fvI D A 63 k n63 (by decide) hL] at r
    exact ⟨k, p, q, r⟩
  · rintro ⟨k, p, q, r⟩
    refine ⟨k, p, ?_, ?_⟩
    · rw [fvi D A 13 3 n3 (by decide) hL]; exact q
    · rw [fvI D A 63 k n63 (by decide) hL]; exact r
theorem nar_b {x : Int32} (i : x = 0 ∨ x = 1) : vp_nar .boolean x = x := by
  rcases i with i | i <;> rw [i] <;> decide
/-- along one vector -/
theorem lb_18 (D : VD V) {ov : Nat → Prop} {ct : Bool} {s sd st x5 x6 X Y : Int32} (H : LOk L) (HM : MOk L M) (J : StR L st.toNatClampNeg) (i4 : 0 ≤ st.toInt) (is : 0 ≤ s.toInt) (sL : s.toInt < L 0 0 * L 1 0) (e5 : x5 = 0 ↔ ct = false) (e6 : x6.toInt = L 75 st.toNatClampNeg) (isd : Rg 0 1 sd) (iX : Rg (-7) 7 X) (iY : Rg (-7) 7 Y) (nz : ¬ (X.toInt = 0 ∧ Y.toInt = 0)) : ∀ (f : Nat) {h : Hp} {x7 x8 : Int32} {D0 : Nat → Nat → Int → Prop}, LdW V h L M ov → hI h (V 16) 23 = X → hI h (V 16) 24 = Y → RwS L ov ct V h D0 → (∀ j t k, D0 j t k → j ≤ st.toNatClampNeg) → Rg 1 8 x8 → x7.toInt = ((cnP M s.toInt (Y.toInt * L 0 0 + X.toInt) (x8.toInt - 1).toNat : Nat) : Int) → sX15_leadBy_18 F f h (V 16) (V 13) s sd st x5 x6 x7 x8 = some o' → FrV V (wl wld) h o' ∧ RwS L ov ct V o' (fun j t k => D0 j t k ∨ (j = st.toNatClampNeg ∧ x8.toInt ≤ k ∧ k ≤ L 78 j ∧ onK (L 0 0) (L 1 0) s.toInt X.toInt Y.toInt k ∧ (t : Int) = tgt (L 0 0) s.toInt X.toInt Y.toInt k ∧ cnP M s.toInt (Y.toInt * L 0 0 + X.toInt) (k - 1).toNat = ovN L j ∧ (ByT L ov ct j t ∨ GdT L M sd.toInt j t))) := by
  have z0 : (0 : Int32).toInt = 0 := rfl
  have z1 : (1 : Int32).toInt = 1 := rfl
  have z2 : (2 : Int32).toInt = 2 := rfl
  have sq := sq_64 H
  have fi := H.1
  have ra := H.2.1
  have L2 := H.2.2.1
  have r7 := J.2.2.2.2.1
  have c4 := nc_i i4
  have ov1 : ovN L st.toNatClampNeg ≤ 1 := by unfold ovN; split <;> omega
  have i6 : Rg 0 63 x6 := ⟨by rw [e6]; exact J.1.1, by rw [e6]; exact J.1.2⟩
  obtain ⟨fb0, fb1, _, fb3, _, fb5⟩ := fb_e i6
  rw [e6] at fb0 fb1 fb3 fb5
  intro f
  induction f with
  | zero => intro h x7 x8 D0 _ _ _ _ _ _ _ e; exact absurd e (by rw [sX15_leadBy_18]; exact fun z => nomatch z)
  | succ f ih =>
    intro h x7 x8 D0 W eX eY R bD i8 c7 e
    have i80 := i8.1
    have i81 := i8.2
    obtain ⟨W0, ⟨b1, b2, b3⟩, b4, hov⟩ := W
    have W : LdW V h L M ov := ⟨W0, ⟨b1, b2, b3⟩, b4, hov⟩
    obtain ⟨w, ⟨g1, g2, g3, g4⟩, bM, mM⟩ := W0
    obtain ⟨l75, _, _, l78, _⟩ := lw_75 W.1 st.toNatClampNeg
    rw [sX15_leadBy_18] at e
    unfold sX15_leadBy_216 at e
    -- nothing more is found
    have stop : (∀ k : Int, x8.toInt ≤ k → k ≤ L 78 st.toNatClampNeg → onK (L 0 0) (L 1 0) s.toInt X.toInt Y.toInt k → ¬ cnP M s.toInt (Y.toInt * L 0 0 + X.toInt) (k - 1).toNat = ovN L st.toNatClampNeg) → some h = some o' → FrV V (wl wld) h o' ∧ RwS L ov ct V o' (fun j t k => D0 j t k ∨ (j = st.toNatClampNeg ∧ x8.toInt ≤ k ∧ k ≤ L 78 j ∧ onK (L 0 0) (L 1 0) s.toInt X.toInt Y.toInt k ∧ (t : Int) = tgt (L 0 0) s.toInt X.toInt Y.toInt k ∧ cnP M s.toInt (Y.toInt * L 0 0 + X.toInt) (k - 1).toNat = ovN L j ∧ (ByT L ov ct j t ∨ GdT L M sd.toInt j t))) := fun no u => by
      rw [so_e u]
      refine ⟨fv_0, rws_c R (fun j t k _ => ⟨fun z => Or.inl z, ?_⟩)⟩
      rintro (z | ⟨a, b, c, d, _, g, _⟩)
      · exact z
      · rw [a] at c g
        exact absurd g (no k b c d)
    replace e := ce_e w.1 e
    replace e := ce_e w.2.2.2.2.2.2.1 e
    replace e := gg_e e
    rcases br_s e with ⟨l, e⟩ | ⟨l, e⟩
    · have l := lt_i l
      rw [l78] at l
      exact stop (fun k a b => by omega) e
    have l := nlt_i l
    rw [l78] at l
    rcases br_s e with ⟨f2, e⟩ | ⟨f2, e⟩
    · have f2 := le_i f2
      rw [z2] at f2
      refine stop (fun k a b _ c => ?_) e
      have := cnp_le (M := M) (s := s.toInt) (st := Y.toInt * L 0 0 + X.toInt) (n := (x8.toInt - 1).toNat) (k - 1).toNat (by omega)
      omega
    have f2 := nle_i f2
    rw [z2] at f2
    replace e := cl_s e; obtain ⟨o6, eo6, e⟩ := e
    have v6 := on_val eo6
    rw [eX, eY] at v6
    have w6 : o6.2 = h := by rw [v6]
    have w1 : o6.1 = onV (hI h (V 16) 11) (hI h (V 16) 12) X Y s x8 := by rw [v6]
    rw [w6] at e
    have oi := on_int (a := hI h (V 16) 11) (b := hI h (V 16) 12) (x := X) (y := Y) (s := s) (k := x8) ⟨is, by omega⟩ ⟨by omega, by omega⟩ ⟨by omega, by omega⟩ iX iY ⟨by omega, by omega⟩
    rw [← w1, g2, g3] at oi
    rcases oi with ⟨m, no⟩ | ⟨on, tv⟩
    · replace e := bp_e m e
      exact stop (fun k a b c => absurd (onk_mid (by omega) is sL c ⟨by omega, a⟩) no) e
    obtain ⟨t0, t1, _⟩ := tgt_on (show 0 < L 0 0 by omega) on
    replace e := bn_e (fun z => by rw [z] at tv; have : (-1 : Int32).toInt = -1 := by decide
                                   omega) e
    have c6 := nc_i (x := o6.1) (by omega)
    have t64 : o6.1.toNatClampNeg < 64 := by omega
    replace e := ce_e bM e
    replace e := gg_e e
    replace e := nm_s e; obtain ⟨v10, u10, e⟩ := e
    have mv : v10.toInt = M o6.1.toNatClampNeg := by rw [u10, ← mM]; rfl
    have hm := HM o6.1.toNatClampNeg t64
    have t8 : (x8 + (1 : Int32)).toInt = x8.toInt + 1 := by rw [ta (by rw [z1]; omega), z1]
    have ix : o6.1.toNatClampNeg = (s.toInt + x8.toInt * (Y.toInt * L 0 0 + X.toInt)).toNat := by
      rw [tgt_s] at tv
      omega
    have cs : (cnP M s.toInt (Y.toInt * L 0 0 + X.toInt) (x8.toInt + 1 - 1).toNat) = cnP M s.toInt (Y.toInt * L 0 0 + X.toInt) (x8.toInt - 1).toNat + (if 0 < M o6.1.toNatClampNeg then 1 else 0) := by
      obtain ⟨n, hn⟩ : ∃ n : Nat, x8.toInt = (n : Int) + 1 := ⟨(x8.toInt - 1).toNat, by omega⟩
      rw [ix, hn, show ((n : Int) + 1 + 1 - 1).toNat = n + 1 by omega, show ((n : Int) + 1 - 1).toNat = n by omega]
      rfl
    -- what is new at this square
    have nxt : ∀ {g : Hp}, FrV V (wl wld) h g → RwS L ov ct V g (fun j t k => D0 j t k ∨ (j = st.toNatClampNeg ∧ k = x8.toInt ∧ t = o6.1.toNatClampNeg ∧ cnP M s.toInt (Y.toInt * L 0 0 + X.toInt) (k - 1).toNat = ovN L j ∧ (ByT L ov ct j t ∨ GdT L M sd.toInt j t))) → sX15_leadBy_195 F (sX15_leadBy_18 F f) g (V 16) (V 13) s sd st x5 x6 x7 x8 v10 = some o' → FrV V (wl wld) h o' ∧ RwS L ov ct V o' (fun j t k => D0 j t k ∨ (j = st.toNatClampNeg ∧ x8.toInt ≤ k ∧ k ≤ L 78 j ∧ onK (L 0 0) (L 1 0) s.toInt X.toInt Y.toInt k ∧ (t : Int) = tgt (L 0 0) s.toInt X.toInt Y.toInt k ∧ cnP M s.toInt (Y.toInt * L 0 0 + X.toInt) (k - 1).toNat = ovN L j ∧ (ByT L ov ct j t ∨ GdT L M sd.toInt j t))) := fun {g} A Rg' u => by
      unfold sX15_leadBy_195 sX15_leadBy_207 at u
      have go : ∀ {v1 : Int32}, v1.toInt = ((cnP M s.toInt (Y.toInt * L 0 0 + X.toInt) (x8.toInt + 1 - 1).toNat : Nat) : Int) → sX15_leadBy_18 F f g (V 16) (V 13) s sd st x5 x6 v1 (x8 + (1 : Int32)) = some o' → FrV V (wl wld) h o' ∧ RwS L ov ct V o' (fun j t k => D0 j t k ∨ (j = st.toNatClampNeg ∧ x8.toInt ≤ k ∧ k ≤ L 78 j ∧ onK (L 0 0) (L 1 0) s.toInt X.toInt Y.toInt k ∧ (t : Int) = tgt (L 0 0) s.toInt X.toInt Y.toInt k ∧ cnP M s.toInt (Y.toInt * L 0 0 + X.toInt) (k - 1).toNat = ovN L j ∧ (ByT L ov ct j t ∨ GdT L M sd.toInt j t))) := fun {v1} hv y => by
        obtain ⟨r1, r2⟩ := ih (ldw_f D W A (by decide) (by decide) rfl rfl rfl rfl (by decide)) (by rw [fvi D A 16 23]; exact eX) (by rw [fvi D A 16 24]; exact eY) Rg' (fun j t k z => by
          rcases z with z | z
          · exact bD j t k z
          · rw [z.1]; exact Nat.le_refl _) ⟨by omega, by omega⟩ (by rw [t8]; exact hv) y
        refine ⟨fv_t A r1, rws_c r2 (fun j t k ht => ?_)⟩
        rw [t8]
        constructor
        · rintro ((z | ⟨a, b, c, d⟩) | ⟨a, b, c⟩)
          · exact Or.inl z
          · refine Or.inr ⟨a, by omega, by rw [a, b]; exact l, by rw [b]; exact on, ?_, d⟩
            rw [b, c, c6, tv]
          · exact Or.inr ⟨a, by omega, c⟩
        · rintro (z | ⟨a, b, c, d, g', i⟩)
          · exact Or.inl (Or.inl z)
          · by_cases q : k = x8.toInt
            · refine Or.inl (Or.inr ⟨a, q, ?_, i⟩)
              rw [q] at g'
              omega
            · exact Or.inr ⟨a, by omega, c, d, g', i⟩
      rcases br_s u with ⟨mz, u⟩ | ⟨mz, u⟩
      · have mz := le_i mz
        rw [mv, z0] at mz
        replace u := nm_s u; obtain ⟨v1, wv, u⟩ := u
        refine go ?_ (nx_e u)
        rw [wv, ta (by rw [z0]; omega), z0, cs, if_neg (by omega), c7]
        omega
      · have mz := nle_i mz
        rw [mv, z0] at mz
        replace u := nm_s u; obtain ⟨v1, wv, u⟩ := u
        refine go ?_ (nx_e u)
        rw [wv, ta (by rw [z1]; omega), z1, cs, if_pos (by omega), c7]
        omega
    -- nothing new
    have same : (∀ t k, t = o6.1.toNatClampNeg → k = x8.toInt → cnP M s.toInt (Y.toInt * L 0 0 + X.toInt) (k - 1).toNat = ovN L st.toNatClampNeg → ¬ (ByT L ov ct st.toNatClampNeg t ∨ GdT L M sd.toInt st.toNatClampNeg t)) → RwS L ov ct V h (fun j t k => D0 j t k ∨ (j = st.toNatClampNeg ∧ k = x8.toInt ∧ t = o6.1.toNatClampNeg ∧ cnP M s.toInt (Y.toInt * L 0 0 + X.toInt) (k - 1).toNat = ovN L j ∧ (ByT L ov ct j t ∨ GdT L M sd.toInt j t))) := fun no => rws_c R (fun j t k _ => ⟨fun z => Or.inl z, by
      rintro (z | ⟨a, b, c, d, g⟩)
      · exact z
      · rw [a] at d g
        exact absurd g (no t k c b d)⟩)
    replace e := cl_s e; obtain ⟨o11, eo11, e⟩ := e
    have v11 := fr_val eo11
    have w11 : o11.2 = h := by rw [v11]
    have f11 : o11.1 = frV x6 x7 := by rw [v11]
    rw [w11] at e
    have free : (o11.1 = 0 ∧ ¬ cnP M s.toInt (Y.toInt * L 0 0 + X.toInt) (x8.toInt - 1).toNat = ovN L st.toNatClampNeg) ∨ (¬ o11.1 = 0 ∧ cnP M s.toInt (Y.toInt * L 0 0 + X.toInt) (x8.toInt - 1).toNat = ovN L st.toNatClampNeg) := by
      rw [f11]
      rcases frv_e fb3 c7 with ⟨a, b⟩ | ⟨a, b⟩
      · exact Or.inr ⟨by rw [a]; decide, b⟩
      · exact Or.inl ⟨a, b⟩
    rcases br_s e with ⟨c, e⟩ | ⟨c, e⟩
    · refine nxt fv_0 (same (fun t k _ y d _ => ?_)) e
      rcases free with ⟨_, f⟩ | ⟨f, _⟩
      · rw [y] at d; exact f d
      · exact f c
    have opn : cnP M s.toInt (Y.toInt * L 0 0 + X.toInt) (x8.toInt - 1).toNat = ovN L st.toNatClampNeg := by
      rcases free with ⟨f, _⟩ | ⟨_, f⟩
      · exact absurd f c
      · exact f
    replace e := ce_e b1 e
    replace e := gg_e e
    rcases br_s e with ⟨fresh, e⟩ | ⟨fresh, e⟩
    rotate_left
    · -- a STEP leads there already
      refine nxt fv_0 (fun t ht => ?_) e
      rcases R t ht with ⟨a, b⟩ | ⟨j, k, a, b, c, d, g⟩
      · by_cases y : t = o6.1.toNatClampNeg
        · rw [y] at a; exact absurd a fresh
        · exact Or.inl ⟨a, fun j k z => by
            rcases z with z | ⟨_, _, z, _⟩
            · exact b j k z
            · exact y z⟩
      · refine Or.inr ⟨j, k, a, b, c, Or.inl d, fun j' k' z => ?_⟩
        rcases z with z | ⟨z, _⟩
        · exact g j' k' z
        · rw [z]; exact bD j t k d
    -- the first
    have none : ∀ j k, ¬ D0 j o6.1.toNatClampNeg k := by
      rcases R o6.1.toNatClampNeg (by omega) with ⟨_, b⟩ | ⟨j, k, a, _⟩
      · exact b
      · rw [fresh] at a
        have : (-1 : Int32).toInt = -1 := by decide
        omega
    have put : ∀ {b : Int32}, ((b = 0 ∧ ¬ ByT L ov ct st.toNatClampNeg o6.1.toNatClampNeg) ∨ (b = 1 ∧ ByT L ov ct st.toNatClampNeg o6.1.toNatClampNeg)) → (ByT L ov ct st.toNatClampNeg o6.1.toNatClampNeg ∨ GdT L M sd.toInt st.toNatClampNeg o6.1.toNatClampNeg) → sX15_leadBy_168 F (sX15_leadBy_18 F f) h (V 16) (V 13) s sd st x5 x6 x7 x8 o6.1 v10 b = some o' → FrV V (wl wld) h o' ∧ RwS L ov ct V o' (fun j t k => D0 j t k ∨ (j = st.toNatClampNeg ∧ x8.toInt ≤ k ∧ k ≤ L 78 j ∧ onK (L 0 0) (L 1 0) s.toInt X.toInt Y.toInt k ∧ (t : Int) = tgt (L 0 0) s.toInt X.toInt Y.toInt k ∧ cnP M s.toInt (Y.toInt * L 0 0 + X.toInt) (k - 1).toNat = ovN L j ∧ (ByT L ov ct j t ∨ GdT L M sd.toInt j t))) := fun {b} hb ok u => by
      unfold sX15_leadBy_168 at u
      replace u := ce_e b1 u
      replace u := gg_e u
      replace u := nm_s u; obtain ⟨h3, u3, u⟩ := u
      replace u := ce_e (show hR h3 (V 16) 26 = some (V 87) by rw [u3]; exact b2) u
      replace u := gg_e u
      replace u := nm_s u; obtain ⟨h6, u6, u⟩ := u
      replace u := ce_e (show hR h6 (V 16) 27 = some (V 88) by rw [u6, u3]; exact b3) u
      replace u := gg_e u
      replace u := nm_s u; obtain ⟨h9, u9, u⟩ := u
      rw [nar_b (hb.elim (fun z => Or.inl z.1) (fun z => Or.inr z.1))] at u9
      have A9 : FrV V (wl wld) h h9 := fv_t (g2 := h6) (fv_t (g2 := h3) (by rw [u3]; exact fv_w (wl_9 (by decide))) (by rw [u6]; exact fv_w (wl_9 (by decide)))) (by rw [u9]; exact fv_w (wl_9 (by decide)))
      refine nxt A9 (fun t ht => ?_) u
      by_cases y : t = o6.1.toNatClampNeg
      · rw [y]
        have r86 : hI h9 (V 86) o6.1.toNatClampNeg = st := by rw [u9, rI_a (vne D), u6, rI_a (vne D), u3, rI_s]
        have r87 : hI h9 (V 87) o6.1.toNatClampNeg = x8 := by rw [u9, rI_a (vne D), u6, rI_s]
        have r88 : hI h9 (V 88) o6.1.toNatClampNeg = b := by rw [u9, rI_s]
        rw [r86, r87, r88]
        refine Or.inr ⟨st.toNatClampNeg, x8.toInt, by omega, rfl, hb, Or.inr ⟨rfl, rfl, rfl, opn, ok⟩, fun j' k' z => ?_⟩
        rcases z with z | ⟨z, _⟩
        · exact absurd z (none j' k')
        · rw [z]; exact Nat.le_refl _
      · have r86 : hI h9 (V 86) t = hI h (V 86) t := by rw [u9, rI_a (vne D), u6, rI_a (vne D), u3, rI_o y]
        have r87 : hI h9 (V 87) t = hI h (V 87) t := by rw [u9, rI_a (vne D), u6, rI_o y, u3, rI_a (vne D)]
        have r88 : hI h9 (V 88) t = hI h (V 88) t := by rw [u9, rI_o y, u6, rI_a (vne D), u3, rI_a (vne D)]
        rw [r86, r87, r88]
        rcases R t ht with ⟨a, b'⟩ | ⟨j, k, a, b', c', d, g⟩
        · exact Or.inl ⟨a, fun j k z => by
            rcases z with z | ⟨_, _, z, _⟩
            · exact b' j k z
            · exact y z⟩
        · refine Or.inr ⟨j, k, a, b', c', Or.inl d, fun j' k' z => ?_⟩
          rcases z with z | ⟨_, _, z, _⟩
          · exact g j' k' z
          · exact absurd z y
    -- whether it may end there
    have k113 : ∀ {b : Int32}, ((b = 0 ∧ ¬ ByT L ov ct st.toNatClampNeg o6.1.toNatClampNeg) ∨ (b = 1 ∧ ByT L ov ct st.toNatClampNeg o6.1.toNatClampNeg)) → sX15_leadBy_113 F (sX15_leadBy_18 F f) h (V 16) (V 13) s sd st x5 x6 x7 x8 o6.1 v10 b = some o' → FrV V (wl wld) h o' ∧ RwS L ov ct V o' (fun j t k => D0 j t k ∨ (j = st.toNatClampNeg ∧ x8.toInt ≤ k ∧ k ≤ L 78 j ∧ onK (L 0 0) (L 1 0) s.toInt X.toInt Y.toInt k ∧ (t : Int) = tgt (L 0 0) s.toInt X.toInt Y.toInt k ∧ cnP M s.toInt (Y.toInt * L 0 0 + X.toInt) (k - 1).toNat = ovN L j ∧ (ByT L ov ct j t ∨ GdT L M sd.toInt j t))) := fun {b} hb u => by
      have k156 : ∀ {g : Int32}, ((g = 0 ∧ ¬ GdT L M sd.toInt st.toNatClampNeg o6.1.toNatClampNeg) ∨ (¬ g = 0 ∧ GdT L M sd.toInt st.toNatClampNeg o6.1.toNatClampNeg)) → sX15_leadBy_156 F (sX15_leadBy_18 F f) h (V 16) (V 13) s sd st x5 x6 x7 x8 o6.1 v10 b g = some o' → FrV V (wl wld) h o' ∧ RwS L ov ct V o' (fun j t k => D0 j t k ∨ (j = st.toNatClampNeg ∧ x8.toInt ≤ k ∧ k ≤ L 78 j ∧ onK (L 0 0) (L 1 0) s.toInt X.toInt Y.toInt k ∧ (t : Int) = tgt (L 0 0) s.toInt X.toInt Y.toInt k ∧ cnP M s.toInt (Y.toInt * L 0 0 + X.toInt) (k - 1).toNat = ovN L j ∧ (ByT L ov ct j t ∨ GdT L M sd.toInt j t))) := fun {g} hg v => by
        unfold sX15_leadBy_156 at v
        rcases br_s v with ⟨b0, v⟩ | ⟨b0, v⟩
        · have nb : ¬ ByT L ov ct st.toNatClampNeg o6.1.toNatClampNeg := by
            rcases hb with ⟨_, z⟩ | ⟨z, _⟩
            · exact z
            · rw [z] at b0; exact absurd b0 (by decide)
          rcases br_s v with ⟨g0, v⟩ | ⟨g0, v⟩
          · refine nxt fv_0 (same (fun t k y _ _ z => ?_)) v
            rw [y] at z
            rcases z with z | z
            · exact nb z
            · rcases hg with ⟨_, q⟩ | ⟨q, _⟩
              · exact q z
              · exact q g0
          · refine put hb (Or.inr ?_) v
            rcases hg with ⟨q, _⟩ | ⟨_, q⟩
            · exact absurd q g0
            · exact q
        · refine put hb (Or.inl ?_) v
          rcases hb with ⟨z, _⟩ | ⟨_, z⟩
          · exact absurd z b0
          · exact z
      unfold sX15_leadBy_113 sX15_leadBy_140 at u
      rcases br_s u with ⟨mz, u⟩ | ⟨mz, u⟩
      · have mz := le_i mz
        rw [mv, z0] at mz
        rcases br_s u with ⟨q, u⟩ | ⟨q, u⟩
        · exact k156 (Or.inr ⟨by decide, Or.inr ⟨by omega, fb1.mp q⟩⟩) u
        · refine k156 (Or.inl ⟨rfl, ?_⟩) u
          rintro (⟨z, _⟩ | ⟨_, z⟩)
          · omega
          · exact q (fb1.mpr z)
      · have mz := nle_i mz
        rw [mv, z0] at mz
        have m24 := (hm.2 mz).2
        have tv10 : (v10 - (1 : Int32)).toInt = M o6.1.toNatClampNeg - 1 := by rw [ts (by rw [z1]; omega), z1, mv]
        have sdv : ((v10 - (1 : Int32)) &&& (1 : Int32)).toInt = (M o6.1.toNatClampNeg - 1) % 2 := by rw [and1_i (by omega), tv10]
        unfold sX15_sideOf at u
        replace u := cl_s u; obtain ⟨o3, eo3, u⟩ := u
        rw [so_e eo3] at u
        rcases br_s u with ⟨q, u⟩ | ⟨q, u⟩
        · refine k156 (Or.inl ⟨rfl, ?_⟩) u
          rintro (⟨_, z, _⟩ | ⟨z, _⟩)
          · exact z (by rw [← sdv]; exact congrArg Int32.toInt q)
          · exact z mz
        · rcases br_s u with ⟨q', u⟩ | ⟨q', u⟩
          · exact k156 (Or.inr ⟨by decide, Or.inl ⟨mz, fun z => q (Int32.toInt_inj.mp (by rw [sdv, z])), fb0.mp q'⟩⟩) u
          · refine k156 (Or.inl ⟨rfl, ?_⟩) u
            rintro (⟨_, _, z⟩ | ⟨z, _⟩)
            · exact q' (fb0.mpr z)
            · exact z mz
    unfold sX15_leadBy_112 at e
    rcases br_s e with ⟨q, e⟩ | ⟨q, e⟩
    · refine k113 (Or.inl ⟨rfl, fun z => ?_⟩) e
      have := z.1
      rw [e5.mp q] at this
      exact absurd this (by decide)
    have ctT : ct = true := by
      cases y : ct with
      | true => rfl
      | false => exact absurd (e5.mpr y) q
    rcases br_s e with ⟨q5, e⟩ | ⟨q5, e⟩
    · refine k113 (Or.inl ⟨rfl, fun z => ?_⟩) e
      have := z.2.1
      rw [fb5.mp q5] at this
      exact absurd this (by decide)
    have f5 : fbt (L 75 st.toNatClampNeg) 5 = true := by
      cases y : fbt (L 75 st.toNatClampNeg) 5 with
      | true => rfl
      | false => exact absurd (fb5.mpr y) q5
    replace e := cl_s e; obtain ⟨o18, eo18, e⟩ := e
    obtain ⟨w18, g18⟩ := gov_v (t := o6.1.toNatClampNeg) b4 c6.symm eo18
    rw [hov] at g18
    rw [w18] at e
    rcases br_s e with ⟨q8, e⟩ | ⟨q8, e⟩
    · refine k113 (Or.inl ⟨rfl, fun z => ?_⟩) e
      rcases g18 with ⟨_, y⟩ | ⟨y, _⟩
      · exact y z.2.2
      · rw [y] at q8; exact absurd q8 (by decide)
    · refine k113 (Or.inr ⟨rfl, ctT, f5, ?_⟩) e
      rcases g18 with ⟨y, _⟩ | ⟨_, y⟩
      · exact absurd y q8
      · exact y
end
