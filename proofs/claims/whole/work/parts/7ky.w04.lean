section
/-! texts of positions: pure, and the men as the reference writes them -/
def ltP (L : Nat → Nat → Int) (v : Int) : Int := if (v - 1) % 2 = 0 then L 73 (mnO v) - 32 else L 73 (mnO v)
def emT (n : Nat) : List Int := if 0 < n then [48 + (n : Int)] else []
def chT (L : Nat → Nat → Int) (P : Pz) (S : Nat → Bool) (s : Nat) : Int := if S s = true then ltP L (P.1 s) else 63
/-- a rank up to a file: empty squares not yet told, and the text -/
def rkT (L : Nat → Nat → Int) (P : Pz) (S : Nat → Bool) (r : Nat) : Nat → Nat × List Int
  | 0 => (0, [])
  | f + 1 => if S (r * (L 0 0).toNat + f) = true ∧ P.1 (r * (L 0 0).toNat + f) = 0 then ((rkT L P S r f).1 + 1, (rkT L P S r f).2) else (0, (rkT L P S r f).2 ++ emT (rkT L P S r f).1 ++ [chT L P S (r * (L 0 0).toNat + f)])
def rkE (L : Nat → Nat → Int) (P : Pz) (S : Nat → Bool) (r : Nat) : List Int := (rkT L P S r (L 0 0).toNat).2 ++ emT (rkT L P S r (L 0 0).toNat).1 ++ (if 0 < r then [47] else [])
/-- the ranks below r -/
def mnT (L : Nat → Nat → Int) (P : Pz) (S : Nat → Bool) : Nat → List Int
  | 0 => []
  | r + 1 => rkE L P S r ++ mnT L P S r
/-- letters of men -/
def LtO (L : Nat → Nat → Int) : Prop := ∀ m : Nat, (m : Int) < L 2 0 → 97 ≤ L 73 m ∧ L 73 m ≤ 122
theorem rkt_le {L : Nat → Nat → Int} {P : Pz} {S : Nat → Bool} {r : Nat} : ∀ f, (rkT L P S r f).1 ≤ f
  | 0 => Nat.le_refl _
  | f + 1 => by
    have := rkt_le (L := L) (P := P) (S := S) (r := r) f
    unfold rkT
    split
    · exact Nat.succ_le_succ this
    · exact Nat.zero_le _
def OuR (V : Nat → Nat) (h : Hp) (l : List Int) : Prop := hR h (V 16) 2 = some (V 247) ∧ hN h (V 247) ≤ 100000 ∧ (hI h (V 16) 3).toInt = (l.length : Int) ∧ ∀ i, i < l.length → l[i]? = some (hI h (V 247) i).toInt
abbrev wou : List (Nat × Nat) := [(16, 3), (247, 999)]
theorem nar7 {x : Int32} (i : Rg 0 127 x) : (vp_nar .byte x.toInt8.toInt32) = x := by
  have i0 := i.1
  have i1 := i.2
  have all : ∀ n : Fin 128, vp_nar .byte (nI n.val).toInt8.toInt32 = nI n.val := by decide +kernel
  have e : x = nI x.toInt.toNat := Int32.toInt_inj.mp (by rw [z_toInt (by omega)]; omega)
  rw [e]
  exact all ⟨x.toInt.toNat, by omega⟩
section
variable {F : Nat} {V : Nat → Nat} {L : Nat → Nat → Int} {h o : Hp} {P : Pz} {l : List Int}
theorem say_r (D : VD V) {c : Int32} (O : OuR V h l) (ic : Rg 0 127 c) (e : sX15_say h (V 16) c = some o) : OuR V o (l ++ [c.toInt]) ∧ FrV V (wl wou) h o := by
  have z1 : (1 : Int32).toInt = 1 := rfl
  obtain ⟨a, b, cl', d⟩ := O
  unfold sX15_say at e
  replace e := ce_e a e
  obtain ⟨gb, e⟩ := gd_s e
  have g0 := inb_r gb
  have cn : (hI h (V 16) 3).toNatClampNeg = l.length := by have := nc_i (x := hI h (V 16) 3) (by omega); omega
  replace e := nm_s e; obtain ⟨h3, u3, e⟩ := e
  replace e := nm_s e; obtain ⟨h4, u4, e⟩ := e
  rw [cn, nar7 ic] at u3
  have A3 : FrV V (wl wou) h h3 := by rw [u3]; exact fv_w (wl_9 (by decide))
  have A4 : FrV V (wl wou) h h4 := by rw [u4]; exact fv_t A3 (fv_w rfl)
  have k3 : hI h3 (V 16) 3 = hI h (V 16) 3 := by rw [u3, rI_a (vne D)]
  have eo : o = h4 := (so_e e)
  rw [eo]
  refine ⟨⟨by rw [A4.1]; exact a, ?_, ?_, fun i hi => ?_⟩, A4⟩
  · have : hN h4 (V 247) = hN h (V 247) := by rw [u4, u3]; rfl
    rw [this]; exact b
  · rw [u4, rI_s, k3, ta (by rw [z1]; omega), z1, cl', List.length_append]
    rfl
  · rw [List.length_append] at hi
    have hi : i < l.length + 1 := hi
    have k4 : hI h4 (V 247) i = hI h3 (V 247) i := by rw [u4, rI_a (vne D)]
    rw [k4, u3]
    by_cases y : i = l.length
    · rw [y, rI_s, List.getElem?_append_right (Nat.le_refl _), Nat.sub_self]
      rfl
    · rw [rI_o (fun z => y z), List.getElem?_append_left (by omega)]
      exact d i (by omega)
theorem sn_r (D : VD V) {x1 : Int32} {n : Nat} (O : OuR V h l) (e1 : x1.toInt = (n : Int)) (n1 : 1 ≤ n) (n9 : n ≤ 9) (e : sX15_sayNumber F h (V 16) x1 = some o) : OuR V o (l ++ emT n) ∧ FrV V (wl wou) h o := by
  have z10 : (10 : Int32).toInt = 10 := rfl
  have z48 : (48 : Int32).toInt = 48 := rfl
  unfold sX15_sayNumber at e
  rw [qX15_sayNumber] at e
  unfold oX15_sayNumber sX15_sayNumber_14 at e
  replace e := bp_e (ii_lt.mpr (by rw [e1, z10]; omega)) e
  replace e := cl_s e; obtain ⟨o1, eo1, e⟩ := e
  have t1 : (x1 - x1 / (10 : Int32) * (10 : Int32)).toInt = (n : Int) := by
    rw [tr (a := 0) (b := 9) (c := 10) (d := 10) ⟨by omega, by omega⟩ ⟨by decide, by decide⟩ ⟨by decide, by decide⟩, e1, z10]
    omega
  have t2 : ((48 : Int32) + (x1 - x1 / (10 : Int32) * (10 : Int32))).toInt = 48 + (n : Int) := by rw [ta (by rw [t1, z48]; omega), t1, z48]
  obtain ⟨a, b⟩ := say_r D O ⟨by omega, by omega⟩ eo1
  rw [so_e e]
  unfold emT
  rw [if_pos (by omega), ← t2]
  exact ⟨a, b⟩
theorem lto_r {v : Int32} {o : Int32 × Hp} (H : LOk L) (T : LtO L) (W : RW0 V h L) (v0 : 0 < v.toInt) (vL : v.toInt ≤ 2 * L 2 0) (e : sX15_letterOf h (V 16) v = some o) : o.2 = h ∧ o.1.toInt = ltP L v.toInt ∧ Rg 0 127 o.1 := by
  have z1 : (1 : Int32).toInt = 1 := rfl
  have z0 : (0 : Int32).toInt = 0 := rfl
  have z32 : (32 : Int32).toInt = 32 := rfl
  have L2 := H.2.2.1
  obtain ⟨mL, mE⟩ := mno_lt (L := L) v0 vL
  have tv : (v - (1 : Int32)).toInt = v.toInt - 1 := by rw [ts (by rw [z1]; omega), z1]
  have sdv : ((v - (1 : Int32)) &&& (1 : Int32)).toInt = (v.toInt - 1) % 2 := by rw [and1_i (by omega), tv]
  have sh : ((v - (1 : Int32)) >>> ((1 : Int32) &&& 31)).toInt = ((mnO v.toInt : Nat) : Int) := by
    rw [shr_i 1 (by decide), tv, mE]
    rfl
  have cm : ((v - (1 : Int32)) >>> ((1 : Int32) &&& 31)).toNatClampNeg = mnO v.toInt := by
    have := nc_i (x := (v - (1 : Int32)) >>> ((1 : Int32) &&& 31)) (by omega)
    omega
  have l73 : ∀ m, (hI h (V 73) m).toInt = L 73 m := fun m => by
    rw [← W.2.1]
    unfold lwR
    rw [if_neg (by decide), if_pos (by decide)]
  have lt := T _ mL
  unfold sX15_letterOf sX15_letterOf_25 sX15_manOf sX15_sideOf at e
  replace e := ce_e W.1.1 e
  replace e := ce_e W.1.2.1 e
  replace e := cl_s e; obtain ⟨o3, eo3, e⟩ := e
  rw [so_e eo3] at e
  replace e := gg_e e
  replace e := cl_s e; obtain ⟨o5, eo5, e⟩ := e
  rw [so_e eo5] at e
  have k := l73 (mnO v.toInt)
  unfold ltP
  rcases br_s e with ⟨c, e⟩ | ⟨c, e⟩
  · have c : (v - (1 : Int32)) &&& (1 : Int32) = 0 := c
    rw [c, z0] at sdv
    rw [if_pos sdv.symm, so_e e]
    have t : ((hI h (V 73) ((v - (1 : Int32)) >>> ((1 : Int32) &&& 31)).toNatClampNeg) - (32 : Int32)).toInt = L 73 (mnO v.toInt) - 32 := by
      rw [cm, ts (by rw [k, z32]; omega), k, z32]
    exact ⟨rfl, t, ⟨by show 0 ≤ ((hI h (V 73) ((v - (1 : Int32)) >>> ((1 : Int32) &&& 31)).toNatClampNeg) - (32 : Int32)).toInt; omega, by show ((hI h (V 73) ((v - (1 : Int32)) >>> ((1 : Int32) &&& 31)).toNatClampNeg) - (32 : Int32)).toInt ≤ 127; omega⟩⟩
  · have c : ¬ (v - (1 : Int32)) &&& (1 : Int32) = 0 := c
    rw [if_neg (fun z => c (Int32.toInt_inj.mp (by rw [sdv, z, z0]))), so_e e]
    have t : ((hI h (V 73) ((v - (1 : Int32)) >>> ((1 : Int32) &&& 31)).toNatClampNeg) - (0 : Int32)).toInt = L 73 (mnO v.toInt) := by
      rw [cm, ts (by rw [k, z0]; omega), k, z0]; omega
    exact ⟨rfl, t, ⟨by show 0 ≤ ((hI h (V 73) ((v - (1 : Int32)) >>> ((1 : Int32) &&& 31)).toNatClampNeg) - (0 : Int32)).toInt; omega, by show ((hI h (V 73) ((v - (1 : Int32)) >>> ((1 : Int32) &&& 31)).toNatClampNeg) - (0 : Int32)).toInt ≤ 127; omega⟩⟩
/-- one rank -/
theorem wm_19 (D : VD V) {K : Hp → Nat → Nat → Int64 → Int32 → Option Hp} {x2 : Int64} {x4 : Int32} {S : Nat → Bool} {r : Nat} (H : LOk L) (T : LtO L) (HM : MOk L P.1) (bs : ∀ q, q < 64 → bitJ x2 q = S q) (e4 : x4.toInt = (r : Int)) (rL : (r : Int) < L 1 0) : ∀ (f : Nat) {h : Hp} {x5 x6 : Int32} {n : Nat}, RW0 V h L → RbP V h P → OuR V h (l ++ (rkT L P S r n).2) → x5.toInt = ((rkT L P S r n).1 : Int) → x6.toInt = (n : Int) → (n : Int) ≤ L 0 0 → sX15_writeMen_19 F K f h (V 16) (V 13) x2 x4 x5 x6 = some o → ∃ g, FrV V (wl wou) h g ∧ OuR V g (l ++ rkE L P S r) ∧ K g (V 16) (V 13) x2 (x4 + (-1 : Int32)) = some o := by
  have z1 : (1 : Int32).toInt = 1 := rfl
  have z0 : (0 : Int32).toInt = 0 := rfl
  have fi := H.1
  have ra := H.2.1
  have L2 := H.2.2.1
  have sq := sq_64 H
  intro f
  induction f with
  | zero => intro h x5 x6 n _ _ _ _ _ _ e; exact absurd e (by rw [sX15_writeMen_19]; exact fun z => nomatch z)
  | succ f ih =>
    intro h x5 x6 n W R O e5 e6 nl e
    have g2 := W.2.2.1
    have le := rkt_le (L := L) (P := P) (S := S) (r := r) n
    rw [sX15_writeMen_19] at e
    rcases br_s e with ⟨c, e⟩ | ⟨c, e⟩
    · have c := le_i c
      rw [g2, e6] at c
      have nE : (L 0 0).toNat = n := by omega
      have fin : ∀ {g : Hp}, FrV V (wl wou) h g → OuR V g (l ++ ((rkT L P S r n).2 ++ emT (rkT L P S r n).1)) → sX15_writeMen_135 F K g (V 16) (V 13) x2 x4 = some o → ∃ g, FrV V (wl wou) h g ∧ OuR V g (l ++ rkE L P S r) ∧ K g (V 16) (V 13) x2 (x4 + (-1 : Int32)) = some o := fun {g} G Og u => by
        unfold sX15_writeMen_135 sX15_writeMen_146 at u
        unfold rkE
        rw [nE]
        rcases br_s u with ⟨d, u⟩ | ⟨d, u⟩
        · have d := le_i d
          rw [e4, z0] at d
          rw [if_neg (show ¬ 0 < r by omega), List.append_nil]
          exact ⟨g, G, Og, nx_e u⟩
        · have d := nle_i d
          rw [e4, z0] at d
          rw [if_pos (show 0 < r by omega), ← List.append_assoc]
          replace u := cl_s u; obtain ⟨o2, eo2, u⟩ := u
          obtain ⟨a, b⟩ := say_r D Og ⟨by decide, by decide⟩ eo2
          exact ⟨o2, fv_t G b, a, nx_e u⟩
      rcases br_s e with ⟨d, e⟩ | ⟨d, e⟩
      · have d := le_i d
        rw [e5, z0] at d
        refine fin fv_0 ?_ e
        unfold emT
        rw [if_neg (show ¬ 0 < (rkT L P S r n).1 by omega), List.append_nil]
        exact O
      · have d := nle_i d
        rw [e5, z0] at d
        replace e := cl_s e; obtain ⟨o3, eo3, e⟩ := e
        obtain ⟨a, b⟩ := sn_r D O e5 (by omega) (by omega) eo3
        rw [List.append_assoc] at a
        exact fin b a e
    have c := nle_i c
    rw [g2, e6] at c
    have m1 := mb (n := 8) (m := 8) (k := (r : Int)) (d := L 0 0) ⟨by omega, by omega⟩ ⟨by omega, by omega⟩ (by decide)
    have m2 := Int.mul_nonneg (show (0 : Int) ≤ r by omega) (show 0 ≤ L 0 0 by omega)
    have m3 := Int.mul_le_mul_of_nonneg_right (show (r : Int) + 1 ≤ L 1 0 by omega) (show 0 ≤ L 0 0 by omega)
    rw [Int.add_mul, Int.one_mul, Int.mul_comm (L 1 0)] at m3
    obtain ⟨s, es⟩ : ∃ s : Nat, s = r * (L 0 0).toNat + n := ⟨_, rfl⟩
    have es' : (s : Int) = (r : Int) * L 0 0 + n := by
      rw [es, Int.natCast_add, Int.natCast_mul, Int.toNat_of_nonneg (by omega)]
    have t1 : (x4 * (hI h (V 16) 11)).toInt = (r : Int) * L 0 0 := by rw [tm (by rw [g2, e4]; omega), g2, e4]
    replace e := nm_s e; obtain ⟨v, uv, e⟩ := e
    have tv : v.toInt = (s : Int) := by rw [uv, ta (by rw [t1, e6]; omega), t1, e6, es']
    have cv : v.toNatClampNeg = s := by have := nc_i (x := v) (by omega); omega
    have iv : Rg 0 63 v := ⟨by omega, by omega⟩
    have mv := R.2.1 s (by omega)
    have bq := bs s (by omega)
    have t6 : (x6 + (1 : Int32)).toInt = ((n + 1 : Nat) : Int) := by rw [ta (by rw [z1]; omega), z1, e6]; omega
    have nxt : ∀ {g : Hp} {y5 : Int32}, FrV V (wl wou) h g → OuR V g (l ++ (rkT L P S r (n + 1)).2) → y5.toInt = ((rkT L P S r (n + 1)).1 : Int) → sX15_writeMen_118 F K (sX15_writeMen_19 F K f) g (V 16) (V 13) x2 x4 y5 x6 = some o → ∃ g, FrV V (wl wou) h g ∧ OuR V g (l ++ rkE L P S r) ∧ K g (V 16) (V 13) x2 (x4 + (-1 : Int32)) = some o := fun {g y5} G Og ey u => by
      unfold sX15_writeMen_118 at u
      obtain ⟨g', a, b, c'⟩ := ih (rw0_f D W G (by decide) rfl rfl rfl) (rbp_f D R G (by decide)) Og ey t6 (by omega) (nx_e u)
      exact ⟨g', fv_t G a, b, c'⟩
    -- a man, or a square that is not seen
    have man : ¬ (S s = true ∧ P.1 s = 0) → ∀ {x8 : Int32}, ((x8 = 0 ∧ S s = false) ∨ (¬ x8 = 0 ∧ S s = true)) → sX15_writeMen_79 F K (sX15_writeMen_19 F K f) h (V 16) (V 13) x2 x4 x5 x6 v x8 = some o → ∃ g, FrV V (wl wou) h g ∧ OuR V g (l ++ rkE L P S r) ∧ K g (V 16) (V 13) x2 (x4 + (-1 : Int32)) = some o := fun no {x8} e8 u => by
      have rt : rkT L P S r (n + 1) = (0, (rkT L P S r n).2 ++ emT (rkT L P S r n).1 ++ [chT L P S s]) := by
        rw [es] at no ⊢
        rw [rkT, if_neg no]
      have put : ∀ {g : Hp}, FrV V (wl wou) h g → OuR V g (l ++ ((rkT L P S r n).2 ++ emT (rkT L P S r n).1)) → sX15_writeMen_90 F K (sX15_writeMen_19 F K f) g (V 16) (V 13) x2 x4 x6 v x8 = some o → ∃ g, FrV V (wl wou) h g ∧ OuR V g (l ++ rkE L P S r) ∧ K g (V 16) (V 13) x2 (x4 + (-1 : Int32)) = some o := fun {g} G Og w => by
        unfold sX15_writeMen_90 sX15_writeMen_115 at w
        have fin : ∀ {g' : Hp} {cc : Int32}, g' = g → cc.toInt = chT L P S s → Rg 0 127 cc → (cl (sX15_say g' (V 16) cc) fun o_1 => sX15_writeMen_118 F K (sX15_writeMen_19 F K f) o_1 (V 16) (V 13) x2 x4 (0 : Int32) x6) = some o → ∃ g, FrV V (wl wou) h g ∧ OuR V g (l ++ rkE L P S r) ∧ K g (V 16) (V 13) x2 (x4 + (-1 : Int32)) = some o := fun {g' cc} eg ec ic w => by
          rw [eg] at w
          replace w := cl_s w; obtain ⟨o1, eo1, w⟩ := w
          obtain ⟨a, b⟩ := say_r D Og ic eo1
          rw [ec, List.append_assoc] at a
          exact nxt (fv_t G b) (by rw [rt]; exact a) (by rw [rt]; rfl) w
        unfold chT at fin
        rcases e8 with ⟨y, y'⟩ | ⟨y, y'⟩
        · rw [y', if_neg (by decide)] at fin
          exact fin rfl rfl ⟨by decide, by decide⟩ (bp_e y w)
        · rw [y', if_pos rfl] at fin
          replace w := bn_e y w
          have Rg' := rbp_f D R G (by decide)
          have mg := Rg'.2.1 s (by omega)
          replace w := ce_e Rg'.1.1 w
          replace w := gg_e w
          rw [cv] at w
          have mp : 0 < P.1 s := by
            have := (HM s (by omega)).1
            have : ¬ P.1 s = 0 := fun z => no ⟨y', z⟩
            omega
          replace w := cl_s w; obtain ⟨o4, eo4, w⟩ := w
          obtain ⟨w4, r4, i4⟩ := lto_r H T (rw0_f D W G (by decide) rfl rfl rfl) (by rw [mg]; exact mp) (by rw [mg]; exact ((HM s (by omega)).2 mp).2) eo4
          rw [mg] at r4
          exact fin w4 r4 i4 w
      unfold sX15_writeMen_79 at u
      rcases br_s u with ⟨d, u⟩ | ⟨d, u⟩
      · have d := le_i d
        rw [e5, z0] at d
        refine put fv_0 ?_ u
        unfold emT
        rw [if_neg (show ¬ 0 < (rkT L P S r n).1 by omega), List.append_nil]
        exact O
      · have d := nle_i d
        rw [e5, z0] at d
        replace u := cl_s u; obtain ⟨o3, eo3, u⟩ := u
        obtain ⟨a, b⟩ := sn_r D O e5 (by omega) (by omega) eo3
        rw [List.append_assoc] at a
        exact put b a u
    rcases br_s e with ⟨d, e⟩ | ⟨d, e⟩
    · have d := bit_test iv d
      rw [cv, bq] at d
      unfold sX15_writeMen_56 at e
      replace e := bn_e (by decide) e
      replace e := ce_e R.1.1 e
      replace e := gg_e e
      rcases br_s e with ⟨k, e⟩ | ⟨k, e⟩ <;> rw [cv] at k
      · rw [k, z0] at mv
        have rt : rkT L P S r (n + 1) = ((rkT L P S r n).1 + 1, (rkT L P S r n).2) := by
          rw [es] at d mv
          rw [rkT, if_pos ⟨d, mv.symm⟩]
        refine nxt (y5 := x5 + (1 : Int32)) fv_0 (by rw [rt]; exact O) ?_ (nx_e e)
        rw [rt, ta (by rw [z1]; omega), z1, e5]
        show ((rkT L P S r n).1 : Int) + 1 = (((rkT L P S r n).1 + 1 : Nat) : Int)
        omega
      · exact man (fun z => k (Int32.toInt_inj.mp (by rw [mv, z.2, z0]))) (Or.inr ⟨by decide, d⟩) e
    · have d : S s = false := by
        cases y : S s with
        | false => rfl
        | true => exact absurd (bit_tst iv (by rw [cv, bq, y])) d
      unfold sX15_writeMen_56 at e
      replace e := bp_e rfl e
      exact man (fun z => by rw [d] at z; exact absurd z.1 (by decide)) (Or.inl ⟨rfl, d⟩) e
theorem wm_8 (D : VD V) {x2 : Int64} {S : Nat → Bool} (H : LOk L) (T : LtO L) (HM : MOk L P.1) (bs : ∀ q, q < 64 → bitJ x2 q = S q) : ∀ (f : Nat) {h : Hp} {x4 : Int32} {n : Nat} {l : List Int}, RW0 V h L → RbP V h P → OuR V h l → x4.toInt = (n : Int) - 1 → (n : Int) ≤ L 1 0 → sX15_writeMen_8 F f h (V 16) (V 13) x2 x4 = some o → FrV V (wl wou) h o ∧ OuR V o (l ++ mnT L P S n) := by
  have z0 : (0 : Int32).toInt = 0 := rfl
  have zm : (-1 : Int32).toInt = -1 := by decide
  have ra := H.2.1
  have fi := H.1
  intro f
  induction f with
  | zero => intro h x4 n l _ _ _ _ _ e; exact absurd e (by rw [sX15_writeMen_8]; exact fun z => nomatch z)
  | succ f ih =>
    intro h x4 n l W R O e4 nl e
    rw [sX15_writeMen_8] at e
    rcases br_s e with ⟨c, e⟩ | ⟨c, e⟩
    · have c := lt_i c
      rw [e4, z0] at c
      have : n = 0 := by omega
      rw [so_e e, this]
      unfold mnT
      rw [List.append_nil]
      exact ⟨fv_0, O⟩
    have c := nlt_i c
    rw [e4, z0] at c
    obtain ⟨r, er⟩ : ∃ r, n = r + 1 := ⟨n - 1, by omega⟩
    rw [er] at nl e4 ⊢
    have e4 : x4.toInt = (r : Int) := by omega
    obtain ⟨g, G, Og, u⟩ := wm_19 (l := l) (S := S) D H T HM bs e4 (by omega) F (n := 0) W R (by unfold rkT; rw [List.append_nil]; exact O) rfl rfl (by omega) e
    obtain ⟨a, b⟩ := ih (n := r) (rw0_f D W G (by decide) rfl rfl rfl) (rbp_f D R G (by decide)) Og (by rw [ta (by rw [zm]; omega), zm, e4]; omega) (by omega) u
    unfold mnT
    rw [← List.append_assoc]
    exact ⟨fv_t G a, b⟩
/-- the men's text: the reference -/
theorem wm_r (D : VD V) {x2 : Int64} {S : Nat → Bool} (H : LOk L) (T : LtO L) (HM : MOk L P.1) (bs : ∀ q, q < 64 → bitJ x2 q = S q) (W : RW0 V h L) (R : RbP V h P) (O : OuR V h l) (e : sX15_writeMen F h (V 16) (V 13) x2 = some o) : FrV V (wl wou) h o ∧ OuR V o (l ++ mnT L P S (L 1 0).toNat) := by
  have z1 : (1 : Int32).toInt = 1 := rfl
  have ra := H.2.1
  have g3 := W.2.2.2.1
  unfold sX15_writeMen at e
  replace e := nx_e e
  exact wm_8 D H T HM bs F (n := (L 1 0).toNat) W R O (by rw [ts (by rw [g3, z1]; omega), g3, z1]; omega) (by omega) e
end
end
section
/-! texts of positions: the men as the class writes them -/
theorem emt_1 {n : Nat} : (emT n).length ≤ 1 := by
  unfold emT
  split
  · exact Nat.le_refl _
  · exact Nat.zero_le _
theorem rkt_len {L : Nat → Nat → Int} {P : Pz} {S : Nat → Bool} {r : Nat} : ∀ f, (rkT L P S r f).2.length + (emT (rkT L P S r f).1).length ≤ f
  | 0 => by
    unfold rkT emT
    exact Nat.le_refl _
  | f + 1 => by
    have ih := rkt_len (L := L) (P := P) (S := S) (r := r) f
    rw [rkT]
    split
    · rename_i c
      show (rkT L P S r f).2.length + (emT ((rkT L P S r f).1 + 1)).length ≤ f + 1
      have a := emt_1 (n := (rkT L P S r f).1 + 1)
      omega
    · show ((rkT L P S r f).2 ++ emT (rkT L P S r f).1 ++ [chT L P S (r * (L 0 0).toNat + f)]).length + (emT 0).length ≤ f + 1
      rw [List.length_append, List.length_append]
      have : (emT 0).length = 0 := rfl
      show (rkT L P S r f).2.length + (emT (rkT L P S r f).1).length + 1 + (emT 0).length ≤ f + 1
      omega
theorem rke_len {L : Nat → Nat → Int} {P : Pz} {S : Nat → Bool} {r : Nat} (H : LOk L) : (rkE L P S r).length ≤ 9 := by
  have a := rkt_len (L := L) (P := P) (S := S) (r := r) (L 0 0).toNat
  have fi := H.1
  unfold rkE
  rw [List.length_append, List.length_append]
  have b : (if 0 < r then [(47 : Int)] else []).length ≤ 1 := by
    split
    · exact Nat.le_refl _
    · exact Nat.zero_le _
  omega
theorem mnt_len {L : Nat → Nat → Int} {P : Pz} {S : Nat → Bool} (H : LOk L) : ∀ n, (mnT L P S n).length ≤ 9 * n
  | 0 => Nat.le_refl _
  | n + 1 => by
    have a := mnt_len (P := P) (S := S) H n
    have b := rke_len (P := P) (S := S) (r := n) H
    unfold mnT
    rw [List.length_append]
    omega
def OuC (V : Nat → Nat) (h : Hp) (l : List Int) : Prop := hR h (V 320) 0 = some (V 321) ∧ hN h (V 321) ≤ 100000 ∧ (hI h (V 320) 1).toInt = (l.length : Int) ∧ ∀ i, i < l.length → l[i]? = some (hI h (V 321) i).toInt
abbrev wot : List (Nat × Nat) := [(320, 1), (321, 999)]
theorem and255w {x : Int32} (i : Rg 0 127 x) : x &&& (255 : Int32) = x := by
  have i0 := i.1
  have i1 := i.2
  have all : ∀ n : Fin 128, nI n.val &&& (255 : Int32) = nI n.val := by decide +kernel
  have e : x = nI x.toInt.toNat := Int32.toInt_inj.mp (by rw [z_toInt (by omega)]; omega)
  rw [e]
  exact all ⟨x.toInt.toNat, by omega⟩
section
variable {F : Nat} {V : Nat → Nat} {L : Nat → Nat → Int} {h o : Hp} {P : Pz} {l : List Int}
theorem apd_c (D : VD V) {c : Int32} (O : OuC V h l) (cap : l.length < hN h (V 321)) (ic : Rg 0 127 c) (e : sX9_append h (V 320) c = some o) : OuC V o (l ++ [c.toInt]) ∧ FrV V (wl wot) h o ∧ hN o (V 321) = hN h (V 321) := by
  have z1 : (1 : Int32).toInt = 1 := rfl
  obtain ⟨a, b, cl', d⟩ := O
  unfold sX9_append sX9_append_36 at e
  replace e := ce_e a e
  replace e := bn_e (fun z => by have := le_i z; rw [z_toInt (by omega), cl'] at this; omega) e
  replace e := ce_e a e
  replace e := gg_e e
  have cn : (hI h (V 320) 1).toNatClampNeg = l.length := by have := nc_i (x := hI h (V 320) 1) (by omega); omega
  replace e := nm_s e; obtain ⟨h3, u3, e⟩ := e
  replace e := nm_s e; obtain ⟨h4, u4, e⟩ := e
  rw [cn, and255w ic] at u3
  have A3 : FrV V (wl wot) h h3 := by rw [u3]; exact fv_w (wl_9 (by decide))
  have A4 : FrV V (wl wot) h h4 := by rw [u4]; exact fv_t A3 (fv_w rfl)
  have k3 : hI h3 (V 320) 1 = hI h (V 320) 1 := by rw [u3, rI_a (vne D)]
  have eo : o = h4 := (so_e e)
  have hn : hN h4 (V 321) = hN h (V 321) := by rw [u4, u3]; rfl
  rw [eo]
  refine ⟨⟨by rw [A4.1]; exact a, by rw [hn]; exact b, ?_, fun i hi => ?_⟩, A4, hn⟩
  · rw [u4, rI_s, k3, ta (by rw [z1]; omega), z1, cl', List.length_append]
    rfl
  · rw [List.length_append] at hi
    have hi : i < l.length + 1 := hi
    have k4 : hI h4 (V 321) i = hI h3 (V 321) i := by rw [u4, rI_a (vne D)]
    rw [k4, u3]
    by_cases y : i = l.length
    · rw [y, rI_s, List.getElem?_append_right (Nat.le_refl _), Nat.sub_self]
      rfl
    · rw [rI_o (fun z => y z), List.getElem?_append_left (by omega)]
      exact d i (by omega)
theorem we_c (D : VD V) {x : Int32} {n : Nat} (O : OuC V h l) (cap : l.length < hN h (V 321)) (ex : x.toInt = (n : Int)) (n9 : n ≤ 9) (e : sX7_writeEmpty h x (V 320) = some o) : OuC V o (l ++ emT n) ∧ FrV V (wl wot) h o ∧ hN o (V 321) = hN h (V 321) := by
  have z0 : (0 : Int32).toInt = 0 := rfl
  have z48 : (48 : Int32).toInt = 48 := rfl
  unfold sX7_writeEmpty sX7_writeEmpty_12 at e
  unfold emT
  rcases br_s e with ⟨c, e⟩ | ⟨c, e⟩
  · have c := le_i c
    rw [ex, z0] at c
    rw [if_neg (by omega), List.append_nil, so_e e]
    exact ⟨O, fv_0, rfl⟩
  · have c := nle_i c
    rw [ex, z0] at c
    have t : ((48 : Int32) + x).toInt = 48 + (n : Int) := by rw [ta (by rw [z48, ex]; omega), z48, ex]
    replace e := cl_s e; obtain ⟨o2, eo2, e⟩ := e
    rw [if_pos (by omega), so_e e, ← t]
    exact apd_c D O cap ⟨by omega, by omega⟩ eo2
theorem lto_c {x : Int32} {v : Int} {o : Int32 × Hp} (H : LOk L) (T : LtO L) (lw : CLwC V h L) (ex : x.toInt = v - 1) (v0 : 0 < v) (vL : v ≤ 2 * L 2 0) (e : sX1_letterOf h (V 2) x = some o) : o.2 = h ∧ o.1.toInt = ltP L v ∧ Rg 0 127 o.1 := by
  have z0 : (0 : Int32).toInt = 0 := rfl
  have z32 : (32 : Int32).toInt = 32 := rfl
  have L2 := H.2.2.1
  obtain ⟨mL, mE⟩ := mno_lt (L := L) v0 vL
  have sdv : (x &&& (1 : Int32)).toInt = (v - 1) % 2 := by rw [and1_i (by omega), ex]
  have sh : (x >>> ((1 : Int32) &&& 31)).toInt = ((mnO v : Nat) : Int) := by
    rw [shr_i 1 (by decide), ex, mE]
    rfl
  have l3 := lw.1.2.2.2.1
  have lt := T _ mL
  unfold sX1_letterOf sX1_letterOf_16 sX1_letterOf_43 at e
  replace e := nm_s e; obtain ⟨v1, u1, e⟩ := e
  rw [← u1] at sh
  have cm : v1.toNatClampNeg = mnO v := by have := nc_i (x := v1) (by omega); omega
  have k := lw.2.2.2.2.2.2 (mnO v) mL
  replace e := bn_e (fun z => by have := lt_i z; rw [sh, z0] at this; omega) e
  replace e := bp_e (ii_lt.mpr (by rw [sh, l3]; exact mL)) e
  unfold ltP
  rcases br_s e with ⟨c, e⟩ | ⟨c, e⟩
  · rw [c, z0] at sdv
    replace e := ce_e lw.2.2.2.2.2.1 e
    replace e := gg_e e
    rw [if_pos sdv.symm, so_e e]
    have t : ((hI h (V 27) v1.toNatClampNeg) - (32 : Int32)).toInt = L 73 (mnO v) - 32 := by
      rw [cm, ts (by rw [k, z32]; omega), k, z32]
    exact ⟨rfl, t, ⟨by show 0 ≤ ((hI h (V 27) v1.toNatClampNeg) - (32 : Int32)).toInt; omega, by show ((hI h (V 27) v1.toNatClampNeg) - (32 : Int32)).toInt ≤ 127; omega⟩⟩
  · replace e := ce_e lw.2.2.2.2.2.1 e
    replace e := gg_e e
    rw [if_neg (fun z => c (Int32.toInt_inj.mp (by rw [sdv, z, z0]))), so_e e]
    have t : (hI h (V 27) v1.toNatClampNeg).toInt = L 73 (mnO v) := by rw [cm, k]
    exact ⟨rfl, t, ⟨by show 0 ≤ (hI h (V 27) v1.toNatClampNeg).toInt; omega, by show (hI h (V 27) v1.toNatClampNeg).toInt ≤ 127; omega⟩⟩
def WrC (V : Nat → Nat) (h : Hp) (L : Nat → Nat → Int) (P : Pz) : Prop := hR h (V 7) 0 = some (V 2) ∧ CLwC V h L ∧ CpP V h (L 10 0) P
theorem wrc_f (D : VD V) {g : Hp} (W : WrC V h L P) (A : FrV V (wl wot) h g) : WrC V g L P := ⟨by rw [A.1]; exact W.1, clw_fr D W.2.1 A (by decide), cpp_f D W.2.2 A (by decide)⟩
/-- one rank -/
theorem wk_22 (D : VD V) {K : Hp → Nat → Nat → Int64 → Nat → Int32 → Option Hp} {x2 : Int64} {x5 : Int32} {S : Nat → Bool} {r cap : Nat} (H : LOk L) (T : LtO L) (HM : MOk L P.1) (bs : ∀ q, q < 64 → bitJ x2 q = S q) (e5 : x5.toInt = (r : Int)) (rL : (r : Int) < L 1 0) (cp : l.length + 9 ≤ cap) : ∀ (f : Nat) {h : Hp} {x6 x7 : Int32} {n : Nat}, WrC V h L P → hN h (V 321) = cap → OuC V h (l ++ (rkT L P S r n).2) → x6.toInt = ((rkT L P S r n).1 : Int) → x7.toInt = (n : Int) → (n : Int) ≤ L 0 0 → sX7_writeRanks_22 F K f h (V 7) (V 4) x2 (V 320) x5 x6 x7 = some o → ∃ g, FrV V (wl wot) h g ∧ hN g (V 321) = cap ∧ OuC V g (l ++ rkE L P S r) ∧ K g (V 7) (V 4) x2 (V 320) (x5 + (-1 : Int32)) = some o := by
  have z1 : (1 : Int32).toInt = 1 := rfl
  have z0 : (0 : Int32).toInt = 0 := rfl
  have zm : (-1 : Int32).toInt = -1 := by decide
  have fi := H.1
  have ra := H.2.1
  have L2 := H.2.2.1
  have sq := sq_64 H
  intro f
  induction f with
  | zero => intro h x6 x7 n _ _ _ _ _ _ e; exact absurd e (by rw [sX7_writeRanks_22]; exact fun z => nomatch z)
  | succ f ih =>
    intro h x6 x7 n W hn O e6 e7 nl e
    have g2 := W.2.1.1.1
    have le := rkt_le (L := L) (P := P) (S := S) (r := r) n
    have len := rkt_len (L := L) (P := P) (S := S) (r := r) n
    have ln1 : (l ++ (rkT L P S r n).2).length < hN h (V 321) := by rw [List.length_append, hn]; omega
    have ln2 : (l ++ ((rkT L P S r n).2 ++ emT (rkT L P S r n).1)).length < cap := by rw [List.length_append, List.length_append]; omega
    rw [sX7_writeRanks_22] at e
    replace e := ce_e W.1 e
    rcases br_s e with ⟨c, e⟩ | ⟨c, e⟩
    · have c := le_i c
      rw [g2, e7] at c
      have nE : (L 0 0).toNat = n := by omega
      replace e := cl_s e; obtain ⟨o3, eo3, e⟩ := e
      obtain ⟨Og, G, hg⟩ := we_c D O ln1 e6 (by omega) eo3
      rw [List.append_assoc] at Og
      unfold sX7_writeRanks_153 at e
      unfold rkE
      rw [nE]
      rcases br_s e with ⟨d, e⟩ | ⟨d, e⟩
      · have d := le_i d
        rw [e5, z0] at d
        rw [if_neg (show ¬ 0 < r by omega), List.append_nil]
        exact ⟨o3, G, by rw [hg, hn], Og, nx_e e⟩
      · have d := nle_i d
        rw [e5, z0] at d
        rw [if_pos (show 0 < r by omega), ← List.append_assoc]
        replace e := cl_s e; obtain ⟨o5, eo5, e⟩ := e
        obtain ⟨a, b, b'⟩ := apd_c D Og (by rw [hg, hn]; exact ln2) ⟨by decide, by decide⟩ eo5
        exact ⟨o5, fv_t G b, by rw [b', hg, hn], a, nx_e e⟩
    have c := nle_i c
    rw [g2, e7] at c
    have m1 := mb (n := 8) (m := 8) (k := (r : Int)) (d := L 0 0) ⟨by omega, by omega⟩ ⟨by omega, by omega⟩ (by decide)
    have m2 := Int.mul_nonneg (show (0 : Int) ≤ r by omega) (show 0 ≤ L 0 0 by omega)
    have m3 := Int.mul_le_mul_of_nonneg_right (show (r : Int) + 1 ≤ L 1 0 by omega) (show 0 ≤ L 0 0 by omega)
    rw [Int.add_mul, Int.one_mul, Int.mul_comm (L 1 0)] at m3
    obtain ⟨s, es⟩ : ∃ s : Nat, s = r * (L 0 0).toNat + n := ⟨_, rfl⟩
    have es' : (s : Int) = (r : Int) * L 0 0 + n := by
      rw [es, Int.natCast_add, Int.natCast_mul, Int.toNat_of_nonneg (by omega)]
    have t1 : (x5 * (hI h (V 2) 0)).toInt = (r : Int) * L 0 0 := by rw [tm (by rw [g2, e5]; omega), g2, e5]
    replace e := ce_e W.1 e
    replace e := nm_s e; obtain ⟨v, uv, e⟩ := e
    have tv : v.toInt = (s : Int) := by rw [uv, ta (by rw [t1, e7]; omega), t1, e7, es']
    have cv : v.toNatClampNeg = s := by have := nc_i (x := v) (by omega); omega
    have iv : Rg 0 63 v := ⟨by omega, by omega⟩
    have mv := W.2.2.2.1.1 s (by omega)
    have bq := bs s (by omega)
    have m0 := (HM s (by omega)).1
    have t7 : (x7 + (1 : Int32)).toInt = ((n + 1 : Nat) : Int) := by rw [ta (by rw [z1]; omega), z1, e7]; omega
    have nxt : ∀ {g : Hp} {y6 : Int32}, FrV V (wl wot) h g → hN g (V 321) = cap → OuC V g (l ++ (rkT L P S r (n + 1)).2) → y6.toInt = ((rkT L P S r (n + 1)).1 : Int) → sX7_writeRanks_128 F K (sX7_writeRanks_22 F K f) g (V 7) (V 4) x2 (V 320) x5 y6 x7 = some o → ∃ g, FrV V (wl wot) h g ∧ hN g (V 321) = cap ∧ OuC V g (l ++ rkE L P S r) ∧ K g (V 7) (V 4) x2 (V 320) (x5 + (-1 : Int32)) = some o := fun {g y6} G hg Og ey u => by
      unfold sX7_writeRanks_128 at u
      obtain ⟨g', a, b, c', d'⟩ := ih (wrc_f D W G) hg Og ey t7 (by omega) (nx_e u)
      exact ⟨g', fv_t G a, b, c', d'⟩
    -- a man, or a square that is not seen
    have man : ¬ (S s = true ∧ P.1 s = 0) → ∀ {x9 : Int32}, ((x9 = 0 ∧ S s = true) ∨ (¬ x9 = 0 ∧ S s = false)) → sX7_writeRanks_89 F K (sX7_writeRanks_22 F K f) h (V 7) (V 4) x2 (V 320) x5 x6 x7 v x9 = some o → ∃ g, FrV V (wl wot) h g ∧ hN g (V 321) = cap ∧ OuC V g (l ++ rkE L P S r) ∧ K g (V 7) (V 4) x2 (V 320) (x5 + (-1 : Int32)) = some o := fun no {x9} e9 u => by
      have rt : rkT L P S r (n + 1) = (0, (rkT L P S r n).2 ++ emT (rkT L P S r n).1 ++ [chT L P S s]) := by
        rw [es] at no ⊢
        rw [rkT, if_neg no]
      unfold sX7_writeRanks_89 sX7_writeRanks_125 at u
      replace u := cl_s u; obtain ⟨g, eg, u⟩ := u
      obtain ⟨Og, G, hg⟩ := we_c D O ln1 e6 (by omega) eg
      rw [List.append_assoc] at Og
      have fin : ∀ {g' : Hp} {cc : Int32}, g' = g → cc.toInt = chT L P S s → Rg 0 127 cc → (cl (sX9_append g' (V 320) cc) fun o_1 => sX7_writeRanks_128 F K (sX7_writeRanks_22 F K f) o_1 (V 7) (V 4) x2 (V 320) x5 (0 : Int32) x7) = some o → ∃ g, FrV V (wl wot) h g ∧ hN g (V 321) = cap ∧ OuC V g (l ++ rkE L P S r) ∧ K g (V 7) (V 4) x2 (V 320) (x5 + (-1 : Int32)) = some o := fun {g' cc} eg' ec ic w => by
        rw [eg'] at w
        replace w := cl_s w; obtain ⟨o1, eo1, w⟩ := w
        obtain ⟨a, b, b'⟩ := apd_c D Og (by rw [hg, hn]; exact ln2) ic eo1
        rw [ec, List.append_assoc] at a
        exact nxt (fv_t G b) (by rw [b', hg, hn]) (by rw [rt]; exact a) (by rw [rt]; rfl) w
      unfold chT at fin
      have Wg := wrc_f D W G
      rcases e9 with ⟨y, y'⟩ | ⟨y, y'⟩
      · rw [y', if_pos rfl] at fin
        replace u := bp_e y u
        have mg := Wg.2.2.2.1.1 s (by omega)
        have mp : 0 < P.1 s := by
          have : ¬ P.1 s = 0 := fun z => no ⟨y', z⟩
          omega
        replace u := ce_e Wg.1 u
        replace u := ce_e Wg.2.2.1.1 u
        replace u := gg_e u
        rw [cv] at u
        replace u := cl_s u; obtain ⟨o6, eo6, u⟩ := u
        obtain ⟨w6, r6, i6⟩ := lto_c H T Wg.2.1 mg mp ((HM s (by omega)).2 mp).2 eo6
        exact fin w6 r6 i6 u
      · rw [y', if_neg (by decide)] at fin
        exact fin rfl rfl ⟨by decide, by decide⟩ (bn_e y u)
    rcases br_s e with ⟨d, e⟩ | ⟨d, e⟩
    · have d : S s = false := by
        have := j_zero.mp (cmp_eq d) 0 (by decide)
        rw [bj_and, ush_bit iv, cv, bq] at this
        cases y : S s with
        | false => rfl
        | true => rw [y, Bool.true_and] at this; exact absurd this (by decide)
      unfold sX7_writeRanks_65 at e
      replace e := bn_e (by decide) e
      exact man (fun z => by rw [d] at z; exact absurd z.1 (by decide)) (Or.inr ⟨by decide, d⟩) e
    · have d := bit_set iv d
      rw [cv, bq] at d
      unfold sX7_writeRanks_65 at e
      replace e := bp_e rfl e
      replace e := ce_e W.2.2.1.1 e
      replace e := gg_e e
      rcases br_s e with ⟨k, e⟩ | ⟨k, e⟩ <;> rw [cv] at k
      · rw [k, zm] at mv
        have rt : rkT L P S r (n + 1) = ((rkT L P S r n).1 + 1, (rkT L P S r n).2) := by
          rw [es] at d mv
          rw [rkT, if_pos ⟨d, by omega⟩]
        refine nxt (y6 := x6 + (1 : Int32)) fv_0 hn (by rw [rt]; exact O) ?_ (nx_e e)
        rw [rt, ta (by rw [z1]; omega), z1, e6]
        show ((rkT L P S r n).1 : Int) + 1 = (((rkT L P S r n).1 + 1 : Nat) : Int)
        omega
      · exact man (fun z => k (Int32.toInt_inj.mp (by rw [mv, z.2, zm]; rfl))) (Or.inl ⟨rfl, d⟩) e
theorem wk_11 (D : VD V) {x2 : Int64} {S : Nat → Bool} {cap : Nat} (H : LOk L) (T : LtO L) (HM : MOk L P.1) (bs : ∀ q, q < 64 → bitJ x2 q = S q) : ∀ (f : Nat) {h : Hp} {x5 : Int32} {n : Nat} {l : List Int}, WrC V h L P → hN h (V 321) = cap → l.length + 9 * n ≤ cap → OuC V h l → x5.toInt = (n : Int) - 1 → (n : Int) ≤ L 1 0 → sX7_writeRanks_11 F f h (V 7) (V 4) x2 (V 320) x5 = some o → FrV V (wl wot) h o ∧ hN o (V 321) = cap ∧ OuC V o (l ++ mnT L P S n) := by
  have z0 : (0 : Int32).toInt = 0 := rfl
  have zm : (-1 : Int32).toInt = -1 := by decide
  have ra := H.2.1
  have fi := H.1
  intro f
  induction f with
  | zero => intro h x5 n l _ _ _ _ _ _ e; exact absurd e (by rw [sX7_writeRanks_11]; exact fun z => nomatch z)
  | succ f ih =>
    intro h x5 n l W hn cp O e5 nl e
    rw [sX7_writeRanks_11] at e
    rcases br_s e with ⟨c, e⟩ | ⟨c, e⟩
    · have c := lt_i c
      rw [e5, z0] at c
      have : n = 0 := by omega
      rw [so_e e, this]
      unfold mnT
      rw [List.append_nil]
      exact ⟨fv_0, hn, O⟩
    have c := nlt_i c
    rw [e5, z0] at c
    obtain ⟨r, er⟩ : ∃ r, n = r + 1 := ⟨n - 1, by omega⟩
    rw [er] at nl e5 cp ⊢
    have e5 : x5.toInt = (r : Int) := by omega
    obtain ⟨g, G, hg, Og, u⟩ := wk_22 (l := l) (S := S) (cap := cap) D H T HM bs e5 (by omega) (by omega) F (n := 0) W hn (by unfold rkT; rw [List.append_nil]; exact O) rfl rfl (by omega) e
    have rl := rke_len (P := P) (S := S) (r := r) H
    obtain ⟨a, a', b⟩ := ih (n := r) (wrc_f D W G) hg (by rw [List.length_append]; omega) Og (by rw [ta (by rw [zm]; omega), zm, e5]; omega) (by omega) u
    unfold mnT
    rw [← List.append_assoc]
    exact ⟨fv_t G a, a', b⟩
/-- the men's text: the class -/
theorem wk_c (D : VD V) {x2 : Int64} {S : Nat → Bool} (H : LOk L) (T : LtO L) (HM : MOk L P.1) (bs : ∀ q, q < 64 → bitJ x2 q = S q) (W : WrC V h L P) (cp : l.length + 72 ≤ hN h (V 321)) (O : OuC V h l) (e : sX7_writeRanks F h (V 7) (V 4) x2 (V 320) = some o) : FrV V (wl wot) h o ∧ hN o (V 321) = hN h (V 321) ∧ OuC V o (l ++ mnT L P S (L 1 0).toNat) := by
  have z1 : (1 : Int32).toInt = 1 := rfl
  have ra := H.2.1
  have g3 := W.2.1.1.2.1
  unfold sX7_writeRanks at e
  replace e := ce_e W.1 e
  replace e := nx_e e
  exact wk_11 D H T HM bs F (n := (L 1 0).toNat) W rfl (by omega) O (by rw [ts (by rw [g3, z1]; omega), g3, z1]; omega) (by omega) e
end
end
section
/-! texts of positions: all behind the men, as the reference writes it -/
def sqTx (L : Nat → Nat → Int) (s : Nat) : List Int := [97 + (s : Int) % L 0 0, 49 + (s : Int) / L 0 0]
def rgT (L : Nat → Nat → Int) (P : Pz) : Nat → List Int
  | 0 => []
  | n + 1 => rgT L P n ++ (if pzR P n = true then sqTx L n else [])
def psT (L : Nat → Nat → Int) (P : Pz) : Nat → List Int
  | 0 => []
  | n + 1 => psT L P n ++ sqTx L (pzQ P n)
def hdM (L : Nat → Nat → Int) (m d k : Nat) : List Int := List.replicate k (ltP L (1 + 2 * (m : Int) + d))
def hdT (L : Nat → Nat → Int) (P : Pz) (d : Nat) : Nat → List Int
  | 0 => []
  | m + 1 => hdT L P d m ++ hdM L m d (pzH P (2 * m + d)).toNat
/-- a number by its figures -/
def nmD : Nat → Nat → List Int
  | 0, _ => []
  | d + 1, n => if n < 10 then [48 + (n : Int)] else nmD d (n / 10) ++ [48 + ((n % 10 : Nat) : Int)]
def hdA (L : Nat → Nat → Int) (P : Pz) : List Int := hdT L P 0 (L 2 0).toNat ++ hdT L P 1 (L 2 0).toNat
def tl4 (P : Pz) : List Int := [32, 48 + pzC P 0, 48 + pzC P 1, 32] ++ nmD 12 (pzK P).toNat
def tl3 (L : Nat → Nat → Int) (P : Pz) : List Int := hdA L P ++ (if hdA L P = [] then [45] else []) ++ tl4 P
def tl2 (L : Nat → Nat → Int) (P : Pz) : List Int := (if pzN P = 0 then [45] else []) ++ psT L P (pzN P) ++ [32] ++ tl3 L P
section
variable {F : Nat} {V : Nat → Nat} {L : Nat → Nat → Int} {h o : Hp} {P : Pz} {l : List Int}
def WrR (V : Nat → Nat) (h : Hp) (L : Nat → Nat → Int) (P : Pz) : Prop := RW0 V h L ∧ RbP V h P
theorem wrr_f (D : VD V) {g : Hp} (W : WrR V h L P) (A : FrV V (wl wou) h g) : WrR V g L P := ⟨rw0_f D W.1 A (by decide) rfl rfl rfl, rbp_f D W.2 A (by decide)⟩
theorem ss_r (D : VD V) {x : Int32} {s : Nat} (H : LOk L) (W : WrR V h L P) (O : OuR V h l) (ex : x.toInt = (s : Int)) (sL : (s : Int) < L 0 0 * L 1 0) (e : sX15_saySquare h (V 16) x = some o) : OuR V o (l ++ sqTx L s) ∧ FrV V (wl wou) h o := by
  have z97 : (97 : Int32).toInt = 97 := rfl
  have z49 : (49 : Int32).toInt = 49 := rfl
  have sq := sq_64 H
  have fi := H.1
  have g2 := W.1.2.2.1
  have iA : Rg 3 8 (hI h (V 16) 11) := ⟨by omega, by omega⟩
  have ix : Rg 0 63 x := ⟨by omega, by omega⟩
  have t1 := tr ix iA ⟨by decide, by decide⟩
  have t2 := td ix iA ⟨by decide, by decide⟩
  rw [ex, g2] at t1 t2
  have r0 := Int.emod_nonneg (s : Int) (show L 0 0 ≠ 0 by omega)
  have r1 := Int.emod_lt_of_pos (s : Int) (show 0 < L 0 0 by omega)
  have d0 : 0 ≤ (s : Int) / L 0 0 := Int.ediv_nonneg (by omega) (by omega)
  have d1 : (s : Int) / L 0 0 ≤ s := Int.ediv_le_self _ (by omega)
  unfold sX15_saySquare sX15_fileOf at e
  replace e := cl_s e; obtain ⟨o1, eo1, e⟩ := e
  rw [so_e (gg_e eo1)] at e
  replace e := cl_s e; obtain ⟨o2, eo2, e⟩ := e
  have ta1 : ((97 : Int32) + (x - x / (hI h (V 16) 11) * (hI h (V 16) 11))).toInt = 97 + (s : Int) % L 0 0 := by rw [ta (by rw [t1, z97]; omega), t1, z97]
  obtain ⟨O2, A2⟩ := say_r D O (c := (97 : Int32) + (x - x / (hI h (V 16) 11) * (hI h (V 16) 11))) ⟨by omega, by omega⟩ eo2
  have k11 : hI o2 (V 16) 11 = hI h (V 16) 11 := fvi D A2 16 11
  rw [k11] at e
  replace e := gg_e e
  replace e := cl_s e; obtain ⟨o4, eo4, e⟩ := e
  have ta2 : ((49 : Int32) + (x / (hI h (V 16) 11))).toInt = 49 + (s : Int) / L 0 0 := by rw [ta (by rw [t2, z49]; omega), t2, z49]
  obtain ⟨O4, A4⟩ := say_r D O2 (c := (49 : Int32) + (x / (hI h (V 16) 11))) ⟨by omega, by omega⟩ eo4
  rw [so_e e]
  rw [ta1, ta2, List.append_assoc] at O4
  exact ⟨O4, fv_t A2 A4⟩
theorem nm_q (D : VD V) : ∀ (d : Nat) {h o : Hp} {x : Int32} {n : Nat} {l : List Int}, OuR V h l → x.toInt = (n : Int) → qX15_sayNumber F d h (V 16) x = some o → OuR V o (l ++ nmD d n) ∧ FrV V (wl wou) h o := by
  have z10 : (10 : Int32).toInt = 10 := rfl
  have z48 : (48 : Int32).toInt = 48 := rfl
  intro d
  induction d with
  | zero => intro h o x n l _ _ e; exact absurd e (by rw [qX15_sayNumber]; exact fun z => nomatch z)
  | succ d ih =>
    intro h o x n l O ex e
    have mx : x.toInt ≤ 2147483647 := Int32.toInt_le _
    rw [qX15_sayNumber] at e
    unfold oX15_sayNumber sX15_sayNumber_14 at e
    have ix : Rg 0 2147483647 x := ⟨by omega, by omega⟩
    have iT : Rg 10 10 (10 : Int32) := ⟨by decide, by decide⟩
    have t1 := tr ix iT ⟨by decide, by decide⟩
    have t2 := td ix iT ⟨by decide, by decide⟩
    rw [ex, z10] at t1 t2
    have t3 : ((48 : Int32) + (x - x / (10 : Int32) * (10 : Int32))).toInt = 48 + ((n % 10 : Nat) : Int) := by rw [ta (by rw [t1, z48]; omega), t1, z48]; omega
    unfold nmD
    rcases br_s e with ⟨c, e⟩ | ⟨c, e⟩
    · have c := lt_i c
      rw [ex, z10] at c
      replace e := cl_s e; obtain ⟨o1, eo1, e⟩ := e
      obtain ⟨a, b⟩ := say_r D O (c := (48 : Int32) + (x - x / (10 : Int32) * (10 : Int32))) ⟨by omega, by omega⟩ eo1
      rw [if_pos (by omega), so_e e]
      rw [t3, show n % 10 = n by omega] at a
      exact ⟨a, b⟩
    · have c := nlt_i c
      rw [ex, z10] at c
      replace e := cl_s e; obtain ⟨o2, eo2, e⟩ := e
      obtain ⟨a2, b2⟩ := ih (n := n / 10) O (by rw [t2]; omega) eo2
      replace e := cl_s e; obtain ⟨o1, eo1, e⟩ := e
      obtain ⟨a, b⟩ := say_r D a2 (c := (48 : Int32) + (x - x / (10 : Int32) * (10 : Int32))) ⟨by omega, by omega⟩ eo1
      rw [if_neg (by omega), so_e e, ← List.append_assoc]
      rw [t3] at a
      exact ⟨a, fv_t b2 b⟩
/-- checks and count -/
theorem wa_230 (D : VD V) (O : PzOk L P) (W : WrR V h L P) (Ou : OuR V h l) (e : sX15_writeAll_230 F h (V 16) (V 13) = some o) : OuR V o (l ++ tl4 P) ∧ FrV V (wl wou) h o := by
  have z48 : (48 : Int32).toInt = 48 := rfl
  have n0 : (0 : Int32).toNatClampNeg = 0 := rfl
  have n1 : (1 : Int32).toNatClampNeg = 1 := rfl
  have b0 := O.2.2.2.2.2.2.1 0 (by decide)
  have b1 := O.2.2.2.2.2.2.1 1 (by decide)
  have bk := O.2.2.2.2.2.2.2
  unfold sX15_writeAll_230 at e
  replace e := cl_s e; obtain ⟨o1, eo1, e⟩ := e
  obtain ⟨O1, A1⟩ := say_r D Ou ⟨by decide, by decide⟩ eo1
  have W1 := wrr_f D W A1
  replace e := ce_e W1.2.1.2.2.2 e
  replace e := gg_e e
  rw [n0] at e
  have c0 := W1.2.2.2.2.2.2.2.2.1 0 (by decide)
  have t0 : ((48 : Int32) + (hI o1 (V 65) 0)).toInt = 48 + pzC P 0 := by rw [ta (by rw [c0, z48]; omega), c0, z48]
  replace e := cl_s e; obtain ⟨o4, eo4, e⟩ := e
  obtain ⟨O4, A4⟩ := say_r D O1 (c := (48 : Int32) + (hI o1 (V 65) 0)) ⟨by omega, by omega⟩ eo4
  have W4 := wrr_f D W1 A4
  replace e := ce_e W4.2.1.2.2.2 e
  replace e := gg_e e
  rw [n1] at e
  have c1 := W4.2.2.2.2.2.2.2.2.1 1 (by decide)
  have t1 : ((48 : Int32) + (hI o4 (V 65) 1)).toInt = 48 + pzC P 1 := by rw [ta (by rw [c1, z48]; omega), c1, z48]
  replace e := cl_s e; obtain ⟨o7, eo7, e⟩ := e
  obtain ⟨O7, A7⟩ := say_r D O4 (c := (48 : Int32) + (hI o4 (V 65) 1)) ⟨by omega, by omega⟩ eo7
  have W7 := wrr_f D W4 A7
  replace e := cl_s e; obtain ⟨o8, eo8, e⟩ := e
  obtain ⟨O8, A8⟩ := say_r D O7 ⟨by decide, by decide⟩ eo8
  have W8 := wrr_f D W7 A8
  replace e := cl_s e; obtain ⟨o9, eo9, e⟩ := e
  have ck := W8.2.2.2.2.2.2.2.2.2
  unfold sX15_sayNumber at eo9
  obtain ⟨O9, A9⟩ := nm_q D 12 (n := (pzK P).toNat) O8 (by rw [ck]; omega) eo9
  rw [so_e e]
  rw [t0, t1, show (32 : Int32).toInt = 32 from rfl] at O9
  unfold tl4
  refine ⟨?_, fv_t A1 (fv_t A4 (fv_t A7 (fv_t A8 A9)))⟩
  have eq : l ++ [(32 : Int)] ++ [48 + pzC P 0] ++ [48 + pzC P 1] ++ [(32 : Int)] ++ nmD 12 (pzK P).toNat = l ++ ([32, 48 + pzC P 0, 48 + pzC P 1, 32] ++ nmD 12 (pzK P).toNat) := by
    simp [List.append_assoc]
  rw [← eq]
  exact O9
end
end
section
/-! texts of positions: hands, PASS, rights and the whole, as the reference writes them -/
section
variable {F : Nat} {V : Nat → Nat} {L : Nat → Nat → Int} {h o : Hp} {P : Pz} {l : List Int}
theorem hdm_s {L : Nat → Nat → Int} {m d k : Nat} : hdM L m d (k + 1) = hdM L m d k ++ [ltP L (1 + 2 * (m : Int) + d)] := by
  unfold hdM
  rw [List.replicate_succ']
/-- one man in hand, as often as he is there -/
theorem wa_168 (D : VD V) {K1 : Hp → Nat → Nat → Int32 → Int32 → Option Hp} {K2 : Hp → Nat → Nat → Int32 → Int32 → Int32 → Option Hp} {x2 x3 x4 : Int32} {m d : Nat} (H : LOk L) (T : LtO L) (O : PzOk L P) (e3 : x3.toInt = (d : Int)) (hd : d < 2) (e4 : x4.toInt = (m : Int)) (mL : (m : Int) < L 2 0) : ∀ (f : Nat) {h : Hp} {x5 : Int32} {k : Nat}, WrR V h L P → OuR V h (l ++ hdM L m d k) → x5.toInt = (k : Int) → k ≤ (pzH P (2 * m + d)).toNat → sX15_writeAll_168 F K1 K2 f h (V 16) (V 13) x2 x3 x4 x5 = some o → ∃ g, FrV V (wl wou) h g ∧ OuR V g (l ++ hdM L m d (pzH P (2 * m + d)).toNat) ∧ K2 g (V 16) (V 13) x2 x3 (x4 + (1 : Int32)) = some o := by
  have z1 : (1 : Int32).toInt = 1 := rfl
  have z2 : (2 : Int32).toInt = 2 := rfl
  have L2 := H.2.2.1
  have hb := O.2.2.2.2.2.1.1 (2 * m + d) (by omega)
  have t1 : ((2 : Int32) * x4).toInt = 2 * (m : Int) := by rw [tm (by rw [z2, e4]; omega), z2, e4]
  have t2 : (((2 : Int32) * x4) + x3).toInt = 2 * (m : Int) + d := by rw [ta (by rw [t1, e3]; omega), t1, e3]
  have c2 : (((2 : Int32) * x4) + x3).toNatClampNeg = 2 * m + d := by have := nc_i (x := ((2 : Int32) * x4) + x3) (by omega); omega
  intro f
  induction f with
  | zero => intro h x5 k _ _ _ _ e; exact absurd e (by rw [sX15_writeAll_168]; exact fun z => nomatch z)
  | succ f ih =>
    intro h x5 k W Ou e5 kl e
    have hh := W.2.2.2.2.2.2.2.1 (2 * m + d) (by omega)
    rw [sX15_writeAll_168] at e
    replace e := ce_e W.2.1.2.2.1 e
    replace e := gg_e e
    rcases br_s e with ⟨c, e⟩ | ⟨c, e⟩ <;> rw [c2] at c
    · have c := le_i c
      rw [hh, e5] at c
      have : (pzH P (2 * m + d)).toNat = k := by omega
      rw [this]
      exact ⟨h, fv_0, Ou, nx_e e⟩
    have c := nle_i c
    rw [hh, e5] at c
    unfold sX15_valueOf at e
    replace e := cl_s e; obtain ⟨o5, eo5, e⟩ := e
    rw [so_e eo5] at e
    have v1 : ((1 : Int32) + ((2 : Int32) * x4)).toInt = 1 + 2 * (m : Int) := by rw [ta (by rw [t1, z1]; omega), t1, z1]
    have v2 : (((1 : Int32) + ((2 : Int32) * x4)) + x3).toInt = 1 + 2 * (m : Int) + d := by rw [ta (by rw [v1, e3]; omega), v1, e3]
    replace e := cl_s e; obtain ⟨o6, eo6, e⟩ := e
    obtain ⟨w6, r6, i6⟩ := lto_r (v := ((1 : Int32) + ((2 : Int32) * x4)) + x3) H T W.1 (by rw [v2]; omega) (by rw [v2]; omega) eo6
    rw [w6] at e
    rw [v2] at r6
    replace e := cl_s e; obtain ⟨o7, eo7, e⟩ := e
    obtain ⟨O7, A7⟩ := say_r D Ou i6 eo7
    rw [r6, List.append_assoc, ← hdm_s] at O7
    obtain ⟨g, a, b, c'⟩ := ih (k := k + 1) (wrr_f D W A7) O7 (by rw [ta (by rw [z1]; omega), z1, e5]; omega) (by omega) (nx_e e)
    exact ⟨g, fv_t A7 a, b, c'⟩
theorem wa_153 (D : VD V) {K1 : Hp → Nat → Nat → Int32 → Int32 → Option Hp} {x2 x3 : Int32} {d : Nat} (H : LOk L) (T : LtO L) (O : PzOk L P) (e3 : x3.toInt = (d : Int)) (hd : d < 2) : ∀ (f : Nat) {h : Hp} {x4 : Int32} {m : Nat}, WrR V h L P → OuR V h (l ++ hdT L P d m) → x4.toInt = (m : Int) → (m : Int) ≤ L 2 0 → sX15_writeAll_153 F K1 f h (V 16) (V 13) x2 x3 x4 = some o → ∃ g, FrV V (wl wou) h g ∧ OuR V g (l ++ hdT L P d (L 2 0).toNat) ∧ K1 g (V 16) (V 13) x2 (x3 + (1 : Int32)) = some o := by
  have z1 : (1 : Int32).toInt = 1 := rfl
  have L2 := H.2.2.1
  intro f
  induction f with
  | zero => intro h x4 m _ _ _ _ e; exact absurd e (by rw [sX15_writeAll_153]; exact fun z => nomatch z)
  | succ f ih =>
    intro h x4 m W Ou e4 ml e
    have l2 : (hI h (V 15) 2).toInt = L 2 0 := lw_0 (rwd_b W.1 W.2) (by decide) 0
    rw [sX15_writeAll_153] at e
    replace e := ce_e W.1.1.1 e
    rcases br_s e with ⟨c, e⟩ | ⟨c, e⟩
    · have c := le_i c
      rw [l2, e4] at c
      have : (L 2 0).toNat = m := by omega
      rw [this]
      exact ⟨h, fv_0, Ou, nx_e e⟩
    have c := nle_i c
    rw [l2, e4] at c
    obtain ⟨g, G, Og, u⟩ := wa_168 (l := l ++ hdT L P d m) D H T O e3 hd e4 c F (k := 0) W (by unfold hdM; rw [List.replicate_zero, List.append_nil]; exact Ou) rfl (Nat.zero_le _) e
    rw [List.append_assoc] at Og
    obtain ⟨g', a, b, c'⟩ := ih (m := m + 1) (wrr_f D W G) Og (by rw [ta (by rw [z1]; omega), z1, e4]; omega) (by omega) u
    exact ⟨g', fv_t G a, b, c'⟩
/-- all men in hand, and what follows -/
theorem wa_145 (D : VD V) {x2 : Int32} (H : LOk L) (T : LtO L) (O : PzOk L P) (e2 : x2.toInt = (l.length : Int)) (f : Nat) (W : WrR V h L P) (Ou : OuR V h l) (e : sX15_writeAll_145 F f h (V 16) (V 13) x2 (0 : Int32) = some o) : OuR V o (l ++ tl3 L P) ∧ FrV V (wl wou) h o := by
  cases f with
  | zero => exact absurd e (by rw [sX15_writeAll_145]; exact fun z => nomatch z)
  | succ f =>
  rw [sX15_writeAll_145] at e
  replace e := bn_e (by decide) e
  obtain ⟨g, G, Og, e⟩ := wa_153 (l := l) (d := 0) D H T O rfl (by decide) F (m := 0) W (by unfold hdT; rw [List.append_nil]; exact Ou) rfl (by have := H.2.2.1; omega) e
  have W1 := wrr_f D W G
  cases f with
  | zero => exact absurd e (by rw [sX15_writeAll_145]; exact fun z => nomatch z)
  | succ f =>
  rw [sX15_writeAll_145] at e
  replace e := bn_e (by decide) e
  obtain ⟨g2, G2, Og2, e⟩ := wa_153 (l := l ++ hdT L P 0 (L 2 0).toNat) (d := 1) D H T O rfl (by decide) F (m := 0) W1 (by rw [show hdT L P 1 0 = [] from rfl, List.append_nil]; exact Og) rfl (by have := H.2.2.1; omega) e
  have W2 := wrr_f D W1 G2
  rw [List.append_assoc] at Og2
  cases f with
  | zero => exact absurd e (by rw [sX15_writeAll_145]; exact fun z => nomatch z)
  | succ f =>
  rw [sX15_writeAll_145] at e
  replace e := bp_e (by decide) e
  have Og2 : OuR V g2 (l ++ hdA L P) := Og2
  have ln := Og2.2.2.1
  rw [List.length_append] at ln
  unfold tl3
  rcases br_s e with ⟨c, e⟩ | ⟨c, e⟩
  · rw [c, e2] at ln
    have hz : hdA L P = [] := List.length_eq_zero_iff.mp (by omega)
    replace e := cl_s e; obtain ⟨o3, eo3, e⟩ := e
    obtain ⟨O3, A3⟩ := say_r D Og2 ⟨by decide, by decide⟩ eo3
    obtain ⟨a, b⟩ := wa_230 D O (wrr_f D W2 A3) O3 e
    rw [if_pos hz]
    refine ⟨?_, fv_t G (fv_t G2 (fv_t A3 b))⟩
    rw [← List.append_assoc, ← List.append_assoc]
    exact a
  · obtain ⟨a, b⟩ := wa_230 D O W2 Og2 e
    have hz : ¬ hdA L P = [] := fun z => c (Int32.toInt_inj.mp (by
      rw [ln, e2, z]
      show ((l.length + 0 : Nat) : Int) = _
      rfl))
    rw [if_neg hz, List.append_nil]
    refine ⟨?_, fv_t G (fv_t G2 b)⟩
    rw [← List.append_assoc]
    exact a
/-- squares of PASS, and what follows -/
theorem wa_108 (D : VD V) (H : LOk L) (T : LtO L) (O : PzOk L P) : ∀ (f : Nat) {h : Hp} {x2 : Int32} {n : Nat}, WrR V h L P → OuR V h (l ++ psT L P n) → x2.toInt = (n : Int) → n ≤ pzN P → sX15_writeAll_108 F f h (V 16) (V 13) x2 = some o → OuR V o (l ++ (psT L P (pzN P) ++ [32] ++ tl3 L P)) ∧ FrV V (wl wou) h o := by
  have z1 : (1 : Int32).toInt = 1 := rfl
  have n7 : pzN P ≤ 7 := by rcases O.2.2.2.2.1 with z | z <;> omega
  intro f
  induction f with
  | zero => intro h x2 n _ _ _ _ e; exact absurd e (by rw [sX15_writeAll_108]; exact fun z => nomatch z)
  | succ f ih =>
    intro h x2 n W Ou e2 nl e
    have p3 := W.2.2.2.2.2.1
    rw [sX15_writeAll_108] at e
    rcases br_s e with ⟨c, e⟩ | ⟨c, e⟩
    · have c := le_i c
      rw [p3, e2] at c
      have nE : pzN P = n := by omega
      replace e := cl_s e; obtain ⟨o2, eo2, e⟩ := e
      obtain ⟨O2, A2⟩ := say_r D Ou ⟨by decide, by decide⟩ eo2
      replace e := nm_s e; obtain ⟨v3, u3, e⟩ := e
      obtain ⟨a, b⟩ := wa_145 D H T O (by rw [u3]; exact O2.2.2.1) F (wrr_f D W A2) O2 e
      rw [nE]
      refine ⟨?_, fv_t A2 b⟩
      rw [← List.append_assoc, ← List.append_assoc]
      exact a
    have c := nle_i c
    rw [p3, e2] at c
    have c2 : x2.toNatClampNeg = n := by have := nc_i (x := x2) (by omega); omega
    have qn := W.2.2.2.2.2.2.1 n (by omega)
    have ql : (pzQ P n : Int) < L 0 0 * L 1 0 := by
      rcases O.2.2.2.2.1 with z | z
      · omega
      · exact z.2.2.1 n (by omega)
    replace e := ce_e W.2.1.2.1 e
    replace e := gg_e e
    rw [c2] at e
    replace e := cl_s e; obtain ⟨o6, eo6, e⟩ := e
    obtain ⟨O6, A6⟩ := ss_r D H W Ou qn ql eo6
    rw [List.append_assoc] at O6
    obtain ⟨a, b⟩ := ih (n := n + 1) (wrr_f D W A6) O6 (by rw [ta (by rw [z1]; omega), z1, e2]; omega) (by omega) (nx_e e)
    exact ⟨a, fv_t A6 b⟩
/-- rights, and what follows -/
theorem wa_55 (D : VD V) (H : LOk L) (T : LtO L) (O : PzOk L P) : ∀ (f : Nat) {h : Hp} {x2 : Int32} {n : Nat}, WrR V h L P → OuR V h (l ++ rgT L P n) → x2.toInt = (n : Int) → (n : Int) ≤ L 0 0 * L 1 0 → sX15_writeAll_55 F f h (V 16) (V 13) x2 = some o → OuR V o (l ++ (rgT L P (L 0 0 * L 1 0).toNat ++ [32] ++ tl2 L P)) ∧ FrV V (wl wou) h o := by
  have z1 : (1 : Int32).toInt = 1 := rfl
  have z0 : (0 : Int32).toInt = 0 := rfl
  have sq := sq_64 H
  intro f
  induction f with
  | zero => intro h x2 n _ _ _ _ e; exact absurd e (by rw [sX15_writeAll_55]; exact fun z => nomatch z)
  | succ f ih =>
    intro h x2 n W Ou e2 nl e
    have l13 : (hI h (V 16) 13).toInt = L 0 0 * L 1 0 := W.1.2.2.2.2
    rw [sX15_writeAll_55] at e
    unfold sX15_writeAll_106 at e
    rcases br_s e with ⟨c, e⟩ | ⟨c, e⟩
    · have c := le_i c
      rw [l13, e2] at c
      have nE : (L 0 0 * L 1 0).toNat = n := by omega
      replace e := cl_s e; obtain ⟨o2, eo2, e⟩ := e
      obtain ⟨O2, A2⟩ := say_r D Ou ⟨by decide, by decide⟩ eo2
      have W2 := wrr_f D W A2
      have p3 := W2.2.2.2.2.2.1
      rw [nE]
      unfold tl2
      rcases br_s e with ⟨d, e⟩ | ⟨d, e⟩
      · rw [d, z0] at p3
        have pz : pzN P = 0 := by omega
        replace e := cl_s e; obtain ⟨o4, eo4, e⟩ := e
        obtain ⟨O4, A4⟩ := say_r D O2 ⟨by decide, by decide⟩ eo4
        obtain ⟨a, b⟩ := wa_108 D H T O F (n := 0) (wrr_f D W2 A4) (by unfold psT; rw [List.append_nil]; exact O4) rfl (Nat.zero_le _) e
        rw [if_pos pz]
        refine ⟨?_, fv_t A2 (fv_t A4 b)⟩
        simp only [List.append_assoc] at a ⊢
        exact a
      · have pz : ¬ pzN P = 0 := fun z => d (Int32.toInt_inj.mp (by rw [p3, z, z0]; rfl))
        obtain ⟨a, b⟩ := wa_108 D H T O F (n := 0) W2 (by unfold psT; rw [List.append_nil]; exact O2) rfl (Nat.zero_le _) e
        rw [if_neg pz, List.nil_append]
        refine ⟨?_, fv_t A2 b⟩
        simp only [List.append_assoc] at a ⊢
        exact a
    have c := nle_i c
    rw [l13, e2] at c
    have c2 : x2.toNatClampNeg = n := by have := nc_i (x := x2) (by omega); omega
    have i2 : Rg 0 63 x2 := ⟨by omega, by omega⟩
    have bq := W.2.2.2.2.1 n (by omega)
    have t2 : (x2 + (1 : Int32)).toInt = ((n + 1 : Nat) : Int) := by rw [ta (by rw [z1]; omega), z1, e2]; omega
    unfold sX15_writeAll_81 at e
    rcases br_s e with ⟨d, e⟩ | ⟨d, e⟩
    · have d := bit_test i2 d
      rw [c2, bq] at d
      replace e := cl_s e; obtain ⟨o6, eo6, e⟩ := e
      obtain ⟨O6, A6⟩ := ss_r D H W Ou e2 (by omega) eo6
      obtain ⟨a, b⟩ := ih (n := n + 1) (wrr_f D W A6) (by unfold rgT; rw [if_pos d, ← List.append_assoc]; exact O6) t2 (by omega) (nx_e e)
      exact ⟨a, fv_t A6 b⟩
    · have d : ¬ pzR P n = true := fun z => d (bit_tst i2 (by rw [c2, bq, z]))
      exact ih (n := n + 1) W (by unfold rgT; rw [if_neg d, List.append_nil]; exact Ou) t2 (by omega) (nx_e e)
/-- a position's text -/
noncomputable def wrTx (L : Nat → Nat → Int) (P : Pz) : List Int := mnT L P (fun _ => true) (L 1 0).toNat ++ [32, if pzS P = 0 then 119 else 98, 32] ++ (if prB' (∀ q, q < 64 → pzR P q = false) = true then [45] else []) ++ rgT L P (L 0 0 * L 1 0).toNat ++ [32] ++ tl2 L P
theorem wa_r (D : VD V) (H : LOk L) (T : LtO L) (O : PzOk L P) (W : WrR V h L P) (Ou : OuR V h l) (e : sX15_writeAll F h (V 16) (V 13) = some o) : OuR V o (l ++ wrTx L P) ∧ FrV V (wl wou) h o := by
  have z0 : (0 : Int32).toInt = 0 := rfl
  have sq := sq_64 H
  unfold sX15_writeAll at e
  replace e := cl_s e; obtain ⟨o1, eo1, e⟩ := e
  have all : ∀ q : Fin 64, bitJ (-1 : Int64) q.val = true := by decide +kernel
  obtain ⟨A1, O1⟩ := wm_r (S := fun _ => true) D H T O.1 (fun q hq => all ⟨q, hq⟩) W.1 W.2 Ou eo1
  have W1 := wrr_f D W A1
  replace e := cl_s e; obtain ⟨o2, eo2, e⟩ := e
  obtain ⟨O2, A2⟩ := say_r D O1 ⟨by decide, by decide⟩ eo2
  have W2 := wrr_f D W1 A2
  have go : ∀ {t0 : Int32}, Rg 0 127 t0 → t0.toInt = (if pzS P = 0 then 119 else 98) → sX15_writeAll_29 F o2 (V 16) (V 13) t0 (V 16) = some o → OuR V o (l ++ wrTx L P) ∧ FrV V (wl wou) h o := fun {t0} i0 et u => by
    unfold sX15_writeAll_29 sX15_writeAll_53 at u
    replace u := cl_s u; obtain ⟨o3, eo3, u⟩ := u
    obtain ⟨O3, A3⟩ := say_r D O2 i0 eo3
    replace u := cl_s u; obtain ⟨o4, eo4, u⟩ := u
    obtain ⟨O4, A4⟩ := say_r D O3 ⟨by decide, by decide⟩ eo4
    have W4 := wrr_f D (wrr_f D W2 A3) A4
    have A := fv_t A1 (fv_t A2 (fv_t A3 A4))
    have rb := W4.2.2.2.2.1
    rw [et] at O4
    unfold wrTx
    rcases br_s u with ⟨c, u⟩ | ⟨c, u⟩ <;> rw [c_zero, j_zero] at c
    · have pr : ∀ q, q < 64 → pzR P q = false := fun q hq => by rw [← rb q hq]; exact c q hq
      replace u := cl_s u; obtain ⟨o5, eo5, u⟩ := u
      obtain ⟨O5, A5⟩ := say_r D O4 ⟨by decide, by decide⟩ eo5
      obtain ⟨a, b⟩ := wa_55 D H T O F (n := 0) (wrr_f D W4 A5) (by unfold rgT; rw [List.append_nil]; exact O5) rfl (by omega) u
      rw [if_pos (prb_e.mpr pr)]
      refine ⟨?_, fv_t A (fv_t A5 b)⟩
      simp only [List.append_assoc, List.cons_append, List.nil_append] at a ⊢
      exact a
    · have pr : ¬ ∀ q, q < 64 → pzR P q = false := fun z => c (fun q hq => by rw [rb q hq]; exact z q hq)
      obtain ⟨a, b⟩ := wa_55 D H T O F (n := 0) W4 (by unfold rgT; rw [List.append_nil]; exact O4) rfl (by omega) u
      rw [if_neg (fun z => pr (prb_e.mp z))]
      refine ⟨?_, fv_t A b⟩
      simp only [List.append_assoc, List.cons_append, List.nil_append] at a ⊢
      exact a
  have bs := W2.2.2.2.1
  have isd := O.2.2.1
  rcases br_s e with ⟨c, e⟩ | ⟨c, e⟩
  · have c : hI o2 (V 13) 1 = 0 := c
    rw [c, z0] at bs
    exact go ⟨by decide, by decide⟩ (by rw [if_pos (show pzS P = 0 by omega)]; rfl) e
  · have c : ¬ hI o2 (V 13) 1 = 0 := c
    exact go ⟨by decide, by decide⟩ (by rw [if_neg (show ¬ pzS P = 0 from fun z => c (Int32.toInt_inj.mp (by rw [bs, z, z0]; rfl)))]; rfl) e
end
end
