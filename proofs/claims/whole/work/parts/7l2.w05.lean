section
/-! texts of positions: all behind the men, as the class writes it -/
theorem sqt_l {L : Nat → Nat → Int} {s : Nat} : (sqTx L s).length = 2 := rfl
theorem rgt_len {L : Nat → Nat → Int} {P : Pz} : ∀ n, (rgT L P n).length ≤ 2 * n
  | 0 => Nat.le_refl _
  | n + 1 => by
    have := rgt_len (L := L) (P := P) n
    unfold rgT
    rw [List.length_append]
    split
    · rw [sqt_l]; omega
    · show (rgT L P n).length + 0 ≤ _
      omega
theorem pst_len {L : Nat → Nat → Int} {P : Pz} : ∀ n, (psT L P n).length = 2 * n
  | 0 => rfl
  | n + 1 => by
    have := pst_len (L := L) (P := P) n
    unfold psT
    rw [List.length_append, sqt_l]
    omega
theorem rgt_mo {L : Nat → Nat → Int} {P : Pz} {m : Nat} : ∀ n, m ≤ n → (rgT L P m).length ≤ (rgT L P n).length
  | 0, h => by rw [show m = 0 by omega]; exact Nat.le_refl _
  | n + 1, h => by
    by_cases c : m = n + 1
    · rw [c]; exact Nat.le_refl _
    · have a := rgt_mo (L := L) (P := P) (m := m) n (by omega)
      have b : (rgT L P (n + 1)).length = (rgT L P n).length + (if pzR P n = true then sqTx L n else []).length := by
        rw [rgT, List.length_append]
      omega
section
variable {F : Nat} {V : Nat → Nat} {L : Nat → Nat → Int} {h o : Hp} {P : Pz} {l : List Int}
theorem sqw_c (D : VD V) {x : Int32} {s : Nat} (H : LOk L) (W : WrC V h L P) (O : OuC V h l) (cap : l.length + 2 ≤ hN h (V 321)) (ex : x.toInt = (s : Int)) (sL : (s : Int) < L 0 0 * L 1 0) (e : sX7_writeSquare h (V 2) x (V 320) = some o) : OuC V o (l ++ sqTx L s) ∧ FrV V (wl wot) h o ∧ hN o (V 321) = hN h (V 321) := by
  have z97 : (97 : Int32).toInt = 97 := rfl
  have z49 : (49 : Int32).toInt = 49 := rfl
  have sq := sq_64 H
  have fi := H.1
  have r0 := Int.emod_nonneg (s : Int) (show L 0 0 ≠ 0 by omega)
  have r1 := Int.emod_lt_of_pos (s : Int) (show 0 < L 0 0 by omega)
  have d0 : 0 ≤ (s : Int) / L 0 0 := Int.ediv_nonneg (by omega) (by omega)
  have d1 : (s : Int) / L 0 0 ≤ s := Int.ediv_le_self _ (by omega)
  have cx : x.toNatClampNeg = s := by have := nc_i (x := x) (by omega); omega
  have f1 := (W.2.1.1.2.2.2.2.2 s sL).1
  unfold sX7_writeSquare at e
  replace e := ce_e W.2.1.2.2.2.1.1 e
  replace e := gg_e e
  have t1 : ((97 : Int32) + (hI h (V 32) s)).toInt = 97 + (s : Int) % L 0 0 := by rw [ta (by rw [f1, z97]; omega), f1, z97]
  replace e := cl_s e; obtain ⟨o3, eo3, e⟩ := e
  rw [cx] at eo3
  obtain ⟨O3, A3, n3⟩ := apd_c D O (by omega) (c := (97 : Int32) + (hI h (V 32) s)) ⟨by omega, by omega⟩ eo3
  have W3 := wrc_f D W A3
  have f2 := (W3.2.1.1.2.2.2.2.2 s sL).2
  replace e := ce_e W3.2.1.2.2.2.1.2 e
  replace e := gg_e e
  have t2 : ((49 : Int32) + (hI o3 (V 33) s)).toInt = 49 + (s : Int) / L 0 0 := by rw [ta (by rw [f2, z49]; omega), f2, z49]
  replace e := cl_s e; obtain ⟨o6, eo6, e⟩ := e
  rw [cx] at eo6
  obtain ⟨O6, A6, n6⟩ := apd_c D O3 (by rw [List.length_append, n3]; show l.length + 1 < _; omega) (c := (49 : Int32) + (hI o3 (V 33) s)) ⟨by omega, by omega⟩ eo6
  rw [so_e e]
  rw [t1, t2, List.append_assoc] at O6
  exact ⟨O6, fv_t A3 A6, by rw [n6, n3]⟩
/-- rights -/
theorem wr_2c (D : VD V) {cap : Nat} (H : LOk L) (cp : l.length + (rgT L P (L 0 0 * L 1 0).toNat).length + 1 ≤ cap) : ∀ (f : Nat) {h : Hp} {x3 : Int32} {n : Nat}, WrC V h L P → hN h (V 321) = cap → OuC V h (l ++ rgT L P n) → x3.toInt = (n : Int) → (n : Int) ≤ L 0 0 * L 1 0 → sX7_writeRights_2 F f h (V 7) (V 4) (V 320) x3 = some o → OuC V o (l ++ rgT L P (L 0 0 * L 1 0).toNat ++ (if prB' (∀ q, q < 64 → pzR P q = false) = true then [45] else [])) ∧ FrV V (wl wot) h o ∧ hN o (V 321) = cap := by
  have z1 : (1 : Int32).toInt = 1 := rfl
  have sq := sq_64 H
  intro f
  induction f with
  | zero => intro h x3 n _ _ _ _ _ e; exact absurd e (by rw [sX7_writeRights_2]; exact fun z => nomatch z)
  | succ f ih =>
    intro h x3 n W hn Ou e3 nl e
    have l2 := W.2.1.1.2.2.1
    have rb := W.2.2.2.2.2.1
    have ln := rgt_mo (L := L) (P := P) (m := n) (L 0 0 * L 1 0).toNat (by omega)
    rw [sX7_writeRights_2] at e
    unfold sX7_writeRights_56 sX7_writeRights_35 at e
    replace e := ce_e W.1 e
    rcases br_s e with ⟨c, e⟩ | ⟨c, e⟩
    · have c := le_i c
      rw [l2, e3] at c
      have nE : (L 0 0 * L 1 0).toNat = n := by omega
      rw [nE]
      rcases br_s e with ⟨d, e⟩ | ⟨d, e⟩ <;> rw [c_zero, j_zero] at d
      · have pr : ∀ q, q < 64 → pzR P q = false := fun q hq => by rw [← rb q hq]; exact d q hq
        replace e := cl_s e; obtain ⟨o4, eo4, e⟩ := e
        obtain ⟨O4, A4, n4⟩ := apd_c D Ou (by rw [List.length_append, hn]; omega) ⟨by decide, by decide⟩ eo4
        rw [if_pos (prb_e.mpr pr), so_e e]
        exact ⟨O4, A4, by rw [n4, hn]⟩
      · have pr : ¬ ∀ q, q < 64 → pzR P q = false := fun z => d (fun q hq => by rw [rb q hq]; exact z q hq)
        rw [if_neg (fun z => pr (prb_e.mp z)), List.append_nil, so_e e]
        exact ⟨Ou, fv_0, hn⟩
    have c := nle_i c
    rw [l2, e3] at c
    have c3 : x3.toNatClampNeg = n := by have := nc_i (x := x3) (by omega); omega
    have i3 : Rg 0 63 x3 := ⟨by omega, by omega⟩
    have bn := rb n (by omega)
    have t3 : (x3 + (1 : Int32)).toInt = ((n + 1 : Nat) : Int) := by rw [ta (by rw [z1]; omega), z1, e3]; omega
    rcases br_s e with ⟨b, e⟩ | ⟨b, e⟩
    · have pn : ¬ pzR P n = true := fun z => by
        have := j_zero.mp (cmp_eq b) 0 (by decide)
        rw [bj_and, ush_bit i3, c3, bn, z, Bool.true_and] at this
        exact absurd this (by decide)
      exact ih (n := n + 1) W hn (by unfold rgT; rw [if_neg pn, List.append_nil]; exact Ou) t3 (by omega) (nx_e e)
    · have pn := bit_set i3 b
      rw [c3, bn] at pn
      replace e := ce_e W.1 e
      replace e := cl_s e; obtain ⟨o7, eo7, e⟩ := e
      have lq := rgt_mo (L := L) (P := P) (m := n + 1) (L 0 0 * L 1 0).toNat (by omega)
      rw [rgT, if_pos pn, List.length_append, sqt_l] at lq
      obtain ⟨O7, A7, n7⟩ := sqw_c D H W Ou (by rw [List.length_append, hn]; omega) e3 (by omega) eo7
      obtain ⟨a, b', c'⟩ := ih (n := n + 1) (wrc_f D W A7) (by rw [n7, hn]) (by unfold rgT; rw [if_pos pn, ← List.append_assoc]; exact O7) t3 (by omega) (nx_e e)
      exact ⟨a, fv_t A7 b', c'⟩
/-- PASS -/
theorem wp_2c (D : VD V) {cap : Nat} (H : LOk L) (O : PzOk L P) (cp : l.length + 2 * pzN P + 1 ≤ cap) : ∀ (f : Nat) {h : Hp} {x3 : Int32} {n : Nat}, WrC V h L P → hN h (V 321) = cap → OuC V h (l ++ psT L P n) → x3.toInt = (n : Int) → n ≤ pzN P → sX7_writePass_2 F f h (V 7) (V 4) (V 320) x3 = some o → OuC V o (l ++ psT L P (pzN P) ++ (if pzN P = 0 then [45] else [])) ∧ FrV V (wl wot) h o ∧ hN o (V 321) = cap := by
  have z1 : (1 : Int32).toInt = 1 := rfl
  have n7 : pzN P ≤ 7 := by rcases O.2.2.2.2.1 with z | z <;> omega
  intro f
  induction f with
  | zero => intro h x3 n _ _ _ _ _ e; exact absurd e (by rw [sX7_writePass_2]; exact fun z => nomatch z)
  | succ f ih =>
    intro h x3 n W hn Ou e3 nl e
    have A := W.2.2.2.2.2.2.1.1
    have ln := pst_len (L := L) (P := P) n
    rw [sX7_writePass_2] at e
    unfold sX7_writePass_44 at e
    replace e := cl_s e; obtain ⟨o1, eo1, e⟩ := e
    obtain ⟨w1, r1⟩ := ps_q eo1 A
    rw [w1] at e
    rcases br_s e with ⟨c, e⟩ | ⟨c, e⟩
    · have c := le_i c
      rw [r1, e3] at c
      have nE : pzN P = n := by omega
      have pz := pw_z A
      rcases br_s e with ⟨d, e⟩ | ⟨d, e⟩ <;> rw [c_zero, pz] at d
      · replace e := cl_s e; obtain ⟨o4, eo4, e⟩ := e
        obtain ⟨O4, A4, n4⟩ := apd_c D Ou (by rw [List.length_append, hn]; omega) ⟨by decide, by decide⟩ eo4
        rw [if_pos d, so_e e, nE]
        exact ⟨O4, A4, by rw [n4, hn]⟩
      · rw [if_neg d, List.append_nil, so_e e, nE]
        exact ⟨Ou, fv_0, hn⟩
    have c := nle_i c
    rw [r1, e3] at c
    have c3 : x3.toNatClampNeg = n := by have := nc_i (x := x3) (by omega); omega
    have ql : (pzQ P n : Int) < L 0 0 * L 1 0 := by
      rcases O.2.2.2.2.1 with z | z
      · omega
      · exact z.2.2.1 n (by omega)
    replace e := ce_e W.1 e
    replace e := cl_s e; obtain ⟨o6, eo6, e⟩ := e
    obtain ⟨w6, r6⟩ := psq_q eo6 A (by omega) (by omega)
    rw [c3] at r6
    rw [w6] at e
    replace e := cl_s e; obtain ⟨o7, eo7, e⟩ := e
    obtain ⟨O7, A7, m7⟩ := sqw_c D H W Ou (by rw [List.length_append, hn]; omega) r6 ql eo7
    rw [List.append_assoc] at O7
    obtain ⟨a, b', c'⟩ := ih (n := n + 1) (wrc_f D W A7) (by rw [m7, hn]) O7 (by rw [ta (by rw [z1]; omega), z1, e3]; omega) (by omega) (nx_e e)
    exact ⟨a, fv_t A7 b', c'⟩
end
end
section
/-! texts of positions: hands, count and the whole, as the class writes them -/
/-- how many men are in hand at most: so much room the text needs -/
def hdN (P : Pz) (d : Nat) : Nat → Nat
  | 0 => 0
  | m + 1 => hdN P d m + (pzH P (2 * m + d)).toNat
theorem hdt_len {L : Nat → Nat → Int} {P : Pz} {d : Nat} : ∀ m, (hdT L P d m).length = hdN P d m
  | 0 => rfl
  | m + 1 => by
    have := hdt_len (L := L) (P := P) (d := d) m
    unfold hdT hdN hdM
    rw [List.length_append, List.length_replicate, this]
theorem hdn_mo {P : Pz} {d m : Nat} : ∀ n, m ≤ n → hdN P d m ≤ hdN P d n
  | 0, h => by rw [show m = 0 by omega]; exact Nat.le_refl _
  | n + 1, h => by
    by_cases c : m = n + 1
    · rw [c]; exact Nat.le_refl _
    · have := hdn_mo (P := P) (d := d) (m := m) n (by omega)
      show _ ≤ hdN P d n + _
      omega
section
variable {F : Nat} {V : Nat → Nat} {L : Nat → Nat → Int} {h o : Hp} {P : Pz} {l : List Int}
theorem wh_25 (D : VD V) {K1 : Hp → Nat → Nat → Nat → Int32 → Option Hp} {K2 : Hp → Nat → Nat → Nat → Int32 → Int32 → Option Hp} {x3 x4 : Int32} {m d cap : Nat} (H : LOk L) (T : LtO L) (O : PzOk L P) (e3 : x3.toInt = (d : Int)) (hd : d < 2) (e4 : x4.toInt = (m : Int)) (mL : (m : Int) < L 2 0) (cp : l.length + (pzH P (2 * m + d)).toNat ≤ cap) : ∀ (f : Nat) {h : Hp} {x5 : Int32} {k : Nat}, WrC V h L P → hN h (V 321) = cap → OuC V h (l ++ hdM L m d k) → x5.toInt = (k : Int) → k ≤ (pzH P (2 * m + d)).toNat → sX7_writeHands_25 F K1 K2 f h (V 7) (V 4) (V 320) x3 x4 x5 = some o → ∃ g, FrV V (wl wot) h g ∧ hN g (V 321) = cap ∧ OuC V g (l ++ hdM L m d (pzH P (2 * m + d)).toNat) ∧ K2 g (V 7) (V 4) (V 320) x3 (x4 + (1 : Int32)) = some o := by
  have z1 : (1 : Int32).toInt = 1 := rfl
  have z2 : (2 : Int32).toInt = 2 := rfl
  have L2 := H.2.2.1
  have hb := O.2.2.2.2.2.1.1 (2 * m + d) (by omega)
  have t1 : ((2 : Int32) * x4).toInt = 2 * (m : Int) := by rw [tm (by rw [z2, e4]; omega), z2, e4]
  have t2 : (((2 : Int32) * x4) + x3).toInt = 2 * (m : Int) + d := by rw [ta (by rw [t1, e3]; omega), t1, e3]
  have c3 : x3.toNatClampNeg = d := by have := nc_i (x := x3) (by omega); omega
  have c4 : x4.toNatClampNeg = m := by have := nc_i (x := x4) (by omega); omega
  intro f
  induction f with
  | zero => intro h x5 k _ _ _ _ _ e; exact absurd e (by rw [sX7_writeHands_25]; exact fun z => nomatch z)
  | succ f ih =>
    intro h x5 k W hn Ou e5 kl e
    have hh := W.2.2.2.2.2.2.2.1.2 (2 * m + d) (by omega)
    rw [show (2 * m + d) % 2 = d by omega, show (2 * m + d) / 2 = m by omega] at hh
    rw [sX7_writeHands_25] at e
    replace e := cl_s e; obtain ⟨o1, eo1, e⟩ := e
    obtain ⟨w1, r1⟩ := inh_v W.2.2.1.2.2.2.1 (show Rg 0 11 x4 from ⟨by omega, by omega⟩) eo1
    rw [c3, c4, hh] at r1
    rw [w1] at e
    rcases br_s e with ⟨c, e⟩ | ⟨c, e⟩
    · have c := le_i c
      rw [r1, e5] at c
      have : (pzH P (2 * m + d)).toNat = k := by omega
      rw [this]
      exact ⟨h, fv_0, hn, Ou, nx_e e⟩
    have c := nle_i c
    rw [r1, e5] at c
    replace e := ce_e W.1 e
    replace e := cl_s e; obtain ⟨o5, eo5, e⟩ := e
    obtain ⟨w5, r5, i5⟩ := lto_c (v := 1 + 2 * (m : Int) + d) H T W.2.1 (by rw [t2]; omega) (by omega) (by omega) eo5
    rw [w5] at e
    replace e := cl_s e; obtain ⟨o6, eo6, e⟩ := e
    have hl : (hdM L m d k).length = k := by unfold hdM; rw [List.length_replicate]
    obtain ⟨O6, A6, n6⟩ := apd_c D Ou (by rw [List.length_append, hl, hn]; omega) i5 eo6
    rw [r5, List.append_assoc, ← hdm_s] at O6
    obtain ⟨g, a, a', b, c'⟩ := ih (k := k + 1) (wrc_f D W A6) (by rw [n6, hn]) O6 (by rw [ta (by rw [z1]; omega), z1, e5]; omega) (by omega) (nx_e e)
    exact ⟨g, fv_t A6 a, a', b, c'⟩
theorem wh_10 (D : VD V) {K1 : Hp → Nat → Nat → Nat → Int32 → Option Hp} {x3 : Int32} {d cap : Nat} (H : LOk L) (T : LtO L) (O : PzOk L P) (e3 : x3.toInt = (d : Int)) (hd : d < 2) (cp : l.length + hdN P d (L 2 0).toNat ≤ cap) : ∀ (f : Nat) {h : Hp} {x4 : Int32} {m : Nat}, WrC V h L P → hN h (V 321) = cap → OuC V h (l ++ hdT L P d m) → x4.toInt = (m : Int) → (m : Int) ≤ L 2 0 → sX7_writeHands_10 F K1 f h (V 7) (V 4) (V 320) x3 x4 = some o → ∃ g, FrV V (wl wot) h g ∧ hN g (V 321) = cap ∧ OuC V g (l ++ hdT L P d (L 2 0).toNat) ∧ K1 g (V 7) (V 4) (V 320) (x3 + (1 : Int32)) = some o := by
  have z1 : (1 : Int32).toInt = 1 := rfl
  have L2 := H.2.2.1
  intro f
  induction f with
  | zero => intro h x4 m _ _ _ _ _ e; exact absurd e (by rw [sX7_writeHands_10]; exact fun z => nomatch z)
  | succ f ih =>
    intro h x4 m W hn Ou e4 ml e
    have l3 := W.2.1.1.2.2.2.1
    rw [sX7_writeHands_10] at e
    replace e := ce_e W.1 e
    rcases br_s e with ⟨c, e⟩ | ⟨c, e⟩
    · have c := le_i c
      rw [l3, e4] at c
      have : (L 2 0).toNat = m := by omega
      rw [this]
      exact ⟨h, fv_0, hn, Ou, nx_e e⟩
    have c := nle_i c
    rw [l3, e4] at c
    have le1 := hdt_len (L := L) (P := P) (d := d) m
    have mo := hdn_mo (P := P) (d := d) (m := m + 1) (L 2 0).toNat (by omega)
    have st : hdN P d (m + 1) = hdN P d m + (pzH P (2 * m + d)).toNat := rfl
    obtain ⟨g, G, gn, Og, u⟩ := wh_25 (l := l ++ hdT L P d m) (cap := cap) D H T O e3 hd e4 c (by rw [List.length_append]; omega) F (k := 0) W hn (by unfold hdM; rw [List.replicate_zero, List.append_nil]; exact Ou) rfl (Nat.zero_le _) e
    rw [List.append_assoc] at Og
    obtain ⟨g', a, a', b, c'⟩ := ih (m := m + 1) (wrc_f D W G) gn Og (by rw [ta (by rw [z1]; omega), z1, e4]; omega) (by omega) u
    exact ⟨g', fv_t G a, a', b, c'⟩
/-- count -/
theorem wc_c (D : VD V) (O : PzOk L P) (W : WrC V h L P) (Ou : OuC V h l) (cp : l.length + (nmD 12 (pzK P).toNat).length ≤ hN h (V 321)) (e : sX7_writeClock h (V 4) (V 320) = some o) : OuC V o (l ++ nmD 12 (pzK P).toNat) ∧ FrV V (wl wot) h o ∧ hN o (V 321) = hN h (V 321) := by
  have z10 : (10 : Int32).toInt = 10 := rfl
  have z48 : (48 : Int32).toInt = 48 := rfl
  have z100 : (100 : Int32).toInt = 100 := rfl
  have bk := O.2.2.2.2.2.2.2
  have kc : ∀ {g : Hp}, WrC V g L P → (hI g (V 4) 6).toInt = pzK P := fun {g} w => w.2.2.2.2.2.2.2.2.2
  obtain ⟨n, en⟩ : ∃ n : Nat, pzK P = (n : Int) := ⟨(pzK P).toNat, by omega⟩
  rw [en, Int.toNat_natCast] at cp ⊢
  have iT : Rg 10 10 (10 : Int32) := ⟨by decide, by decide⟩
  have iH : Rg 100 100 (100 : Int32) := ⟨by decide, by decide⟩
  -- the last figure
  have last : ∀ {g : Hp} {l' : List Int}, WrC V g L P → OuC V g l' → l'.length < hN g (V 321) → sX7_writeClock_49 g (V 4) (V 320) = some o → OuC V o (l' ++ [48 + ((n % 10 : Nat) : Int)]) ∧ FrV V (wl wot) g o ∧ hN o (V 321) = hN g (V 321) := fun {g l'} w Og cg u => by
    have k := kc w
    have t1 := tr (x := hI g (V 4) 6) (a := 0) (b := 200) ⟨by omega, by omega⟩ iT ⟨by decide, by decide⟩
    rw [k, en, z10] at t1
    have t2 : ((48 : Int32) + ((hI g (V 4) 6) - (hI g (V 4) 6) / (10 : Int32) * (10 : Int32))).toInt = 48 + ((n % 10 : Nat) : Int) := by rw [ta (by rw [t1, z48]; omega), t1, z48]; omega
    unfold sX7_writeClock_49 at u
    replace u := cl_s u; obtain ⟨o1, eo1, u⟩ := u
    obtain ⟨a, b, c⟩ := apd_c D Og cg (c := (48 : Int32) + ((hI g (V 4) 6) - (hI g (V 4) 6) / (10 : Int32) * (10 : Int32))) ⟨by omega, by omega⟩ eo1
    rw [so_e u]
    rw [t2] at a
    exact ⟨a, b, c⟩
  -- two figures
  have two : ∀ {g : Hp} {l' : List Int}, WrC V g L P → OuC V g l' → l'.length + 1 < hN g (V 321) → 10 ≤ n → sX7_writeClock_23 g (V 4) (V 320) = some o → OuC V o (l' ++ [48 + ((n / 10 % 10 : Nat) : Int)] ++ [48 + ((n % 10 : Nat) : Int)]) ∧ FrV V (wl wot) g o ∧ hN o (V 321) = hN g (V 321) := fun {g l'} w Og cg n10 u => by
    have k := kc w
    have ik : Rg 0 200 (hI g (V 4) 6) := ⟨by omega, by omega⟩
    have d1 := td ik iT ⟨by decide, by decide⟩
    rw [k, en, z10] at d1
    have t1 := tr (x := (hI g (V 4) 6) / (10 : Int32)) (a := 0) (b := 20) ⟨by omega, by omega⟩ iT ⟨by decide, by decide⟩
    rw [d1, z10] at t1
    have t2 : ((48 : Int32) + (((hI g (V 4) 6) / (10 : Int32)) - ((hI g (V 4) 6) / (10 : Int32)) / (10 : Int32) * (10 : Int32))).toInt = 48 + ((n / 10 % 10 : Nat) : Int) := by rw [ta (by rw [t1, z48]; omega), t1, z48]; omega
    unfold sX7_writeClock_23 at u
    replace u := bn_e (fun z => by have := lt_i z; rw [k, en, z10] at this; omega) u
    replace u := cl_s u; obtain ⟨o2, eo2, u⟩ := u
    obtain ⟨a, b, c⟩ := apd_c D Og (by omega) (c := (48 : Int32) + (((hI g (V 4) 6) / (10 : Int32)) - ((hI g (V 4) 6) / (10 : Int32)) / (10 : Int32) * (10 : Int32))) ⟨by omega, by omega⟩ eo2
    rw [t2] at a
    obtain ⟨a', b', c'⟩ := last (wrc_f D w b) a (by rw [List.length_append, c]; exact cg) u
    exact ⟨a', fv_t b b', by rw [c', c]⟩
  have k := kc W
  have ik : Rg 0 200 (hI h (V 4) 6) := ⟨by omega, by omega⟩
  unfold sX7_writeClock at e
  rcases br_s e with ⟨c, e⟩ | ⟨c, e⟩
  · have c := lt_i c
    rw [k, en, z100] at c
    by_cases n10 : n < 10
    · unfold sX7_writeClock_23 at e
      replace e := bp_e (ii_lt.mpr (by rw [k, en, z10]; omega)) e
      rw [nmD, if_pos n10] at cp ⊢
      have cp : l.length + 1 ≤ hN h (V 321) := cp
      obtain ⟨a, b⟩ := last W Ou (by omega) e
      rw [show n % 10 = n by omega] at a
      exact ⟨a, b⟩
    · rw [nmD, if_neg n10, nmD, if_pos (by omega)] at cp ⊢
      have cp : l.length + 2 ≤ hN h (V 321) := cp
      obtain ⟨a, b⟩ := two W Ou (by omega) (by omega) e
      rw [← List.append_assoc]
      rw [show n / 10 % 10 = n / 10 by omega] at a
      exact ⟨a, b⟩
  · have c := nlt_i c
    rw [k, en, z100] at c
    rw [nmD, if_neg (by omega), nmD, if_neg (by omega), nmD, if_pos (by omega)] at cp ⊢
    have cp : l.length + 3 ≤ hN h (V 321) := cp
    have d1 := td ik iH ⟨by decide, by decide⟩
    rw [k, en, z100] at d1
    have t2 : ((48 : Int32) + ((hI h (V 4) 6) / (100 : Int32))).toInt = 48 + ((n / 10 / 10 : Nat) : Int) := by rw [ta (by rw [d1, z48]; omega), d1, z48]; omega
    replace e := cl_s e; obtain ⟨o2, eo2, e⟩ := e
    obtain ⟨a, b, c'⟩ := apd_c D Ou (by omega) (c := (48 : Int32) + ((hI h (V 4) 6) / (100 : Int32))) ⟨by omega, by omega⟩ eo2
    rw [t2] at a
    obtain ⟨a', b', d'⟩ := two (wrc_f D W b) a (by rw [List.length_append, c']; show l.length + 1 + 1 < _; omega) (by omega) e
    rw [← List.append_assoc, ← List.append_assoc]
    exact ⟨a', fv_t b b', by rw [d', c']⟩
end
end
section
/-! texts of positions: men in hand and the whole, as the class writes them -/
theorem hdn_0 {P : Pz} {d : Nat} : ∀ m, hdN P d m = 0 ↔ ∀ i, i < m → (pzH P (2 * i + d)).toNat = 0
  | 0 => ⟨fun _ i hi => absurd hi (Nat.not_lt_zero _), fun _ => rfl⟩
  | m + 1 => by
    have ih := hdn_0 (P := P) (d := d) m
    have st : hdN P d (m + 1) = hdN P d m + (pzH P (2 * m + d)).toNat := rfl
    rw [st]
    constructor
    · intro z i hi
      by_cases c : i = m
      · rw [c]; omega
      · exact ih.mp (by omega) i (by omega)
    · intro z
      have a := ih.mpr (fun i hi => z i (by omega))
      have b := z m (by omega)
      omega
theorem rgt_nil {L : Nat → Nat → Int} {P : Pz} (z : ∀ q, q < 64 → pzR P q = false) : ∀ n, n ≤ 64 → rgT L P n = []
  | 0, _ => rfl
  | n + 1, h => by
    rw [rgT, rgt_nil z n (by omega), z n (by omega), if_neg (by decide)]
    rfl
section
variable {F : Nat} {V : Nat → Nat} {L : Nat → Nat → Int} {h o : Hp} {P : Pz} {l : List Int}
/-- no man in hand -/
theorem hda_z (H : LOk L) (O : PzOk L P) (C : CpP V h (L 10 0) P) : hdA L P = [] ↔ (hJ h (V 37) 0 = 0 ∧ hJ h (V 37) 1 = 0) := by
  have L2 := H.2.2.1
  have h0 := hd_0 (C.2.2.2.2.2.1.1 0 (by decide))
  have h1 := hd_0 (C.2.2.2.2.2.1.1 1 (by decide))
  have hh := C.2.2.2.2.2.1.2
  have hb := O.2.2.2.2.2.1
  have key : ∀ d, d < 2 → (hdN P d (L 2 0).toNat = 0 ↔ ∀ m, m < 12 → hv (hJ h (V 37) d) m = 0) := fun d hd => by
    rw [hdn_0]
    constructor
    · intro z m hm
      have e := hh (2 * m + d) (by omega)
      rw [show (2 * m + d) % 2 = d by omega, show (2 * m + d) / 2 = m by omega] at e
      by_cases c : m < (L 2 0).toNat
      · have := z m c
        have := (hb.1 (2 * m + d) (by omega)).1
        omega
      · have := hb.2.1 (2 * m + d) (by omega) (Or.inl (by omega))
        omega
    · intro z m hm
      have e := hh (2 * m + d) (by omega)
      rw [show (2 * m + d) % 2 = d by omega, show (2 * m + d) / 2 = m by omega, z m (by omega)] at e
      omega
  have k0 := key 0 (by decide)
  have k1 := key 1 (by decide)
  have len : (hdA L P).length = hdN P 0 (L 2 0).toNat + hdN P 1 (L 2 0).toNat := by
    unfold hdA
    rw [List.length_append, hdt_len, hdt_len]
  rw [h0, h1, ← k0, ← k1]
  constructor
  · intro z
    rw [z] at len
    have : ([] : List Int).length = 0 := rfl
    omega
  · intro z
    exact List.length_eq_zero_iff.mp (by omega)
theorem wh_c (D : VD V) {cap : Nat} (H : LOk L) (T : LtO L) (O : PzOk L P) (cp : l.length + (hdA L P).length + 1 ≤ cap) (W : WrC V h L P) (hn : hN h (V 321) = cap) (Ou : OuC V h l) (e : sX7_writeHands F h (V 7) (V 4) (V 320) = some o) : OuC V o (l ++ hdA L P ++ (if hdA L P = [] then [45] else [])) ∧ FrV V (wl wot) h o ∧ hN o (V 321) = cap := by
  have n0 : (0 : Int32).toNatClampNeg = 0 := rfl
  have n1 : (1 : Int32).toNatClampNeg = 1 := rfl
  have L2 := H.2.2.1
  have len : (hdA L P).length = hdN P 0 (L 2 0).toNat + hdN P 1 (L 2 0).toNat := by
    unfold hdA
    rw [List.length_append, hdt_len, hdt_len]
  unfold sX7_writeHands at e
  generalize hf : F = f at e
  cases f with
  | zero => exact absurd e (by rw [sX7_writeHands_2]; exact fun z => nomatch z)
  | succ f =>
  rw [sX7_writeHands_2] at e
  replace e := bn_e (by decide) e
  obtain ⟨g, G, gn, Og, e⟩ := wh_10 (l := l) (d := 0) (cap := cap) D H T O rfl (by decide) (by omega) _ (m := 0) W hn (by rw [show hdT L P 0 0 = [] from rfl, List.append_nil]; exact Ou) rfl (by omega) e
  have W1 := wrc_f D W G
  cases f with
  | zero => exact absurd e (by rw [sX7_writeHands_2]; exact fun z => nomatch z)
  | succ f =>
  rw [sX7_writeHands_2] at e
  replace e := bn_e (by decide) e
  obtain ⟨g2, G2, gn2, Og2, e⟩ := wh_10 (l := l ++ hdT L P 0 (L 2 0).toNat) (d := 1) (cap := cap) D H T O rfl (by decide) (by rw [List.length_append, hdt_len]; omega) _ (m := 0) W1 gn (by rw [show hdT L P 1 0 = [] from rfl, List.append_nil]; exact Og) rfl (by omega) e
  have W2 := wrc_f D W1 G2
  rw [List.append_assoc] at Og2
  have Og2 : OuC V g2 (l ++ hdA L P) := Og2
  have hz := hda_z H O W2.2.2
  cases f with
  | zero => exact absurd e (by rw [sX7_writeHands_2]; exact fun z => nomatch z)
  | succ f =>
  rw [sX7_writeHands_2] at e
  unfold sX7_writeHands_100 at e
  replace e := bp_e (by decide) e
  have no : ¬ hdA L P = [] → some g2 = some o → OuC V o (l ++ hdA L P ++ (if hdA L P = [] then [45] else [])) ∧ FrV V (wl wot) h o ∧ hN o (V 321) = cap := fun z u => by
    rw [if_neg z, List.append_nil, so_e u]
    exact ⟨Og2, fv_t G G2, gn2⟩
  replace e := ce_e W2.2.2.1.2.2.2.1 e
  replace e := gg_e e
  rcases br_s e with ⟨c, e⟩ | ⟨c, e⟩ <;> rw [n0, c_zero] at c
  rotate_left
  · exact no (fun z => c (hz.mp z).1) e
  replace e := ce_e W2.2.2.1.2.2.2.1 e
  replace e := gg_e e
  rcases br_s e with ⟨d, e⟩ | ⟨d, e⟩ <;> rw [n1, c_zero] at d
  rotate_left
  · exact no (fun z => d (hz.mp z).2) e
  replace e := cl_s e; obtain ⟨o8, eo8, e⟩ := e
  obtain ⟨O8, A8, n8⟩ := apd_c D Og2 (by rw [List.length_append, gn2]; omega) ⟨by decide, by decide⟩ eo8
  rw [if_pos (hz.mpr ⟨c, d⟩), so_e e]
  exact ⟨O8, fv_t G (fv_t G2 A8), by rw [n8, gn2]⟩
end
end
section
/-! texts of positions: the whole, as the class writes it -/
section
variable {F : Nat} {V : Nat → Nat} {L : Nat → Nat → Int} {h o : Hp} {P : Pz} {l : List Int}
theorem wrt_e (H : LOk L) : wrTx L P = mnT L P (fun _ => true) (L 1 0).toNat ++ [32] ++ [if pzS P = 0 then (119 : Int) else 98] ++ [32] ++ (rgT L P (L 0 0 * L 1 0).toNat ++ (if prB' (∀ q, q < 64 → pzR P q = false) = true then [45] else [])) ++ [32] ++ (psT L P (pzN P) ++ (if pzN P = 0 then [45] else [])) ++ [32] ++ (hdA L P ++ (if hdA L P = [] then [45] else [])) ++ [32] ++ [48 + pzC P 0] ++ [48 + pzC P 1] ++ [32] ++ nmD 12 (pzK P).toNat := by
  have sq := sq_64 H
  have r : (if prB' (∀ q, q < 64 → pzR P q = false) = true then [(45 : Int)] else []) ++ rgT L P (L 0 0 * L 1 0).toNat = rgT L P (L 0 0 * L 1 0).toNat ++ (if prB' (∀ q, q < 64 → pzR P q = false) = true then [45] else []) := by
    by_cases c : ∀ q, q < 64 → pzR P q = false
    · rw [rgt_nil c _ (by omega), List.append_nil, List.nil_append]
    · rw [if_neg (fun z => c (prb_e.mp z)), List.append_nil, List.nil_append]
  have p : (if pzN P = 0 then [(45 : Int)] else []) ++ psT L P (pzN P) = psT L P (pzN P) ++ (if pzN P = 0 then [45] else []) := by
    by_cases c : pzN P = 0
    · rw [c, show psT L P 0 = [] from rfl, List.append_nil, List.nil_append]
    · rw [if_neg c, List.append_nil, List.nil_append]
  unfold wrTx tl2 tl3 tl4
  rw [p, List.append_assoc (mnT L P (fun _ => true) (L 1 0).toNat ++ [32, if pzS P = 0 then (119 : Int) else 98, 32]), r]
  simp only [List.append_assoc, List.cons_append, List.nil_append]
/-- a position's text: the class -/
theorem wa_c (D : VD V) (H : LOk L) (T : LtO L) (O : PzOk L P) (W : WrC V h L P) (Ou : OuC V h l) (c72 : l.length + 72 ≤ hN h (V 321)) (cp : (l ++ wrTx L P).length ≤ hN h (V 321)) (e : sX7_writeAll F h (V 7) (V 4) (V 320) = some o) : OuC V o (l ++ wrTx L P) ∧ FrV V (wl wot) h o ∧ hN o (V 321) = hN h (V 321) := by
  have z0 : (0 : Int32).toInt = 0 := rfl
  have z48 : (48 : Int32).toInt = 48 := rfl
  have n0 : (0 : Int32).toNatClampNeg = 0 := rfl
  have n1 : (1 : Int32).toNatClampNeg = 1 := rfl
  have z32 : (32 : Int32).toInt = 32 := rfl
  have sq := sq_64 H
  have b0 := O.2.2.2.2.2.2.1 0 (by decide)
  have b1 := O.2.2.2.2.2.2.1 1 (by decide)
  have pl := pst_len (L := L) (P := P) (pzN P)
  rw [wrt_e H] at cp ⊢
  simp only [List.length_append, List.length_singleton] at cp
  have nml : 1 ≤ (nmD 12 (pzK P).toNat).length ∧ (nmD 12 (pzK P).toNat).length ≤ 3 ∨ True := Or.inr trivial
  unfold sX7_writeAll at e
  replace e := cl_s e; obtain ⟨o1, eo1, e⟩ := e
  have all : ∀ q : Fin 64, bitJ (-1 : Int64) q.val = true := by decide +kernel
  obtain ⟨A1, m1, O1⟩ := wk_c (S := fun _ => true) D H T O.1 (fun q hq => all ⟨q, hq⟩) W c72 Ou eo1
  have W1 := wrc_f D W A1
  replace e := cl_s e; obtain ⟨o2, eo2, e⟩ := e
  obtain ⟨O2, A2, m2⟩ := apd_c D O1 (by simp only [List.length_append]; omega) ⟨by decide, by decide⟩ eo2
  rw [z32] at O2
  have W2 := wrc_f D W1 A2
  have go : ∀ {t0 : Int32}, Rg 0 127 t0 → t0.toInt = (if pzS P = 0 then 119 else 98) → sX7_writeAll_30 F o2 (V 7) (V 4) (V 320) t0 (V 320) = some o → OuC V o (l ++ (mnT L P (fun _ => true) (L 1 0).toNat ++ [32] ++ [if pzS P = 0 then (119 : Int) else 98] ++ [32] ++ (rgT L P (L 0 0 * L 1 0).toNat ++ (if prB' (∀ q, q < 64 → pzR P q = false) = true then [45] else [])) ++ [32] ++ (psT L P (pzN P) ++ (if pzN P = 0 then [45] else [])) ++ [32] ++ (hdA L P ++ (if hdA L P = [] then [45] else [])) ++ [32] ++ [48 + pzC P 0] ++ [48 + pzC P 1] ++ [32] ++ nmD 12 (pzK P).toNat)) ∧ FrV V (wl wot) h o ∧ hN o (V 321) = hN h (V 321) := fun {t0} i0 et u => by
    unfold sX7_writeAll_30 at u
    replace u := cl_s u; obtain ⟨o3, eo3, u⟩ := u
    obtain ⟨O3, A3, m3⟩ := apd_c D O2 (by rw [m2, m1]; simp only [List.length_append, List.length_singleton]; omega) i0 eo3
    rw [et] at O3
    have W3 := wrc_f D W2 A3
    replace u := cl_s u; obtain ⟨o4, eo4, u⟩ := u
    obtain ⟨O4, A4, m4⟩ := apd_c D O3 (by rw [m3, m2, m1]; simp only [List.length_append, List.length_singleton]; omega) ⟨by decide, by decide⟩ eo4
    rw [z32] at O4
    have W4 := wrc_f D W3 A4
    replace u := cl_s u; obtain ⟨o5, eo5, u⟩ := u
    unfold sX7_writeRights at eo5
    obtain ⟨O5, A5, m5⟩ := wr_2c (l := l ++ mnT L P (fun _ => true) (L 1 0).toNat ++ [32] ++ [if pzS P = 0 then (119 : Int) else 98] ++ [32]) (cap := hN h (V 321)) D H (by simp only [List.length_append, List.length_singleton]; omega) F (n := 0) W4 (by rw [m4, m3, m2, m1]) (by rw [show rgT L P 0 = [] from rfl, List.append_nil]; exact O4) rfl (by omega) eo5
    have W5 := wrc_f D W4 A5
    replace u := cl_s u; obtain ⟨o6, eo6, u⟩ := u
    obtain ⟨O6, A6, m6⟩ := apd_c D O5 (by rw [m5]; simp only [List.length_append, List.length_singleton]; omega) ⟨by decide, by decide⟩ eo6
    rw [z32] at O6
    have W6 := wrc_f D W5 A6
    replace u := cl_s u; obtain ⟨o7, eo7, u⟩ := u
    unfold sX7_writePass at eo7
    obtain ⟨O7, A7, m7⟩ := wp_2c (l := l ++ mnT L P (fun _ => true) (L 1 0).toNat ++ [32] ++ [if pzS P = 0 then (119 : Int) else 98] ++ [32] ++ rgT L P (L 0 0 * L 1 0).toNat ++ (if prB' (∀ q, q < 64 → pzR P q = false) = true then [45] else []) ++ [32]) (cap := hN h (V 321)) D H O (by simp only [List.length_append, List.length_singleton]; omega) F (n := 0) W6 (by rw [m6, m5]) (by rw [show psT L P 0 = [] from rfl, List.append_nil]; exact O6) rfl (Nat.zero_le _) eo7
    have W7 := wrc_f D W6 A7
    replace u := cl_s u; obtain ⟨o8, eo8, u⟩ := u
    obtain ⟨O8, A8, m8⟩ := apd_c D O7 (by rw [m7]; simp only [List.length_append, List.length_singleton]; omega) ⟨by decide, by decide⟩ eo8
    rw [z32] at O8
    have W8 := wrc_f D W7 A8
    replace u := cl_s u; obtain ⟨o9, eo9, u⟩ := u
    obtain ⟨O9, A9, m9⟩ := wh_c (cap := hN h (V 321)) D H T O (by simp only [List.length_append, List.length_singleton]; omega) W8 (by rw [m8, m7]) O8 eo9
    have W9 := wrc_f D W8 A9
    replace u := cl_s u; obtain ⟨o10, eo10, u⟩ := u
    obtain ⟨O10, A10, m10⟩ := apd_c D O9 (by rw [m9]; simp only [List.length_append, List.length_singleton]; omega) ⟨by decide, by decide⟩ eo10
    rw [z32] at O10
    have W10 := wrc_f D W9 A10
    have c0 := W10.2.2.2.2.2.2.2.2.1 0 (by decide)
    have t0' : ((48 : Int32) + (hI o10 (V 38) 0)).toInt = 48 + pzC P 0 := by rw [ta (by rw [c0, z48]; omega), c0, z48]
    replace u := ce_e W10.2.2.1.2.2.2.2 u
    replace u := gg_e u
    replace u := cl_s u; obtain ⟨o11, eo11, u⟩ := u
    rw [n0] at eo11
    obtain ⟨O11, A11, m11⟩ := apd_c D O10 (by rw [m10, m9]; simp only [List.length_append, List.length_singleton]; omega) (c := (48 : Int32) + (hI o10 (V 38) 0)) ⟨by omega, by omega⟩ eo11
    rw [t0'] at O11
    have W11 := wrc_f D W10 A11
    have c1 := W11.2.2.2.2.2.2.2.2.1 1 (by decide)
    have t1' : ((48 : Int32) + (hI o11 (V 38) 1)).toInt = 48 + pzC P 1 := by rw [ta (by rw [c1, z48]; omega), c1, z48]
    replace u := ce_e W11.2.2.1.2.2.2.2 u
    replace u := gg_e u
    replace u := cl_s u; obtain ⟨o12, eo12, u⟩ := u
    rw [n1] at eo12
    obtain ⟨O12, A12, m12⟩ := apd_c D O11 (by rw [m11, m10, m9]; simp only [List.length_append, List.length_singleton]; omega) (c := (48 : Int32) + (hI o11 (V 38) 1)) ⟨by omega, by omega⟩ eo12
    rw [t1'] at O12
    have W12 := wrc_f D W11 A12
    replace u := cl_s u; obtain ⟨o13, eo13, u⟩ := u
    obtain ⟨O13, A13, m13⟩ := apd_c D O12 (by rw [m12, m11, m10, m9]; simp only [List.length_append, List.length_singleton]; omega) ⟨by decide, by decide⟩ eo13
    rw [z32] at O13
    have W13 := wrc_f D W12 A13
    replace u := cl_s u; obtain ⟨o14, eo14, u⟩ := u
    obtain ⟨O14, A14, m14⟩ := wc_c D O W13 O13 (by rw [m13, m12, m11, m10, m9]; simp only [List.length_append, List.length_singleton]; omega) eo14
    rw [so_e u]
    refine ⟨?_, fv_t A1 (fv_t A2 (fv_t A3 (fv_t A4 (fv_t A5 (fv_t A6 (fv_t A7 (fv_t A8 (fv_t A9 (fv_t A10 (fv_t A11 (fv_t A12 (fv_t A13 A14)))))))))))), by rw [m14, m13, m12, m11, m10, m9]⟩
    simp only [List.append_assoc] at O14 ⊢
    exact O14
  have bs := W2.2.2.2.2.1
  have isd := O.2.2.1
  rcases br_s e with ⟨c, e⟩ | ⟨c, e⟩
  · rw [c, z0] at bs
    exact go ⟨by decide, by decide⟩ (by rw [if_pos (show pzS P = 0 by omega)]; rfl) e
  · exact go ⟨by decide, by decide⟩ (by rw [if_neg (show ¬ pzS P = 0 from fun z => c (Int32.toInt_inj.mp (by rw [bs, z, z0]; rfl)))]; rfl) e
end
end
section
/-! where all things stand: addresses by keys -/
/-- which thing a key belongs to: 0 what stands firm, 1 .. 3 positions of the class, 4 .. 6 boards of the reference, 7 its list of moves, 8 its law, 9 a text, 10 a list, 11 none -/
def kcl (k : Nat) : Nat := if k = 4 ∨ (34 ≤ k ∧ k ≤ 38) then 1 else if k = 204 ∨ (234 ≤ k ∧ k ≤ 238) then 2 else if 310 ≤ k ∧ k ≤ 315 then 3 else if k = 13 ∨ (62 ≤ k ∧ k ≤ 65) then 4 else if k = 213 ∨ (262 ≤ k ∧ k ≤ 265) then 5 else if 300 ≤ k ∧ k ≤ 304 then 6 else if k = 14 ∨ (66 ≤ k ∧ k ≤ 72) then 7 else if k = 15 ∨ (73 ≤ k ∧ k ≤ 81) then 8 else if k = 320 ∨ k = 321 then 9 else if k = 47 then 10 else if 305 ≤ k then 11 else 0
/-- its place there -/
def kof (k : Nat) : Nat := if k = 4 ∨ k = 204 ∨ k = 13 ∨ k = 213 ∨ k = 14 ∨ k = 15 ∨ k = 47 then 0 else if 34 ≤ k ∧ k ≤ 38 then k - 33 else if 234 ≤ k ∧ k ≤ 238 then k - 233 else if 310 ≤ k ∧ k ≤ 315 then k - 310 else if 62 ≤ k ∧ k ≤ 65 then k - 61 else if 262 ≤ k ∧ k ≤ 265 then k - 261 else if 300 ≤ k ∧ k ≤ 304 then k - 300 else if 66 ≤ k ∧ k ≤ 72 then k - 65 else if 73 ≤ k ∧ k ≤ 81 then k - 72 else if 320 ≤ k ∧ k ≤ 321 then k - 320 else if 305 ≤ k then k else if k = 2 then 5 else if k = 10 then 1 else if k = 49 then 2 else if 27 ≤ k ∧ k ≤ 33 then k - 21 else if k = 7 then 38 else if k = 6 then 30 else if k = 11 then 22 else if 50 ≤ k ∧ k ≤ 56 then k - 27 else if k = 16 then 513 else if k = 82 then 514 else if 86 ≤ k ∧ k ≤ 88 then k + 458 else if k = 222 then 543 else if k = 247 then 515 else 900 + k
def vV (B : Nat → Nat) : Nat → Nat := fun k => B (kcl k) + kof k
theorem kcl_lt (k : Nat) : kcl k < 12 := by
  unfold kcl
  repeat' split
  all_goals decide
theorem kk_inj : ∀ a, a ∈ vql → ∀ b, b ∈ vql → kcl a = kcl b → kof a = kof b → a = b := by decide +kernel
/-- addresses of keys are apart, if the things are -/
theorem vd_mk {B own t : Nat → Nat} (a : ∀ k, k ∈ vql → own (B (kcl k) + kof k) = t (kcl k)) (d : ∀ c c', c < 12 → c' < 12 → t c = t c' → c = c') : VD (vV B) := fun x hx y hy n e => by
  have e : B (kcl x) + kof x = B (kcl y) + kof y := e
  have e1 : t (kcl x) = t (kcl y) := by rw [← a x hx, ← a y hy, e]
  have e2 := d _ _ (kcl_lt x) (kcl_lt y) e1
  rw [e2] at e
  exact n (kk_inj x hx y hy e2 (by omega))
/-- how much room a thing takes -/
def wdc (c : Nat) : Nat := if c = 1 ∨ c = 2 ∨ c = 3 then 6 else if c = 4 ∨ c = 5 ∨ c = 6 then 5 else if c = 7 then 8 else if c = 8 then 10 else if c = 9 then 2 else if c = 10 then 1 else 1000
theorem kof_w : ∀ k, k ∈ vql → (kcl k = 0 ∧ kof k < 610) ∨ (¬ kcl k = 0 ∧ kof k < wdc (kcl k)) := by decide +kernel
/-- whose a place is, of those made at the start -/
def sTg (j : Nat) : Nat := if 32 ≤ j ∧ j < 38 then 1 else if 40 ≤ j ∧ j < 46 then 2 else if 49 ≤ j ∧ j < 55 then 3 else if 55 ≤ j ∧ j < 61 then 4 else if 63 ≤ j ∧ j < 69 then 5 else if 3 ≤ j ∧ j < 5 then 6 else if 46 ≤ j ∧ j < 48 then 7 else if j = 31 then 8 else if j = 147 then 9 else if 93 ≤ j ∧ j < 147 then 10 + (j - 93) / 6 else if 79 ≤ j ∧ j < 87 then 20 + (j - 79) else if 153 ≤ j ∧ j < 513 then 30 + (j - 153) / 6 else if 516 ≤ j ∧ j < 526 then 100 else if 526 ≤ j ∧ j < 536 then 101 else if 538 ≤ j ∧ j < 543 then 102 else if 547 ≤ j ∧ j < 552 then 103 else if 568 ≤ j ∧ j < 573 then 104 else if 575 ≤ j ∧ j < 580 then 105 else if 587 ≤ j ∧ j < 592 then 106 else if 602 ≤ j ∧ j < 607 then 107 else if 552 ≤ j ∧ j < 560 then 108 else if 560 ≤ j ∧ j < 568 then 109 else 0
theorem sTg_0 : ∀ k, k ∈ vql → kcl k = 0 → sTg (kof k) = 0 := by decide +kernel
theorem sTg_all : ∀ j : Fin 610, sTg j.val < 200 := by decide +kernel
theorem sTg_lt (j : Nat) (h : j < 610) : sTg j < 200 := sTg_all ⟨j, h⟩
/-- a thing at b, of w places, that is t -/
def Bk (own : Nat → Nat) (h : Hp) (b w t : Nat) : Prop := b + w ≤ hS h ∧ ∀ j, j < w → own (b + j) = t
def OwS (n : Nat) (h : Hp) (own : Nat → Nat) : Prop := (∀ j, j < 610 → own (n + j) = sTg j) ∧ n + 610 ≤ hS h
theorem vd_own {n : Nat} {h : Hp} {own B t : Nat → Nat} (O : OwS n h own) (c0 : B 0 = n) (ch : ∀ c, 1 ≤ c → c < 12 → (Bk own h (B c) (wdc c) (t c) ∧ 0 < t c ∧ t c < 20000) ∨ (B c = hS h + 1000 * c ∧ t c = 20000 + c)) (d : ∀ c c', 1 ≤ c → c < c' → c' < 12 → ¬ t c = t c') (t0 : t 0 = 0) : VD (vV B) := by
  refine vd_mk (own := fun a => if a < hS h then own a else 20000 + (a - hS h) / 1000) (t := t) (fun k hk => ?_) (fun c c' l l' e => ?_)
  · rcases kof_w k hk with ⟨z, w⟩ | ⟨z, w⟩
    · rw [z, c0, t0]
      have := O.2
      show (if n + kof k < hS h then own (n + kof k) else _) = 0
      rw [if_pos (by omega), O.1 _ w]
      exact sTg_0 k hk z
    · have lt := kcl_lt k
      rcases ch (kcl k) (by omega) lt with ⟨⟨b1, b2⟩, _⟩ | ⟨b1, b2⟩
      · show (if B (kcl k) + kof k < hS h then own (B (kcl k) + kof k) else _) = _
        rw [if_pos (by omega)]
        exact b2 _ w
      · have w' : kof k < 1000 := by
          have : ∀ c, wdc c ≤ 1000 := fun c => by
            unfold wdc
            repeat' split
            all_goals omega
          have := this (kcl k)
          omega
        rw [b1, b2]
        generalize kcl k = c at *
        show (if hS h + 1000 * c + kof k < hS h then own _ else 20000 + (hS h + 1000 * c + kof k - hS h) / 1000) = 20000 + c
        rw [if_neg (by omega)]
        omega
  · by_cases z : c = 0
    · by_cases z' : c' = 0
      · rw [z, z']
      · have := ch c' (by omega) l'
        rw [z, t0] at e
        omega
    · by_cases z' : c' = 0
      · have := ch c (by omega) l
        rw [z', t0] at e
        omega
      · by_cases q : c = c'
        · exact q
        · by_cases q2 : c < c'
          · exact absurd e (d c c' (by omega) q2 l')
          · exact absurd e.symm (d c' c (by omega) (by omega) l)
/-- things of the class: two positions, a third, a text, a list -/
def bC (n s p q r x l : Nat) : Nat → Nat := fun c => if c = 0 then n else if c = 1 then p else if c = 2 then q else if c = 3 then r else if c = 9 then x else if c = 10 then l else s + 1000 * c
/-- things of the reference: two boards, a third, moves, its law -/
def bR (n s p q r v l : Nat) : Nat → Nat := fun c => if c = 0 then n else if c = 4 then p else if c = 5 then q else if c = 6 then r else if c = 7 then v else if c = 8 then l else s + 1000 * c
abbrev vK (n s p q r x l : Nat) : Nat → Nat := vV (bC n s p q r x l)
abbrev vM (n s p q r v l : Nat) : Nat → Nat := vV (bR n s p q r v l)
section
variable {n p q r x l v : Nat} {h : Hp} {own : Nat → Nat} {t1 t2 t3 t4 t5 : Nat}
/-- either a thing, or beyond the end -/
def BkE (own : Nat → Nat) (h : Hp) (b c t : Nat) : Prop := (Bk own h b (wdc c) t ∧ 0 < t ∧ t < 20000) ∨ (b = hS h + 1000 * c ∧ t = 20000 + c)
theorem bke_o {c : Nat} : BkE own h (hS h + 1000 * c) c (20000 + c) := Or.inr ⟨rfl, rfl⟩
theorem vd_k (O : OwS n h own) (b1 : BkE own h p 1 t1) (b2 : BkE own h q 2 t2) (b3 : BkE own h r 3 t3) (b4 : BkE own h x 9 t4) (b5 : BkE own h l 10 t5) (d : ¬ t1 = t2 ∧ ¬ t1 = t3 ∧ ¬ t1 = t4 ∧ ¬ t1 = t5 ∧ ¬ t2 = t3 ∧ ¬ t2 = t4 ∧ ¬ t2 = t5 ∧ ¬ t3 = t4 ∧ ¬ t3 = t5 ∧ ¬ t4 = t5) : VD (vK n (hS h) p q r x l) := by
  have g : ∀ {b c t : Nat}, BkE own h b c t → (0 < t ∧ t < 20000) ∨ t = 20000 + c := fun z => by
    rcases z with z | z
    · exact Or.inl z.2
    · exact Or.inr z.2
  have g1 := g b1
  have g2 := g b2
  have g3 := g b3
  have g4 := g b4
  have g5 := g b5
  refine vd_own (t := fun c => if c = 0 then 0 else if c = 1 then t1 else if c = 2 then t2 else if c = 3 then t3 else if c = 9 then t4 else if c = 10 then t5 else 20000 + c) O rfl (fun c h1 h2 => ?_) (fun c c' h1 h2 h3 => ?_) rfl
  · have : c = 1 ∨ c = 2 ∨ c = 3 ∨ c = 4 ∨ c = 5 ∨ c = 6 ∨ c = 7 ∨ c = 8 ∨ c = 9 ∨ c = 10 ∨ c = 11 := by omega
    rcases this with z | z | z | z | z | z | z | z | z | z | z <;> subst z
    · exact b1
    · exact b2
    · exact b3
    · exact bke_o
    · exact bke_o
    · exact bke_o
    · exact bke_o
    · exact bke_o
    · exact b4
    · exact b5
    · exact bke_o
  · skip
    have a : c = 1 ∨ c = 2 ∨ c = 3 ∨ c = 9 ∨ c = 10 ∨ (4 ≤ c ∧ c ≤ 8) ∨ c = 11 := by omega
    have b : c' = 1 ∨ c' = 2 ∨ c' = 3 ∨ c' = 9 ∨ c' = 10 ∨ (4 ≤ c' ∧ c' ≤ 8) ∨ c' = 11 := by omega
    repeat' split
    all_goals omega
theorem vd_m (O : OwS n h own) (b1 : BkE own h p 4 t1) (b2 : BkE own h q 5 t2) (b3 : BkE own h r 6 t3) (b4 : BkE own h v 7 t4) (b5 : BkE own h l 8 t5) (d : ¬ t1 = t2 ∧ ¬ t1 = t3 ∧ ¬ t1 = t4 ∧ ¬ t1 = t5 ∧ ¬ t2 = t3 ∧ ¬ t2 = t4 ∧ ¬ t2 = t5 ∧ ¬ t3 = t4 ∧ ¬ t3 = t5 ∧ ¬ t4 = t5) : VD (vM n (hS h) p q r v l) := by
  have g : ∀ {b c t : Nat}, BkE own h b c t → (0 < t ∧ t < 20000) ∨ t = 20000 + c := fun z => by
    rcases z with z | z
    · exact Or.inl z.2
    · exact Or.inr z.2
  have g1 := g b1
  have g2 := g b2
  have g3 := g b3
  have g4 := g b4
  have g5 := g b5
  refine vd_own (t := fun c => if c = 0 then 0 else if c = 4 then t1 else if c = 5 then t2 else if c = 6 then t3 else if c = 7 then t4 else if c = 8 then t5 else 20000 + c) O rfl (fun c h1 h2 => ?_) (fun c c' h1 h2 h3 => ?_) rfl
  · have : c = 1 ∨ c = 2 ∨ c = 3 ∨ c = 4 ∨ c = 5 ∨ c = 6 ∨ c = 7 ∨ c = 8 ∨ c = 9 ∨ c = 10 ∨ c = 11 := by omega
    rcases this with z | z | z | z | z | z | z | z | z | z | z <;> subst z
    · exact bke_o
    · exact bke_o
    · exact bke_o
    · exact b1
    · exact b2
    · exact b3
    · exact b4
    · exact b5
    · exact bke_o
    · exact bke_o
    · exact bke_o
  · skip
    repeat' split
    all_goals omega
end
end
