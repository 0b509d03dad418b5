section
/-! ENDINGS, the class: its SETS sorted -/
section
variable {n F N q : Nat} {h h0 o : Hp} {x1 x2 x3 : Int32} {kf : Nat → Int32} {G : Int32 → Int} {tot : Int} {e f : Nat → Int32}
/-- the same keys, each once, with the same sum -/
def EpE (N : Nat) (kf : Nat → Int32) (G : Int32 → Int) (tot : Int) (e : Nat → Int32) : Prop := (∀ a b, a < N → b < N → e a = e b → a = b) ∧ (∀ v, (∃ a, a < N ∧ e a = v) ↔ ∃ a, a < N ∧ kf a = v) ∧ sm (fun a => G (e a)) N = tot
theorem sm_ex {f g : Nat → Int} : ∀ (m : Nat), (∀ i, i < m → f i = g i) → sm f m = sm g m := by
  intro m
  induction m with
  | zero => intro _; rfl
  | succ m ih =>
    intro h
    show sm f m + f m = sm g m + g m
    rw [ih (fun i hi => h i (by omega)), h m (Nat.lt_succ_self _)]
theorem epe_g (x : ∀ a, a < N → f a = e a) (E : EpE N kf G tot e) : EpE N kf G tot f := by
  obtain ⟨a, b, c⟩ := E
  refine ⟨fun i j hi hj z => a i j hi hj (by rw [← x i hi, ← x j hj]; exact z), fun v => ?_, ?_⟩
  · rw [← b]
    exact ⟨fun ⟨i, hi, z⟩ => ⟨i, hi, by rw [← x i hi]; exact z⟩, fun ⟨i, hi, z⟩ => ⟨i, hi, by rw [x i hi]; exact z⟩⟩
  · rw [← c]
    exact sm_ex N (fun i hi => by show G (f i) = G (e i); rw [x i hi])
theorem epe_s {j : Nat} (j1 : 1 ≤ j) (jN : j < N) (x : ∀ a, a < N → f a = if a = j - 1 then e j else if a = j then e (j - 1) else e a) (E : EpE N kf G tot e) : EpE N kf G tot f := by
  obtain ⟨a, b, c⟩ := E
  have f1 : f (j - 1) = e j := by rw [x _ (by omega), if_pos rfl]
  have f2 : f j = e (j - 1) := by rw [x _ jN, if_neg (by omega), if_pos rfl]
  have f3 : ∀ i, i < N → ¬ i = j - 1 → ¬ i = j → f i = e i := fun i hi p1 p2 => by rw [x i hi, if_neg p1, if_neg p2]
  have sw : ∀ i, i < N → ∃ i', i' < N ∧ f i = e i' ∧ f i' = e i ∧ ((i = j - 1 ∧ i' = j) ∨ (i = j ∧ i' = j - 1) ∨ (¬ i = j - 1 ∧ ¬ i = j ∧ i' = i)) := fun i hi => by
    by_cases p1 : i = j - 1
    · exact ⟨j, jN, by rw [p1]; exact f1, by rw [p1]; exact f2, Or.inl ⟨p1, rfl⟩⟩
    · by_cases p2 : i = j
      · exact ⟨j - 1, by omega, by rw [p2]; exact f2, by rw [p2]; exact f1, Or.inr (Or.inl ⟨p2, rfl⟩)⟩
      · exact ⟨i, hi, f3 i hi p1 p2, f3 i hi p1 p2, Or.inr (Or.inr ⟨p1, p2, rfl⟩)⟩
  refine ⟨fun i i2 hi hi2 z => ?_, fun v => ?_, ?_⟩
  · obtain ⟨u, hu, u1, _, u3⟩ := sw i hi
    obtain ⟨w, hw, w1, _, w3⟩ := sw i2 hi2
    have := a u w hu hw (by rw [← u1, ← w1]; exact z)
    omega
  · rw [← b]
    constructor
    · intro ⟨i, hi, z⟩
      obtain ⟨u, hu, u1, _⟩ := sw i hi
      exact ⟨u, hu, by rw [← u1]; exact z⟩
    · intro ⟨i, hi, z⟩
      obtain ⟨u, hu, _, u2, _⟩ := sw i hi
      exact ⟨u, hu, by rw [u2]; exact z⟩
  · rw [← c]
    have s := sm_swap (f := e) (G := G) (k := j - 1) (m := N) (v := e j) (by omega)
    have l : sm (fun a => G (f a)) N = sm (fun i => G (up (up e (j - 1 + 1) (e (j - 1))) (j - 1) (e j) i)) N := sm_ex N (fun i hi => by
      show G (f i) = G (up (up e (j - 1 + 1) (e (j - 1))) (j - 1) (e j) i)
      rw [x i hi, show j - 1 + 1 = j by omega]
      unfold up
      by_cases p1 : i = j - 1
      · rw [if_pos p1]
      · rw [if_neg p1])
    have r : sm (fun i => G (up e (j - 1 + 1) (e j) i)) N = sm (fun a => G (e a)) N := sm_ex N (fun i hi => by
      show G (up e (j - 1 + 1) (e j) i) = G (e i)
      rw [show j - 1 + 1 = j by omega]
      unfold up
      by_cases p : i = j
      · rw [if_pos p, p]
      · rw [if_neg p])
    rw [l, s, r]
/-- one key goes to its place -/
theorem srt_19 {K2 : Hp → Nat → Int32 → Option Hp} {Q : Hp → Prop} {i : Nat} (k0 : DyK n h0 h0) (iN : i < N) (N10 : N ≤ 1024) (hK : ∀ {u : Hp}, DkT n h0 u → FrW (fun a _ => a = n + 69) h0 u → EpE N kf G tot (fun a => hI u (n + 69) a) → (∀ a b, a < b → b < i + 1 → (hI u (n + 69) a).toInt < (hI u (n + 69) b).toInt) → K2 u (n + 62) (x1 + (1 : Int32)) = some o → Q o) : ∀ (fu : Nat) {h : Hp} {x3 : Int32} {j : Nat}, DkT n h0 h → FrW (fun a _ => a = n + 69) h0 h → x3.toInt = (j : Int) → j ≤ i → EpE N kf G tot (fun a => if a = j then x2 else hI h (n + 69) a) → (∀ a b, a < b → b ≤ i → ¬ a = j → ¬ b = j → (hI h (n + 69) a).toInt < (hI h (n + 69) b).toInt) → (∀ b, j < b → b ≤ i → x2.toInt < (hI h (n + 69) b).toInt) → sX0_sortSets_19 F K2 fu h (n + 62) x1 x2 x3 = some o → Q o := by
  have z1 : (1 : Int32).toInt = 1 := rfl
  have z0 : (0 : Int32).toInt = 0 := rfl
  have zm : (-1 : Int32).toInt = -1 := rfl
  intro fu
  induction fu with
  | zero => intro h x3 j _ _ _ _ _ _ _ e; exact absurd e (by rw [sX0_sortSets_19]; exact fun z => nomatch z)
  | succ fu ih =>
    intro h x3 j dk Fr e3 ji Ep so gt e
    have kh := dk.1 _ k0
    rw [sX0_sortSets_19] at e
    have r4 := dk_e (a := 62) (f := 4) (b := 69) kh (by decide +kernel)
    have n3 : x3.toNatClampNeg = j := by have := nc_i (x := x3) (by omega); omega
    have fin : (∀ a, a < j → (hI h (n + 69) a).toInt < x2.toInt) → sX0_sortSets_55 F K2 h (n + 62) x1 x2 x3 = some o → Q o := fun lt e => by
      unfold sX0_sortSets_55 at e
      replace e := ce_e r4 e
      replace e := gg_e e
      obtain ⟨h3, u3, e⟩ := nm_s e
      replace e := nx_e e
      rw [n3] at u3
      have c3 : ∀ a, hI h3 (n + 69) a = if a = j then x2 else hI h (n + 69) a := fun a => by
        rw [u3]
        by_cases p : a = j
        · rw [if_pos p, p, rI_s]
        · rw [if_neg p, rI_o p]
      refine hK (by rw [u3]; exact dkt_w dk) (by rw [u3]; exact fw_wI Fr rfl) (epe_g (fun a _ => c3 a) Ep) (fun a b ab bi => ?_) e
      rw [c3, c3]
      by_cases p : a = j
      · rw [if_pos p, if_neg (by omega)]; exact gt b (by omega) (by omega)
      · rw [if_neg p]
        by_cases r : b = j
        · rw [if_pos r]; exact lt a (by omega)
        · rw [if_neg r]; exact so a b ab (by omega) p r
    rcases br_s e with ⟨c, e⟩ | ⟨c, e⟩
    · have c := le_i c
      rw [z0] at c
      exact fin (fun a ha => by omega) e
    have c := nle_i c
    rw [z0] at c
    have nj : (x3 - (1 : Int32)).toNatClampNeg = j - 1 := by
      have a : (x3 - (1 : Int32)).toInt = (j : Int) - 1 := by rw [ts (by rw [z1]; omega), z1, e3]
      have := nc_i (x := x3 - (1 : Int32)) (by omega); omega
    replace e := ce_e r4 e
    replace e := gg_e e
    rcases br_s e with ⟨c2, e⟩ | ⟨c2, e⟩ <;> rw [nj] at c2
    · have c2 := le_i c2
      have ne : ¬ (hI h (n + 69) (j - 1)).toInt = x2.toInt := fun z => by
        have := Ep.1 (j - 1) j (by omega) (by omega) (by
          show (if j - 1 = j then x2 else hI h (n + 69) (j - 1)) = (if j = j then x2 else hI h (n + 69) j)
          rw [if_neg (by omega), if_pos rfl]
          exact Int32.toInt_inj.mp z)
        omega
      refine fin (fun a ha => ?_) e
      by_cases p : a = j - 1
      · rw [p]; omega
      · have := so a (j - 1) (by omega) (by omega) (by omega) (by omega)
        omega
    · have c2 := nle_i c2
      replace e := ce_e r4 e
      replace e := ce_e r4 e
      replace e := gg_e e
      replace e := gg_e e
      obtain ⟨h9, u9, e⟩ := nm_s e
      obtain ⟨v10, w10, e⟩ := nm_s e
      rw [n3, nj] at u9
      have y10 : v10.toInt = ((j - 1 : Nat) : Int) := by rw [w10, ta (by rw [zm]; omega), zm]; omega
      have c9 : ∀ a, hI h9 (n + 69) a = if a = j then hI h (n + 69) (j - 1) else hI h (n + 69) a := fun a => by
        rw [u9]
        by_cases p : a = j
        · rw [if_pos p, p, rI_s]
        · rw [if_neg p, rI_o p]
      refine ih (j := j - 1) (by rw [u9]; exact dkt_w dk) (by rw [u9]; exact fw_wI Fr rfl) y10 (by omega) (epe_s (j := j) (by omega) (by omega) (fun a _ => ?_) Ep) (fun a b ab bi p1 p2 => ?_) (fun b b1 b2 => ?_) e
      · show (if a = j - 1 then x2 else hI h9 (n + 69) a) = if a = j - 1 then (if j = j then x2 else hI h (n + 69) j) else if a = j then (if j - 1 = j then x2 else hI h (n + 69) (j - 1)) else (if a = j then x2 else hI h (n + 69) a)
        rw [c9, if_pos rfl, show (if j - 1 = j then x2 else hI h (n + 69) (j - 1)) = hI h (n + 69) (j - 1) from if_neg (by omega)]
        by_cases p : a = j - 1
        · rw [if_pos p, if_pos p]
        · rw [if_neg p, if_neg p]
          by_cases r : a = j
          · rw [if_pos r, if_pos r]
          · rw [if_neg r, if_neg r, if_neg r]
      · rw [c9, c9]
        by_cases p : a = j
        · rw [if_pos p, if_neg (by omega)]
          exact so (j - 1) b (by omega) bi (by omega) (by omega)
        · rw [if_neg p]
          by_cases r : b = j
          · rw [if_pos r]; exact so a (j - 1) (by omega) (by omega) p (by omega)
          · rw [if_neg r]; exact so a b ab bi p r
      · rw [c9]
        by_cases p : b = j
        · rw [if_pos p]; exact c2
        · rw [if_neg p]; exact gt b (by omega) b2
theorem srt_2 (k0 : DyK n h0 h0) (N10 : N ≤ 1024) (e9 : (hI h0 (n + 62) 9).toInt = (N : Int)) : ∀ (fu : Nat) {h : Hp} {x1 : Int32} {i : Nat}, DkT n h0 h → FrW (fun a _ => a = n + 69) h0 h → x1.toInt = (i : Int) → EpE N kf G tot (fun a => hI h (n + 69) a) → (∀ a b, a < b → b < i → b < N → (hI h (n + 69) a).toInt < (hI h (n + 69) b).toInt) → sX0_sortSets_2 F fu h (n + 62) x1 = some o → ∃ u, DkT n h0 u ∧ FrW (fun a _ => a = n + 69) h0 u ∧ EpE N kf G tot (fun a => hI u (n + 69) a) ∧ SoK n u N ∧ sX0_sortSets_77 F F (wI u (n + 70) 0 0) (n + 62) 0 = some o := by
  have z1 : (1 : Int32).toInt = 1 := rfl
  have s0 := dk_610 k0
  intro fu
  induction fu with
  | zero => intro h x1 i _ _ _ _ _ e; exact absurd e (by rw [sX0_sortSets_2]; exact fun z => nomatch z)
  | succ fu ih =>
    intro h x1 i dk Fr e1 Ep so e
    have kh := dk.1 _ k0
    have c9 : (hI h (n + 62) 9).toInt = (N : Int) := by rw [(Fr.2 (n + 62) 9 (by omega) (fun z => by omega)).1]; exact e9
    rw [sX0_sortSets_2] at e
    rcases br_s e with ⟨c, e⟩ | ⟨c, e⟩
    · have c := le_i c
      rw [c9] at c
      replace e := ce_e (dk_e (a := 62) (f := 5) (b := 70) kh (by decide +kernel)) e
      replace e := gg_e e
      replace e := nx_e e
      exact ⟨h, dk, Fr, Ep, fun a b ab bN => so a b ab (by omega) bN, e⟩
    have c := nle_i c
    rw [c9] at c
    have n1 : x1.toNatClampNeg = i := by have := nc_i (x := x1) (by omega); omega
    replace e := ce_e (dk_e (a := 62) (f := 4) (b := 69) kh (by decide +kernel)) e
    replace e := gg_e e
    obtain ⟨v7, w7, e⟩ := nm_s e
    rw [n1] at w7
    refine srt_19 (kf := kf) (G := G) (tot := tot) (i := i) (Q := fun o => ∃ u, DkT n h0 u ∧ FrW (fun a _ => a = n + 69) h0 u ∧ EpE N kf G tot (fun a => hI u (n + 69) a) ∧ SoK n u N ∧ sX0_sortSets_77 F F (wI u (n + 70) 0 0) (n + 62) 0 = some o) k0 (by omega) N10 (fun {u} du Fu Eu su e => ih (i := i + 1) du Fu (by rw [ta (by rw [z1]; omega), z1]; omega) Eu (fun a b ab bi _ => su a b ab bi) e) F (j := i) dk Fr e1 (Nat.le_refl _) (epe_g (fun a _ => ?_) Ep) (fun a b ab bi p1 p2 => so a b ab (by omega) (by omega)) (fun b b1 b2 => by omega) e
    show (if a = i then v7 else hI h (n + 69) a) = hI h (n + 69) a
    by_cases p : a = i
    · rw [if_pos p, w7, p]
    · rw [if_neg p]
/-- where each SET begins -/
theorem srt_77 {nk : Nat → Nat} {rk : Nat → Nat → Int} {sb : Nat → Nat} (hF : 700000 ≤ F) (k0 : DyK n h0 h0) (N10 : N ≤ 1024) (e9 : (hI h0 (n + 62) 9).toInt = (N : Int)) (K : ∀ j, j < N → KeyR (hI h0 (n + 69) j) (rk j) (nk j) ∧ sb (j + 1) = sb j + 2 * q ^ nk j) (Pw : PwE n h0 q) (mo : ∀ j, j ≤ N → sb j ≤ 600000) : ∀ (fu : Nat) {h : Hp} {x1 : Int32} {i : Nat}, DkT n h0 h → FrW (fun a _ => a = n + 70) h0 h → x1.toInt = (i : Int) → i ≤ N → (∀ j, j ≤ i → (hI h (n + 70) j).toInt = (sb j : Int)) → sX0_sortSets_77 F fu h (n + 62) x1 = some o → DkT n h0 o ∧ FrW (fun a _ => a = n + 70) h0 o ∧ ∀ j, j ≤ N → (hI o (n + 70) j).toInt = (sb j : Int) := by
  have z1 : (1 : Int32).toInt = 1 := rfl
  have z2 : (2 : Int32).toInt = 2 := rfl
  have s0 := dk_610 k0
  intro fu
  induction fu with
  | zero => intro h x1 i _ _ _ _ _ e; exact absurd e (by rw [sX0_sortSets_77]; exact fun z => nomatch z)
  | succ fu ih =>
    intro h x1 i dk Fr e1 iN st e
    have kh := dk.1 _ k0
    have X : ∀ j a, j < 610 → ¬ j = 70 → hI h (n + j) a = hI h0 (n + j) a := fun j a h1 h2 => (Fr.2 _ _ (by omega) (fun z => by omega)).1
    rw [sX0_sortSets_77] at e
    rcases br_s e with ⟨c, e⟩ | ⟨c, e⟩
    · have c := le_i c
      rw [X 62 9 (by omega) (by omega), e9] at c
      rw [so_e e]
      exact ⟨dk, Fr, fun j hj => st j (by omega)⟩
    have c := nle_i c
    rw [X 62 9 (by omega) (by omega), e9] at c
    have n1 : x1.toNatClampNeg = i := by have := nc_i (x := x1) (by omega); omega
    have n2 : (x1 + (1 : Int32)).toNatClampNeg = i + 1 := by
      have a : (x1 + (1 : Int32)).toInt = (i : Int) + 1 := by rw [ta (by rw [z1]; omega), z1, e1]
      have := nc_i (x := x1 + (1 : Int32)) (by omega); omega
    have r5 := dk_e (a := 62) (f := 5) (b := 70) kh (by decide +kernel)
    replace e := ce_e r5 e
    replace e := ce_e r5 e
    replace e := gg_e e
    replace e := ce_e (dk_e (a := 62) (f := 6) (b := 71) kh (by decide +kernel)) e
    replace e := ce_e (dk_e (a := 62) (f := 4) (b := 69) kh (by decide +kernel)) e
    replace e := gg_e e
    obtain ⟨o8, e8, e⟩ := cl_s e
    rw [n1, X 69 i (by omega) (by omega)] at e8
    obtain ⟨K1, K2⟩ := K i (by omega)
    obtain ⟨p8, v8⟩ := ksz_x hF K1 e8
    have m5 := K1.1
    have n8 : o8.1.toNatClampNeg = nk i := by have := nc_i (x := o8.1) (by omega); omega
    replace e := gg_e e
    replace e := gg_e e
    obtain ⟨h11, u11, e⟩ := nm_s e
    replace e := nx_e e
    rw [p8, n1, n2, n8] at u11
    have pw : (hI h (n + 71) (nk i)).toInt = ((q ^ nk i : Nat) : Int) := by rw [X 71 _ (by omega) (by omega)]; exact Pw _ m5
    have b1 := mo (i + 1) (by omega)
    have m2 : ((2 : Int32) * hI h (n + 71) (nk i)).toInt = 2 * ((q ^ nk i : Nat) : Int) := by rw [tm (by rw [z2, pw]; omega), z2, pw]
    have v : ((hI h (n + 70) i) + ((2 : Int32) * hI h (n + 71) (nk i))).toInt = (sb (i + 1) : Int) := by
      have si := st i (Nat.le_refl _)
      rw [ta (by rw [si, m2]; omega), si, m2, K2]
      omega
    refine ih (i := i + 1) (by rw [u11]; exact dkt_w dk) (by rw [u11]; exact fw_wI Fr rfl) (by rw [ta (by rw [z1]; omega), z1]; omega) (by omega) (fun j hj => ?_) e
    by_cases p : j = i + 1
    · rw [p, u11, rI_s]; exact v
    · rw [u11, rI_o p]; exact st j (by omega)
end
end
section
/-! ENDINGS, the class: its rooms -/
/-- outside of all pages and boards -/
def OuF (n : Nat) (h : Hp) (w : Nat) : Prop := ∀ q, q ∈ fam → ∀ i b, i < q.2.1 → hR h (n + q.1) i = some b → ¬ (b ≤ w ∧ w < b + q.2.2.1)
/-- rooms of the class' endings -/
def RmA (n wA lA qA : Nat) (h : Hp) : Prop := TRf n wA lA qA h ∧ hN h wA = 600000 ∧ OuF n h wA ∧ OuF n h lA ∧ OuF n h qA
def RmK (n : Nat) (h : Hp) : Prop := (∃ r, hR h (n + 62) 11 = some r ∧ hN h r < 600000) ∨ ∃ wA lA qA, RmA n wA lA qA h
section
variable {n wA lA qA : Nat} {g h o : Hp} {w : Nat}
theorem ouf_k (k : DyK n g h) (l : w < hS g) (O : OuF n g w) : OuF n h w := fun q hq i b hi e => by
  rcases k.2.2.1 q hq i b e with z | z
  · exact O q hq i b hi z
  · exact fun y => by omega
theorem ouf_r (r : ∀ a i, a < n + 610 → ¬ a = n + 62 → ¬ a = n + 513 → hR o a i = hR h a i) (O : OuF n h w) : OuF n o w := fun q hq i b hi e => by
  have f := fam_lt q hq
  have z : ¬ q.1 = 62 := by
    have := f.2.1 (62, 11) (by decide)
    exact fun y => this y.symm
  rw [r _ _ (by omega) (by omega) (by have := f.2.2.1; omega)] at e
  exact O q hq i b hi e
theorem ouf_n (k : DyK n g h) (l : hS h ≤ w) : OuF n h w := fun q hq i b hi e => by
  obtain ⟨own, ⟨_, S⟩⟩ := k.1.1
  have s := (S q hq i hi b e).2.1
  have s1 := s.1
  exact fun y => by omega
theorem mkr_k (k0 : DyK n h h) (Rm : RmK n h) (e : sX0_makeRoom h (n + 62) = some o) : DyK n (hp0 h) o ∧ FrW (fun _ _ => False) h o ∧ (∀ a, a < hS h → hN o a = hN h a) ∧ (∀ a i, a < hS h → ¬ (a = n + 62 ∧ 11 ≤ i ∧ i ≤ 13) → hR o a i = hR h a i) ∧ ∃ wA lA qA, RmA n wA lA qA o ∧ ((hS h ≤ wA ∧ hS h ≤ lA ∧ hS h ≤ qA) ∨ RmA n wA lA qA h) := by
  have s6 := dk_610 k0
  have z6 : (600000 : Int32).toInt = 600000 := rfl
  have zn : (600000 : Int32).toNatClampNeg = 600000 := rfl
  have kz := dk_hp0 k0
  have hz : hS (hp0 h) = 0 := rfl
  unfold sX0_makeRoom sX0_makeRoom_34 at e
  rcases Rm with ⟨r, er, hr⟩ | ⟨wA, lA, qA, T, nw, O1, O2, O3⟩
  · replace e := ce_e er e
    rcases br_s e with ⟨c, e⟩ | ⟨_, e⟩
    · have c := le_i c
      rw [z6, z_toInt (by omega)] at c
      omega
    obtain ⟨a3, w3, e⟩ := nm_s e
    obtain ⟨h4, u4, e⟩ := nm_s e
    unfold sX0_makeRoom_15 at e
    obtain ⟨h5, u5, e⟩ := nm_s e
    obtain ⟨a6, w6, e⟩ := nm_s e
    obtain ⟨h7, u7, e⟩ := nm_s e
    unfold sX0_makeRoom_23 at e
    obtain ⟨h8, u8, e⟩ := nm_s e
    obtain ⟨a9, w9, e⟩ := nm_s e
    obtain ⟨h10, u10, e⟩ := nm_s e
    unfold sX0_makeRoom_31 sX0_makeRoom_34 at e
    obtain ⟨h11, u11, e⟩ := nm_s e
    have eo := Option.some.inj e
    rw [zn] at u4 u7 u10
    have k4 : DyK n (hp0 h) h4 := by rw [u4]; exact dk_nC kz
    have k5 : DyK n (hp0 h) h5 := by rw [u5]; exact dk_wZ k4 (by decide) (Or.inr hz)
    have k7 : DyK n (hp0 h) h7 := by rw [u7]; exact dk_nC k5
    have k8 : DyK n (hp0 h) h8 := by rw [u8]; exact dk_wZ k7 (by decide) (Or.inr hz)
    have k10 : DyK n (hp0 h) h10 := by rw [u10]; exact dk_nC k8
    have k11 : DyK n (hp0 h) h11 := by rw [u11]; exact dk_wZ k10 (by decide) (Or.inr hz)
    have s4 : hS h4 = hS h + 1 := by rw [u4, nC_S]
    have s5 : hS h5 = hS h + 1 := by rw [u5]; exact s4
    have s7 : hS h7 = hS h + 2 := by rw [u7, nC_S, s5]
    have s8 : hS h8 = hS h + 2 := by rw [u8]; exact s7
    have s10 : hS h10 = hS h + 3 := by rw [u10, nC_S, s8]
    have s11 : hS h11 = hS h + 3 := by rw [u11]; exact s10
    have y6 : a6 = hS h + 1 := by rw [w6]; exact s5
    have y9 : a9 = hS h + 2 := by rw [w9]; exact s8
    have I4 : ∀ a i, a < hS h → hI h4 a i = hI h a i ∧ hJ h4 a i = hJ h a i := fun a i l => by rw [u4, nC_I, nC_J, if_neg (by omega), if_neg (by omega)]; exact ⟨rfl, rfl⟩
    have I5 : ∀ a i, a < hS h → hI h5 a i = hI h a i ∧ hJ h5 a i = hJ h a i := fun a i l => by rw [u5]; exact I4 a i l
    have I7 : ∀ a i, a < hS h → hI h7 a i = hI h a i ∧ hJ h7 a i = hJ h a i := fun a i l => by rw [u7, nC_I, nC_J, if_neg (by omega), if_neg (by omega)]; exact I5 a i l
    have I8 : ∀ a i, a < hS h → hI h8 a i = hI h a i ∧ hJ h8 a i = hJ h a i := fun a i l => by rw [u8]; exact I7 a i l
    have I10 : ∀ a i, a < hS h → hI h10 a i = hI h a i ∧ hJ h10 a i = hJ h a i := fun a i l => by rw [u10, nC_I, nC_J, if_neg (by omega), if_neg (by omega)]; exact I8 a i l
    have I11 : ∀ a i, a < hS h → hI h11 a i = hI h a i ∧ hJ h11 a i = hJ h a i := fun a i l => by rw [u11]; exact I10 a i l
    have N11 : ∀ a, hN h11 a = if a = hS h + 2 then 600000 else if a = hS h + 1 then 600000 else if a = hS h then 600000 else hN h a := fun a => by
      have n4 : hN h4 a = if a = hS h then 600000 else hN h a := by rw [u4, nC_N]
      have n5 : hN h5 a = hN h4 a := by rw [u5]; rfl
      have n7 : hN h7 a = if a = hS h + 1 then 600000 else hN h5 a := by rw [u7, nC_N, s5]
      have n8 : hN h8 a = hN h7 a := by rw [u8]; rfl
      have n10 : hN h10 a = if a = hS h + 2 then 600000 else hN h8 a := by rw [u10, nC_N, s8]
      have n11 : hN h11 a = hN h10 a := by rw [u11]; rfl
      rw [n11, n10, n8, n7, n5, n4]
    have R11 : ∀ a i, a < hS h → hR h11 a i = if a = n + 62 ∧ i = 13 then some (hS h + 2) else if a = n + 62 ∧ i = 12 then some (hS h + 1) else if a = n + 62 ∧ i = 11 then some (hS h) else hR h a i := fun a i l => by
      have r4 : hR h4 a i = hR h a i := by rw [u4, nC_R, if_neg (by omega)]
      have r5 : hR h5 a i = if a = n + 62 ∧ i = 11 then some a3 else hR h4 a i := by rw [u5, r_R]
      have r7 : hR h7 a i = hR h5 a i := by rw [u7, nC_R, if_neg (by omega)]
      have r8 : hR h8 a i = if a = n + 62 ∧ i = 12 then some a6 else hR h7 a i := by rw [u8, r_R]
      have r10 : hR h10 a i = hR h8 a i := by rw [u10, nC_R, if_neg (by omega)]
      have r11 : hR h11 a i = if a = n + 62 ∧ i = 13 then some a9 else hR h10 a i := by rw [u11, r_R]
      rw [r11, r10, r8, r7, r5, r4, w3, y6, y9]
    have RR : ∀ a i, a < hS h → ¬ (a = n + 62 ∧ 11 ≤ i ∧ i ≤ 13) → hR h11 a i = hR h a i := fun a i l p => by
      rw [R11 a i l, if_neg (fun z => p ⟨z.1, by omega, by omega⟩), if_neg (fun z => p ⟨z.1, by omega, by omega⟩), if_neg (fun z => p ⟨z.1, by omega, by omega⟩)]
    have OO : ∀ w, hS h ≤ w → OuF n h11 w := fun w l => ouf_r (fun a i l1 l2 l3 => RR a i (by omega) (fun z => l2 z.1)) (ouf_n k0 l)
    rw [← eo]
    refine ⟨k11, ⟨by omega, fun a i l _ => I11 a i l⟩, fun a l => by rw [N11, if_neg (by omega), if_neg (by omega), if_neg (by omega)], RR, hS h, hS h + 1, hS h + 2, ⟨⟨⟨?_, ?_, ?_⟩, ⟨by omega, by omega, by omega⟩, ⟨by omega, by omega⟩, ⟨by omega, by omega⟩, ⟨by omega, by omega⟩, by rw [N11, if_pos rfl]⟩, by rw [N11, if_neg (by omega), if_neg (by omega), if_pos rfl], OO _ (Nat.le_refl _), OO _ (by omega), OO _ (by omega)⟩, Or.inl ⟨Nat.le_refl _, by omega, by omega⟩⟩
    · rw [R11 _ _ (by omega), if_neg (fun z => absurd z.2 (by decide)), if_neg (fun z => absurd z.2 (by decide)), if_pos ⟨rfl, rfl⟩]
    · rw [R11 _ _ (by omega), if_neg (fun z => absurd z.2 (by decide)), if_pos ⟨rfl, rfl⟩]
    · rw [R11 _ _ (by omega), if_pos ⟨rfl, rfl⟩]
  · replace e := ce_e T.1.1 e
    rcases br_s e with ⟨_, e⟩ | ⟨c, _⟩
    · rw [← Option.some.inj e]
      exact ⟨kz, fw_0, fun _ _ => rfl, fun _ _ _ _ => rfl, wA, lA, qA, ⟨T, nw, O1, O2, O3⟩, Or.inr ⟨T, nw, O1, O2, O3⟩⟩
    · have c := nle_i c
      rw [z6, z_toInt (by omega), nw] at c
      omega
end
end
section
/-! ENDINGS: one family in two orders -/
section
variable {α : Type} {Rt Rt' : α → Prop} {v0 v0' : α → Option Int} {Ar Ar' : α → α → Prop} {T : α → Int} {f g : α → α}
/-- rules of a table go over to another order -/
theorem loc_m (fg : ∀ x, f (g x) = x) (gf : ∀ x, g (f x) = x) (r : ∀ x, Rt x → Rt' (g x)) (v : ∀ x, v0 x = v0' (g x)) (a : ∀ x y, Ar x y ↔ Ar' (g x) (g y)) (A : LocT Rt' v0' Ar' T) : LocT Rt v0 Ar (fun x => T (g x)) := by
  have ex : ∀ {x : α} {P : α → Prop}, (∃ y, Ar' (g x) y ∧ P y) → ∃ y, Ar x y ∧ P (g y) := fun {x P} ⟨y, h1, h2⟩ => ⟨f y, (a x (f y)).mpr (by rw [gf]; exact h1), by rw [gf]; exact h2⟩
  intro x hx
  rcases A (g x) (r x hx) with ⟨w, a1, a2⟩ | ⟨a1, a2⟩
  · exact Or.inl ⟨w, by rw [v]; exact a1, a2⟩
  · refine Or.inr ⟨by rw [v]; exact a1, ?_⟩
    rcases a2 with ⟨n, b1, b2, b3, b4, b5⟩ | ⟨n, b1, b2, b3, b4, b5⟩ | ⟨b1, b2, b3⟩
    · exact Or.inl ⟨n, b1, b2, b3, ex b4, fun y d hy => b5 (g y) d ((a x y).mp hy)⟩
    · exact Or.inr (Or.inl ⟨n, b1, b2, b3, ex b4, fun y hy => b5 (g y) ((a x y).mp hy)⟩)
    · exact Or.inr (Or.inr ⟨b1, fun y d hy => b2 (g y) d ((a x y).mp hy), ex b3⟩)
end
/-- p and r undo each other, and keep what is less than N -/
def PmN (N : Nat) (p r : Nat → Nat) : Prop := (∀ k, p (r k) = k) ∧ (∀ k, r (p k) = k) ∧ (∀ k, k < N → r k < N) ∧ ∀ k, k < N → p k < N
section
variable {N q : Nat} {p r : Nat → Nat} {L : Nat → Nat → Int} {nk : Nat → Nat} {rk : Nat → Nat → Int} {M : Nat → Int} {k num : Nat}
theorem pm_l (P : PmN N p r) : r k < N ↔ k < N := ⟨fun h => by have := P.2.2.2 _ h; rw [P.1] at this; exact this, P.2.2.1 k⟩
theorem pm_fam (P : PmN N p r) (Fm : Fam L N nk rk) : Fam L N (fun k => nk (r k)) (fun k => rk (r k)) := by
  obtain ⟨a, b, c⟩ := Fm
  have inj : ∀ j k, r j = r k → j = k := fun j k e => by rw [← P.1 j, ← P.1 k, e]
  refine ⟨fun k hk => a (r k) (P.2.2.1 k hk), fun j k hj hk e1 e2 => inj _ _ (b _ _ (P.2.2.1 j hj) (P.2.2.1 k hk) e1 e2), fun k i hk hi => ?_⟩
  obtain ⟨c1, c2⟩ := c (r k) i (P.2.2.1 k hk) hi
  refine ⟨fun z => ?_, fun u hu => ?_⟩
  · obtain ⟨k', l', h'⟩ := c1 z
    refine ⟨p k', P.2.2.2 _ l', ?_⟩
    show ∀ v, ctR (rk (r (p k'))) v (nk (r (p k'))) + _ = _
    rw [P.2.1]
    exact h'
  · obtain ⟨k', l', h'⟩ := c2 u hu
    refine ⟨p k', P.2.2.2 _ l', ?_⟩
    show ∀ v, ctR (rk (r (p k'))) v (nk (r (p k'))) + _ = _
    rw [P.2.1]
    exact h'
theorem pm_lwe (P : PmN N p r) (E : LwE L N nk rk q) : LwE L N (fun k => nk (r k)) (fun k => rk (r k)) q := ⟨E.1, pm_fam P E.2.1, E.2.2⟩
theorem pm_ndo (P : PmN N p r) : NdO N (fun k => nk (r k)) (fun k => rk (r k)) q M k num ↔ NdO N nk rk q M (r k) num := by
  unfold NdO
  rw [pm_l P]
theorem pm_nda (P : PmN N p r) {ν : Nod} : NdA N (fun k => nk (r k)) q ν ↔ NdA N nk q (r ν.1, ν.2) := by
  unfold NdA
  show _ ↔ r ν.1 < N ∧ _
  rw [pm_l P]
theorem pm_rta (P : PmN N p r) {ν : Nod} : RtA L N (fun k => nk (r k)) (fun k => rk (r k)) q ν ↔ RtA L N nk rk q (r ν.1, ν.2) := by
  unfold RtA
  rw [pm_nda P]
theorem pm_loc (P : PmN N p r) {T : Nod → Int} (A : LocT (RtA L N (fun k => nk (r k)) (fun k => rk (r k)) q) (v0A L (fun k => nk (r k)) (fun k => rk (r k)) q) (ArA L N (fun k => nk (r k)) (fun k => rk (r k)) q) T) : LocT (RtA L N nk rk q) (v0A L nk rk q) (ArA L N nk rk q) (fun ν => T (p ν.1, ν.2)) := by
  have e : ∀ ν : Nod, ((r (p ν.1), ν.2) : Nod) = ν := fun ν => by rw [P.2.1]
  have q0 : ∀ ν : Nod, ndQ (fun k => nk (r k)) (fun k => rk (r k)) q (p ν.1, ν.2) = ndQ nk rk q ν := fun ν => by
    show ndQ nk rk q (r (p ν.1), ν.2) = ndQ nk rk q ν
    rw [e]
  refine loc_m (f := fun ν : Nod => (r ν.1, ν.2)) (g := fun ν : Nod => (p ν.1, ν.2)) e (fun ν => by show ((p (r ν.1), ν.2) : Nod) = ν; rw [P.1]) (fun ν h => (pm_rta P).mpr (by show RtA L N nk rk q (r (p ν.1), ν.2); rw [e]; exact h)) (fun ν => ?_) (fun ν ν' => ?_) A
  · show v0N L (ndQ nk rk q ν) = v0N L (ndQ (fun k => nk (r k)) (fun k => rk (r k)) q (p ν.1, ν.2))
    rw [q0]
  · unfold ArA
    rw [q0]
    have e2 : ∀ M, NdO N (fun k => nk (r k)) (fun k => rk (r k)) q M (p ν'.1) ν'.2.1 ↔ NdO N nk rk q M ν'.1 ν'.2.1 := fun M => by rw [pm_ndo P, P.2.1]
    constructor
    · intro ⟨h1, v, h2, h3⟩
      exact ⟨h1, v, h2, (e2 _).mpr h3⟩
    · intro ⟨h1, v, h2, h3⟩
      exact ⟨h1, v, h2, (e2 _).mp h3⟩
end
end
section
/-! ENDINGS, the class: what holds of each SET that is gathered -/
/-- men of the law, and no two like ROYAL ones -/
def GdR (L : Nat → Nat → Int) (m : Nat) (row : Nat → Int32) : Prop := (∀ i, i < m → (row i).toInt ≤ 2 * L 2 0) ∧ ∀ i j, i < j → j < m → row i = row j → ¬ ((row i).toInt - 1) / 2 = L 10 0
def GdK (L : Nat → Nat → Int) (nT : Nat) (x : Int32) : Prop := ∃ m row, Kq x m row ∧ m ≤ nT ∧ GdR L m row
def WGa (n a i : Nat) : Prop := a = n + 69 ∨ (a = n + 62 ∧ (i = 9 ∨ i = 18))
def IvG (n : Nat) (P : Int32 → Prop) (h0 h : Hp) : Prop := (DkT n h0 h ∧ FrW (WGa n) h0 h) ∧ (0 ≤ (hI h (n + 62) 9).toInt ∧ (hI h (n + 62) 9).toInt ≤ 1024) ∧ ∀ k : Nat, (k : Int) < (hI h (n + 62) 9).toInt → P (hI h (n + 69) k)
section
variable {n F nT m p : Nat} {h h0 o : Hp} {u : Int32 × Hp} {L : Nat → Nat → Int} {P : Int32 → Prop} {x1 x2 key rest w : Int32} {row f0 : Nat → Int32}
theorem dkt_j {a i : Nat} {v : Int64} (d : DkT n h0 h) : DkT n h0 (wJ h a i v) := ⟨fun g k => dk_wJ (d.1 g k), fun x => d.2.1 x, fun x j => d.2.2 x j⟩
theorem gdr_sk {k : Nat} (hk : k ≤ m) (G : GdR L (m + 1) row) : GdR L m (sk row k) := by
  have e : ∀ i, i < m → ∃ i', i' < m + 1 ∧ sk row k i = row i' ∧ (i' = i ∧ i < k ∨ i' = i + 1 ∧ k ≤ i) := fun i hi => by
    unfold sk
    by_cases c : i < k
    · exact ⟨i, by omega, if_pos c, Or.inl ⟨rfl, c⟩⟩
    · exact ⟨i + 1, by omega, if_neg c, Or.inr ⟨rfl, by omega⟩⟩
  refine ⟨fun i hi => ?_, fun i j ij jm z => ?_⟩
  · obtain ⟨i', l, e1, _⟩ := e i hi
    rw [e1]; exact G.1 i' l
  · obtain ⟨i', l, e1, c1⟩ := e i (by omega)
    obtain ⟨j', l', e2, c2⟩ := e j jm
    rw [e1, e2] at z
    rw [e1]
    exact G.2 i' j' (by omega) l' z
theorem gdr_ins (pm : p ≤ m) (w2 : w.toInt ≤ 2 * L 2 0) (wr : ¬ (w.toInt - 1) / 2 = L 10 0 ∨ ∀ a, a < m → ¬ f0 a = w) (G : GdR L m f0) : GdR L (m + 1) (ins f0 p w) := by
  have e : ∀ i, i < m + 1 → (ins f0 p w i = w ∧ i = p) ∨ ∃ i', i' < m ∧ ins f0 p w i = f0 i' ∧ (i' = i ∧ i < p ∨ i' + 1 = i ∧ p < i) := fun i hi => by
    unfold ins
    by_cases c : i < p
    · exact Or.inr ⟨i, by omega, if_pos c, Or.inl ⟨rfl, c⟩⟩
    · by_cases c2 : i = p
      · exact Or.inl ⟨by rw [if_neg c, if_pos c2], c2⟩
      · exact Or.inr ⟨i - 1, by omega, by rw [if_neg c, if_neg c2], Or.inr ⟨by omega, by omega⟩⟩
  refine ⟨fun i hi => ?_, fun i j ij jm z => ?_⟩
  · rcases e i hi with ⟨e1, _⟩ | ⟨i', l, e1, _⟩
    · rw [e1]; exact w2
    · rw [e1]; exact G.1 i' l
  · rcases e i (by omega) with ⟨e1, q1⟩ | ⟨i', l, e1, c1⟩
    · rcases e j jm with ⟨_, q2⟩ | ⟨j', l', e2, c2⟩
      · omega
      · rw [e1] at z ⊢
        rw [e2] at z
        exact wr.elim id (fun y => absurd z.symm (y j' l'))
    · rcases e j jm with ⟨e2, _⟩ | ⟨j', l', e2, c2⟩
      · rw [e1, e2] at z
        rw [e1, z]
        exact wr.elim id (fun y => absurd z (y i' l))
      · rw [e1, e2] at z
        rw [e1]
        exact G.2 i' j' (by omega) l' z
theorem gdk_0 (G : GdK L nT x1) : 0 ≤ x1.toInt := by
  obtain ⟨m, row, K, _⟩ := G
  exact (kq_sz K).1.1
theorem adi (hF : 700000 ≤ F) (k0 : DyK n h0 h0) (Px : P x1) (x0 : 0 ≤ x1.toInt) : ∀ (f : Nat) {h : Hp} {x2 : Int32}, IvG n P h0 h → sX0_addSet_2 F f h (n + 62) x1 x2 = some o → IvG n P h0 o := by
  have z1 : (1 : Int32).toInt = 1 := rfl
  have z10 : (1024 : Int32).toInt = 1024 := rfl
  have s0 := dk_610 k0
  intro f
  induction f with
  | zero => intro h x2 _ e; exact absurd e (by rw [sX0_addSet_2]; exact fun z => nomatch z)
  | succ f ih =>
    intro h x2 I e
    obtain ⟨⟨dk, Fr⟩, ⟨c0, c1⟩, Pk⟩ := id I
    have kh := dk.1 _ k0
    have r4 := dk_e (a := 62) (f := 4) (b := 69) kh (by decide +kernel)
    rw [sX0_addSet_2] at e
    unfold sX0_addSet_91 at e
    rcases br_s e with ⟨c, e⟩ | ⟨c, e⟩
    · replace e := ce_e (dk_e (a := 62) (f := 6) (b := 71) kh (by decide +kernel)) e
      obtain ⟨o3, e3, e⟩ := cl_s e
      obtain ⟨p3, _⟩ := sat_e (size_q hF x0) e3
      rw [p3] at e
      replace e := gg_e e
      obtain ⟨h5, u5, e⟩ := nm_s e
      have I5 : ∀ a i, hI h5 a i = hI h a i := fun a i => by rw [u5]; rfl
      have d5 : DkT n h0 h5 := by rw [u5]; exact dkt_j dk
      have F5 : FrW (WGa n) h0 h5 := by rw [u5]; exact fw_wJ Fr (Or.inr ⟨rfl, Or.inr rfl⟩)
      have V5 : IvG n P h0 h5 := ⟨⟨d5, F5⟩, by rw [I5]; exact ⟨c0, c1⟩, fun k hk => by rw [I5] at hk ⊢; exact Pk k hk⟩
      rcases br_s e with ⟨_, e⟩ | ⟨_, e⟩
      · rw [so_e e]; exact V5
      rcases br_s e with ⟨_, e⟩ | ⟨c2, e⟩
      · rw [so_e e]; exact V5
      have c2 := nle_i c2
      rw [I5, z10] at c2
      replace e := ce_e (dk_e (a := 62) (f := 4) (b := 69) (d5.1 _ k0) (by decide +kernel)) e
      replace e := gg_e e
      obtain ⟨h10, u10, e⟩ := nm_s e
      obtain ⟨h11, u11, e⟩ := nm_s e
      rw [so_e e]
      have nc := nc_i (x := hI h (n + 62) 9) c0
      have b9 : hI h10 (n + 62) 9 = hI h (n + 62) 9 := by rw [u10, rI_a (by omega), I5]
      have a9 : (hI h11 (n + 62) 9).toInt = (hI h (n + 62) 9).toInt + 1 := by rw [u11, rI_s, b9, ta (by rw [z1]; omega), z1]
      have ak : ∀ k, hI h11 (n + 69) k = if k = (hI h (n + 62) 9).toNatClampNeg then x1 else hI h (n + 69) k := fun k => by
        rw [u11, rI_a (by omega), u10, I5]
        by_cases c : k = (hI h (n + 62) 9).toNatClampNeg
        · rw [if_pos c, c, rI_s]
        · rw [if_neg c, rI_o c, I5]
      refine ⟨⟨by rw [u11, u10]; exact dkt_w (dkt_w d5), by rw [u11, u10]; exact fw_wI (fw_wI F5 (Or.inl rfl)) (Or.inr ⟨rfl, Or.inl rfl⟩)⟩, by rw [a9]; omega, fun k hk => ?_⟩
      rw [a9] at hk
      rw [ak]
      by_cases c : k = (hI h (n + 62) 9).toNatClampNeg
      · rw [if_pos c]; exact Px
      · rw [if_neg c]; exact Pk k (by omega)
    · replace e := ce_e r4 e
      replace e := gg_e e
      rcases br_s e with ⟨_, e⟩ | ⟨_, e⟩
      · rw [so_e e]; exact I
      · replace e := nx_e e
        exact ih I e
/-- what it becomes -/
theorem bec_i {Q : Hp → Prop} {k2 : Hp → Nat → Int32 → Int32 → Option Hp} {x3 x4 : Int32} (hF : 700000 ≤ F) (Lk : LwOk L) (k0 : DyK n h0 h0) (Cl : ClL n h0 L) (Kr : Kq rest m f0) (G : GdR L m f0) (m4 : m ≤ 4) (mT : m + 1 ≤ nT) (i4 : 0 ≤ x4.toInt ∧ x4.toInt ≤ 11) (hK : ∀ {u : Hp}, IvG n (GdK L nT) h0 u → k2 u (n + 62) x1 (x2 + (1 : Int32)) = some o → Q o) : ∀ (f : Nat) {h : Hp} {x6 : Int32}, IvG n (GdK L nT) h0 h → 0 ≤ x6.toInt → x6.toInt ≤ 6 → sX0_addSetsOf_52 F k2 f h (n + 62) x1 x2 x3 x4 rest x6 = some o → Q o := by
  have z1 : (1 : Int32).toInt = 1 := rfl
  have z2 : (2 : Int32).toInt = 2 := rfl
  have z6 : (6 : Int32).toInt = 6 := rfl
  have s0 := dk_610 k0
  have l12 := Lk.1.2.2.1.2
  obtain ⟨_, ⟨_, cx, _⟩⟩ := Cl
  have n4 := nc_i (x := x4) i4.1
  obtain ⟨b1, ⟨b2, b3⟩, b4⟩ := cx.1 x4.toNatClampNeg (by omega)
  have lk := (Lk.2.1.1 x4.toNatClampNeg (by omega)).2
  have b1 : (hI h0 (n + 10) x4.toNatClampNeg).toInt = L 81 x4.toNatClampNeg := b1
  have b4 : ∀ q : Nat, (q : Int) < L 81 x4.toNatClampNeg → (hI h0 (n + 9) (6 * x4.toNatClampNeg + q)).toInt = L 80 (6 * x4.toNatClampNeg + q) := fun q hq => (b4 q hq).1
  have sd : 0 ≤ (x3 &&& (1 : Int32)).toInt ∧ (x3 &&& (1 : Int32)).toInt ≤ 1 := by
    rcases b01 x3 with z | z <;> rw [z] <;> exact ⟨by decide, by decide⟩
  intro f
  induction f with
  | zero => intro h x6 _ _ _ e; exact absurd e (by rw [sX0_addSetsOf_52]; exact fun z => nomatch z)
  | succ f ih =>
    intro h x6 I j0 j6 e
    obtain ⟨⟨dk, Fr⟩, _⟩ := id I
    have kh := dk.1 _ k0
    have X : ∀ j i, j < 610 → ¬ j = 69 → ¬ j = 62 → hI h (n + j) i = hI h0 (n + j) i := fun j i h1 h2 h3 => (Fr.2 _ _ (by omega) (fun z => by unfold WGa at z; omega)).1
    have r0 := dk_e (a := 62) (f := 0) (b := 5) kh (by decide +kernel)
    rw [sX0_addSetsOf_52] at e
    unfold sX0_addSetsOf_104 at e
    replace e := ce_e r0 e
    replace e := ce_e (dk_e (a := 5) (f := 18) (b := 10) kh (by decide +kernel)) e
    replace e := gg_e e
    rcases br_s e with ⟨c, e⟩ | ⟨c, e⟩
    · replace e := nx_e e
      exact hK I e
    have c := nle_i c
    rw [X 10 _ (by omega) (by omega) (by omega), b1] at c
    have nj := nc_i (x := x6) j0
    replace e := ce_e r0 e
    replace e := ce_e (dk_e (a := 5) (f := 17) (b := 9) kh (by decide +kernel)) e
    replace e := gg_e e
    have m6 : (x4 * (6 : Int32)).toInt = x4.toInt * 6 := by rw [tm (by rw [z6]; omega), z6]
    have ad : ((x4 * (6 : Int32)) + x6).toInt = x4.toInt * 6 + x6.toInt := by rw [ta (by rw [m6]; omega), m6]
    have ie : ((x4 * (6 : Int32)) + x6).toNatClampNeg = 6 * x4.toNatClampNeg + x6.toNatClampNeg := by
      have := nc_i (x := (x4 * (6 : Int32)) + x6) (by omega)
      omega
    rw [ie, X 9 _ (by omega) (by omega) (by omega)] at e
    have hb := b4 x6.toNatClampNeg (by omega)
    obtain ⟨⟨l0, l2⟩, lr⟩ := lk x6.toNatClampNeg (by omega)
    generalize hI h0 (n + 9) (6 * x4.toNatClampNeg + x6.toNatClampNeg) = b at e hb
    have d2 : ((2 : Int32) * b).toInt = 2 * b.toInt := by rw [tm (by rw [z2]; omega), z2]
    have d3 : (((2 : Int32) * b) + (x3 &&& (1 : Int32))).toInt = 2 * b.toInt + (x3 &&& (1 : Int32)).toInt := by rw [ta (by rw [d2]; omega), d2]
    obtain ⟨o8, e8, e⟩ := cl_s e
    obtain ⟨p8, pp, p4, hA, hB, eK⟩ := wi_k (pad_24 Kr.2.2.1) (by unfold pad; rw [if_neg (by omega)]) Kr.2.1 (x1 := ((2 : Int32) * b) + (x3 &&& (1 : Int32))) ⟨by omega, by omega⟩ e8
    have w1 : ((((2 : Int32) * b) + (x3 &&& (1 : Int32))) + (1 : Int32)).toInt = (((2 : Int32) * b) + (x3 &&& (1 : Int32))).toInt + 1 := by rw [ta (by rw [z1]; omega), z1]
    rw [← w1] at hA hB eK
    have pm : pp ≤ m := by
      by_cases c : pp ≤ m
      · exact c
      · have := (hA m (by omega)).1
        unfold pad at this
        rw [if_neg (Nat.lt_irrefl _)] at this
        exact absurd rfl this
    obtain ⟨Kn, _⟩ := kq_ins (w := (((2 : Int32) * b) + (x3 &&& (1 : Int32))) + (1 : Int32)) m4 Kr p4 hA hB (by omega) (by omega) eK
    have G8 : GdK L nT o8.1 := ⟨m + 1, _, Kn, mT, gdr_ins pm (by omega) (Or.inl (fun z => lr (by omega))) G⟩
    rw [p8] at e
    obtain ⟨o9, e9, e⟩ := cl_s e
    unfold sX0_addSet at e9
    have I9 := adi hF k0 G8 (gdk_0 G8) F I e9
    replace e := nx_e e
    have tx : (x6 + (1 : Int32)).toInt = x6.toInt + 1 := by rw [ta (by rw [z1]; omega), z1]
    exact ih I9 (by omega) (by omega) e
/-- the men of one SET -/
theorem slo_i (hF : 700000 ≤ F) (Lk : LwOk L) (k0 : DyK n h0 h0) (Cl : ClL n h0 L) (Gk : GdK L nT key) : ∀ (f : Nat) {h : Hp} {x2 : Int32}, IvG n (GdK L nT) h0 h → 0 ≤ x2.toInt → x2.toInt ≤ 5 → sX0_addSetsOf_2 F f h (n + 62) key x2 = some o → IvG n (GdK L nT) h0 o := by
  have z1 : (1 : Int32).toInt = 1 := rfl
  obtain ⟨m, row, Kk, mT, G⟩ := id Gk
  have m5 := Kk.1
  obtain ⟨k1, _, k3⟩ := kq_sz Kk
  intro f
  induction f with
  | zero => intro h x2 _ _ _ e; exact absurd e (by rw [sX0_addSetsOf_2]; exact fun z => nomatch z)
  | succ f ih =>
    intro h x2 I a2 b2 e
    obtain ⟨⟨dk, Fr⟩, _⟩ := id I
    have kh := dk.1 _ k0
    have c2 := nc_i (x := x2) a2
    rw [sX0_addSetsOf_2] at e
    unfold sX0_addSetsOf_104 at e
    obtain ⟨o1, e1, e⟩ := cl_s e
    obtain ⟨p1, v1⟩ := sat_e (size_q hF k1.1) e1
    rw [k3] at v1
    have t1 : o1.1.toInt = (m : Int) := by rw [v1, z_toInt (by omega)]
    rw [p1] at e
    rcases br_s e with ⟨c, e⟩ | ⟨c, e⟩
    · rw [so_e e]; exact I
    have c := nle_i c
    rw [t1] at c
    have tx : (x2 + (1 : Int32)).toInt = x2.toInt + 1 := by rw [ta (by rw [z1]; omega), z1]
    obtain ⟨o3, e3, e⟩ := cl_s e
    unfold sX0_codeIn at e3
    have dv : (key >>> (((5 : Int32) * x2) &&& 31)) &&& (31 : Int32) = row x2.toNatClampNeg := by
      apply Int32.toInt_inj.mp
      rw [dig_k (pad_24 Kk.2.2.1) Kk.2.1 (s := x2) ⟨a2, by omega⟩]
      unfold pad
      rw [if_pos (by omega)]
    rw [dv] at e3
    have y3 := Option.some.inj e3
    rw [← y3] at e
    dsimp only at e
    replace e := nx_e e
    replace e := ce_e (dk_e (a := 62) (f := 0) (b := 5) kh (by decide +kernel)) e
    have vr := Kk.2.2.1 x2.toNatClampNeg (by omega)
    obtain ⟨_, mr, _⟩ := man_v (v := row x2.toNatClampNeg) vr
    rcases br_s e with ⟨_, e⟩ | ⟨_, e⟩
    · replace e := nx_e e
      exact ih I (by omega) (by omega) e
    obtain ⟨o7, e7, e⟩ := cl_s e
    obtain ⟨p7, w7⟩ := wo_k (pad_24 Kk.2.2.1) Kk.2.1 (x1 := x2) ⟨a2, by omega⟩ e7
    rw [p7] at e
    obtain ⟨m', hm⟩ : ∃ m', m = m' + 1 := ⟨m - 1, by omega⟩
    rw [hm] at Kk w7 G
    have Kr := kq_sk (by omega) Kk w7
    have Gr := gdr_sk (k := x2.toNatClampNeg) (by omega) G
    obtain ⟨o8, e8, e⟩ := cl_s e
    unfold sX0_addSet at e8
    have G7 : GdK L nT o7.1 := ⟨m', _, Kr, by omega, Gr⟩
    have I8 := adi hF k0 G7 (gdk_0 G7) F I e8
    exact bec_i (Q := fun o => IvG n (GdK L nT) h0 o) hF Lk k0 Cl Kr Gr (by omega) (by omega) ⟨mr.1, mr.2⟩ (fun {u} Iu e => ih Iu (by omega) (by omega) e) F I8 (by decide) (by decide) e
/-- all SETS -/
theorem gat_i (hF : 700000 ≤ F) (Lk : LwOk L) (k0 : DyK n h0 h0) (Cl : ClL n h0 L) : ∀ (f : Nat) {h : Hp} {x1 : Int32}, IvG n (GdK L nT) h0 h → 0 ≤ x1.toInt → sX0_gatherSets_62 F f h (n + 62) x1 = some u → ∃ h2, IvG n (GdK L nT) h0 h2 ∧ sX0_gatherSets_104 F h2 (n + 62) = some u := by
  have z1 : (1 : Int32).toInt = 1 := rfl
  have z10 : (1024 : Int32).toInt = 1024 := rfl
  intro f
  induction f with
  | zero => intro h x1 _ _ e; exact absurd e (by rw [sX0_gatherSets_62]; exact fun z => nomatch z)
  | succ f ih =>
    intro h x1 I a1 e
    obtain ⟨⟨dk, Fr⟩, _, Pk⟩ := id I
    have kh := dk.1 _ k0
    have c1 := nc_i (x := x1) a1
    rw [sX0_gatherSets_62] at e
    rcases br_s e with ⟨_, e⟩ | ⟨c, e⟩
    · exact ⟨h, I, e⟩
    have c := nle_i c
    rcases br_s e with ⟨_, e⟩ | ⟨c2, e⟩
    · exact ⟨h, I, e⟩
    have c2 := nle_i c2
    rw [z10] at c2
    rcases br_s e with ⟨_, e⟩ | ⟨_, e⟩
    · exact ⟨h, I, e⟩
    replace e := ce_e (dk_e (a := 62) (f := 4) (b := 69) kh (by decide +kernel)) e
    replace e := gg_e e
    obtain ⟨o6, e6, e⟩ := cl_s e
    unfold sX0_addSetsOf at e6
    have I6 := slo_i hF Lk k0 Cl (Pk x1.toNatClampNeg (by omega)) F I (by decide) (by decide) e6
    replace e := nx_e e
    exact ih I6 (by rw [ta (by rw [z1]; omega), z1]; omega) e
/-- sorting keeps what holds of each -/
def WGs (n a : Nat) (_i : Nat) : Prop := a = n + 69 ∨ a = n + 70
def IvS (n N : Nat) (P : Int32 → Prop) (h0 h : Hp) : Prop := (DkT n h0 h ∧ FrW (WGs n) h0 h) ∧ ∀ k, k < N → P (hI h (n + 69) k)
theorem sri_19 {K2 : Hp → Nat → Int32 → Option Hp} {Q : Hp → Prop} {i N : Nat} (k0 : DyK n h0 h0) (iN : i < N) (N10 : N ≤ 1024) (P2 : P x2) (hK : ∀ {u : Hp}, IvS n N P h0 u → K2 u (n + 62) (x1 + (1 : Int32)) = some o → Q o) : ∀ (fu : Nat) {h : Hp} {x3 : Int32} {j : Nat}, IvS n N P h0 h → x3.toInt = (j : Int) → j ≤ i → sX0_sortSets_19 F K2 fu h (n + 62) x1 x2 x3 = some o → Q o := by
  have z1 : (1 : Int32).toInt = 1 := rfl
  have z0 : (0 : Int32).toInt = 0 := rfl
  have zm : (-1 : Int32).toInt = -1 := rfl
  intro fu
  induction fu with
  | zero => intro h x3 j _ _ _ e; exact absurd e (by rw [sX0_sortSets_19]; exact fun z => nomatch z)
  | succ fu ih =>
    intro h x3 j I e3 ji e
    obtain ⟨⟨dk, Fr⟩, Pk⟩ := id I
    have kh := dk.1 _ k0
    rw [sX0_sortSets_19] at e
    have r4 := dk_e (a := 62) (f := 4) (b := 69) kh (by decide +kernel)
    have wr : ∀ {a : Nat} {v : Int32}, P v → IvS n N P h0 (wI h (n + 69) a v) := fun {a v} Pv => ⟨⟨dkt_w dk, fw_wI Fr (Or.inl rfl)⟩, fun k hk => by
      by_cases c : k = a
      · rw [c, rI_s]; exact Pv
      · rw [rI_o c]; exact Pk k hk⟩
    have fin : sX0_sortSets_55 F K2 h (n + 62) x1 x2 x3 = some o → Q o := fun e => by
      unfold sX0_sortSets_55 at e
      replace e := ce_e r4 e
      replace e := gg_e e
      obtain ⟨h3, u3, e⟩ := nm_s e
      replace e := nx_e e
      exact hK (by rw [u3]; exact wr P2) e
    rcases br_s e with ⟨c, e⟩ | ⟨c, e⟩
    · exact fin e
    have c := nle_i c
    rw [z0] at c
    have nj : (x3 - (1 : Int32)).toNatClampNeg = j - 1 := by
      have a : (x3 - (1 : Int32)).toInt = (j : Int) - 1 := by rw [ts (by rw [z1]; omega), z1, e3]
      have := nc_i (x := x3 - (1 : Int32)) (by omega); omega
    replace e := ce_e r4 e
    replace e := gg_e e
    rcases br_s e with ⟨c2, e⟩ | ⟨c2, e⟩
    · exact fin e
    replace e := ce_e r4 e
    replace e := ce_e r4 e
    replace e := gg_e e
    replace e := gg_e e
    obtain ⟨h9, u9, e⟩ := nm_s e
    obtain ⟨v10, w10, e⟩ := nm_s e
    rw [nj] at u9
    have y10 : v10.toInt = ((j - 1 : Nat) : Int) := by rw [w10, ta (by rw [zm]; omega), zm]; omega
    exact ih (j := j - 1) (by rw [u9]; exact wr (Pk _ (by omega))) y10 (by omega) e
theorem szo_2 {x0 : Int32} {v : Int32 × Hp} : ∀ (fu : Nat) {x1 : Int32}, sX0_sizeOf_2 F fu h x0 x1 = some v → v.2 = h := by
  intro fu
  induction fu with
  | zero => intro x1 e; exact absurd e (by rw [sX0_sizeOf_2]; exact fun z => nomatch z)
  | succ fu ih =>
    intro x1 e
    rw [sX0_sizeOf_2] at e
    unfold sX0_sizeOf_22 sX0_codeIn at e
    rcases br_s e with ⟨_, e⟩ | ⟨_, e⟩
    · rw [so_e e]
    replace e := ce_e rfl e
    rcases br_s e with ⟨_, e⟩ | ⟨_, e⟩
    · rw [so_e e]
    · replace e := nx_e e
      exact ih e
theorem sri_77 {N : Nat} (k0 : DyK n h0 h0) : ∀ (fu : Nat) {h : Hp} {x1 : Int32}, IvS n N P h0 h → sX0_sortSets_77 F fu h (n + 62) x1 = some o → IvS n N P h0 o := by
  intro fu
  induction fu with
  | zero => intro h x1 _ e; exact absurd e (by rw [sX0_sortSets_77]; exact fun z => nomatch z)
  | succ fu ih =>
    intro h x1 I e
    obtain ⟨⟨dk, Fr⟩, Pk⟩ := id I
    have kh := dk.1 _ k0
    have r5 := dk_e (a := 62) (f := 5) (b := 70) kh (by decide +kernel)
    rw [sX0_sortSets_77] at e
    rcases br_s e with ⟨_, e⟩ | ⟨_, e⟩
    · rw [so_e e]; exact I
    replace e := ce_e r5 e
    replace e := ce_e r5 e
    replace e := gg_e e
    replace e := ce_e (dk_e (a := 62) (f := 6) (b := 71) kh (by decide +kernel)) e
    replace e := ce_e (dk_e (a := 62) (f := 4) (b := 69) kh (by decide +kernel)) e
    replace e := gg_e e
    obtain ⟨o8, e8, e⟩ := cl_s e
    replace e := gg_e e
    replace e := gg_e e
    obtain ⟨h11, u11, e⟩ := nm_s e
    replace e := nx_e e
    unfold sX0_sizeOf at e8
    rw [szo_2 F e8] at u11
    exact ih ⟨⟨by rw [u11]; exact dkt_w dk, by rw [u11]; exact fw_wI Fr (Or.inr rfl)⟩, fun k hk => by rw [u11, rI_a (by omega)]; exact Pk k hk⟩ e
theorem sri_2 {N : Nat} (k0 : DyK n h0 h0) (N10 : N ≤ 1024) (e9 : (hI h0 (n + 62) 9).toInt = (N : Int)) : ∀ (fu : Nat) {h : Hp} {x1 : Int32} {i : Nat}, IvS n N P h0 h → x1.toInt = (i : Int) → sX0_sortSets_2 F fu h (n + 62) x1 = some o → IvS n N P h0 o := by
  have z1 : (1 : Int32).toInt = 1 := rfl
  have s0 := dk_610 k0
  intro fu
  induction fu with
  | zero => intro h x1 i _ _ e; exact absurd e (by rw [sX0_sortSets_2]; exact fun z => nomatch z)
  | succ fu ih =>
    intro h x1 i I e1 e
    obtain ⟨⟨dk, Fr⟩, Pk⟩ := id I
    have kh := dk.1 _ k0
    have c9 : (hI h (n + 62) 9).toInt = (N : Int) := by rw [(Fr.2 (n + 62) 9 (by omega) (fun z => by unfold WGs at z; omega)).1]; exact e9
    rw [sX0_sortSets_2] at e
    rcases br_s e with ⟨c, e⟩ | ⟨c, e⟩
    · replace e := ce_e (dk_e (a := 62) (f := 5) (b := 70) kh (by decide +kernel)) e
      replace e := gg_e e
      replace e := nx_e e
      exact sri_77 k0 F ⟨⟨dkt_w dk, fw_wI Fr (Or.inr rfl)⟩, fun k hk => by rw [rI_a (by omega)]; exact Pk k hk⟩ e
    have c := nle_i c
    rw [c9] at c
    have n1 : x1.toNatClampNeg = i := by have := nc_i (x := x1) (by omega); omega
    replace e := ce_e (dk_e (a := 62) (f := 4) (b := 69) kh (by decide +kernel)) e
    replace e := gg_e e
    obtain ⟨v7, w7, e⟩ := nm_s e
    rw [n1] at w7
    exact sri_19 (Q := fun o => IvS n N P h0 o) (i := i) k0 (by omega) N10 (by rw [w7]; exact Pk i (by omega)) (fun {u} Iu e => ih (i := i + 1) Iu (by rw [ta (by rw [z1]; omega), z1]; omega) e) F (j := i) I e1 (Nat.le_refl _) e
/-- behind gathering all SETS keep to it -/
theorem gat_g (hF : 700000 ≤ F) (Lk : LwOk L) (k0 : DyK n h h) (Cl : ClL n h L) (c9 : 0 ≤ (hI h (n + 62) 9).toInt ∧ (hI h (n + 62) 9).toInt ≤ 1024) (Pk : ∀ k : Nat, (k : Int) < (hI h (n + 62) 9).toInt → GdK L nT (hI h (n + 69) k)) (a1 : 0 ≤ x1.toInt) (e : sX0_gatherSets_62 F F h (n + 62) x1 = some u) (nz : ¬ u.1 = 0) : ∀ k : Nat, (k : Int) < (hI u.2 (n + 62) 9).toInt → GdK L nT (hI u.2 (n + 69) k) := by
  obtain ⟨h2, I2, e⟩ := gat_i hF Lk k0 Cl F ⟨⟨dkt_0, fw_0⟩, c9, Pk⟩ a1 e
  obtain ⟨⟨dk, Fr⟩, ⟨d0, d1⟩, P2⟩ := I2
  have k2 := dk_self (dk.1 _ k0)
  have s2 := dk_610 k2
  unfold sX0_gatherSets_104 at e
  rcases br_s e with ⟨_, e⟩ | ⟨_, e⟩
  · obtain ⟨o2, e2, e⟩ := cl_s e
    have eu := so_e e
    unfold sX0_sortSets at e2
    have nn := nc_i (x := hI h2 (n + 62) 9) d0
    obtain ⟨⟨dk3, Fr3⟩, P3⟩ := sri_2 (N := (hI h2 (n + 62) 9).toNatClampNeg) (P := GdK L nT) k2 (by omega) nn.symm F (i := 1) ⟨⟨dkt_0, fw_0⟩, fun k hk => P2 k (by omega)⟩ rfl e2
    intro k hk
    rw [eu] at hk ⊢
    have hk : (k : Int) < (hI o2 (n + 62) 9).toInt := hk
    rw [(Fr3.2 (n + 62) 9 (by omega) (fun z => by unfold WGs at z; omega)).1] at hk
    exact P3 k (by omega)
  · exact absurd (by rw [so_e e]) nz
end
end
section
/-! ENDINGS, the class: the SET that is asked for -/
theorem ry_b : ∀ x2, x2 ∈ ([0, 1, 2, 3] : List Int32) → ∀ s, s ∈ ([0, 1] : List Int32) → (x2 ||| ((1 : Int32) <<< (s &&& 31))) ∈ ([0, 1, 2, 3] : List Int32) ∧ (¬ (((x2 ||| ((1 : Int32) <<< (s &&& 31))) >>> (s &&& 31)) &&& (1 : Int32)) = 0) ∧ ∀ t, t ∈ ([0, 1] : List Int32) → ¬ ((x2 >>> (t &&& 31)) &&& (1 : Int32)) = 0 → ¬ (((x2 ||| ((1 : Int32) <<< (s &&& 31))) >>> (t &&& 31)) &&& (1 : Int32)) = 0 := by decide +kernel
theorem b01m (y : Int32) : (y &&& (1 : Int32)) ∈ ([0, 1] : List Int32) := by
  rcases b01 y with z | z <;> rw [z] <;> decide
section
variable {n F m t : Nat} {h o' : Hp} {o : Int32 × Hp} {L : Nat → Nat → Int} {x1 x2 x3 x4 : Int32} {row : Nat → Int32}
theorem bya_h (e : sX9_byteAt h t x1 = some o) : o.2 = h := by
  unfold sX9_byteAt sX9_byteAt_22 sX9_byteAt_21 at e
  rcases br_s e with ⟨_, e⟩ | ⟨_, e⟩
  · rw [so_e e]
  rcases br_s e with ⟨_, e⟩ | ⟨_, e⟩
  · rw [so_e e]
  obtain ⟨r, _, e⟩ := cl_s e
  replace e := gg_e e
  rw [so_e e]
theorem mo_b {a : Nat} : ∀ (f : Nat) {x2 : Int32}, 0 ≤ x2.toInt → (hI h a 3).toInt ≤ 12 → sX1_manOf_2 F f h a x1 x2 = some o → o.2 = h ∧ (o.1 = (-1 : Int32) ∨ (0 ≤ o.1.toInt ∧ o.1.toInt < (hI h a 3).toInt)) := by
  have z1 : (1 : Int32).toInt = 1 := rfl
  intro f
  induction f with
  | zero => intro x2 _ _ e; exact absurd e (by rw [sX1_manOf_2]; exact fun z => nomatch z)
  | succ f ih =>
    intro x2 a2 l12 e
    rw [sX1_manOf_2] at e
    rcases br_s e with ⟨_, e⟩ | ⟨c, e⟩
    · rw [so_e e]; exact ⟨rfl, Or.inl rfl⟩
    have c := nle_i c
    obtain ⟨r, _, e⟩ := cl_s e
    replace e := gg_e e
    rcases br_s e with ⟨_, e⟩ | ⟨_, e⟩
    · rw [so_e e]; exact ⟨rfl, Or.inr ⟨a2, c⟩⟩
    · replace e := nx_e e
      exact ih (by rw [ta (by rw [z1]; omega), z1]; omega) l12 e
theorem cdo_b {a : Nat} (l12 : (hI h a 3).toInt ≤ 12) (e : sX1_codeOf F h a x1 = some o) : o.2 = h ∧ (o.1 = (-1 : Int32) ∨ (0 ≤ o.1.toInt ∧ o.1.toInt < 2 * (hI h a 3).toInt)) := by
  have z1 : (1 : Int32).toInt = 1 := rfl
  have z0 : (0 : Int32).toInt = 0 := rfl
  have z2 : (2 : Int32).toInt = 2 := rfl
  have A : ∀ {y2 y0 : Int32}, sX1_codeOf_31 F h y2 y0 a = some o → o.2 = h ∧ (o.1 = (-1 : Int32) ∨ (0 ≤ o.1.toInt ∧ o.1.toInt < 2 * (hI h a 3).toInt)) := fun {y2 y0} e => by
    unfold sX1_codeOf_31 sX1_codeOf_56 sX1_codeOf_57 at e
    obtain ⟨o1, e1, e⟩ := cl_s e
    unfold sX1_manOf at e1
    obtain ⟨p1, v1⟩ := mo_b F (by decide) l12 e1
    rw [p1] at e
    rcases br_s e with ⟨_, e⟩ | ⟨c, e⟩
    · rw [so_e e]; exact ⟨rfl, Or.inl rfl⟩
    rcases v1 with z | ⟨v0, v1⟩
    · exact absurd z c
    have d : ((2 : Int32) * o1.1).toInt = 2 * o1.1.toInt := by rw [tm (by rw [z2]; omega), z2]
    rcases br_s e with ⟨_, e⟩ | ⟨_, e⟩
    · rw [so_e e]
      have y : (((2 : Int32) * o1.1) + (1 : Int32)).toInt = 2 * o1.1.toInt + 1 := by rw [ta (by rw [d, z1]; omega), d, z1]
      refine ⟨rfl, Or.inr ?_⟩
      show 0 ≤ (((2 : Int32) * o1.1) + (1 : Int32)).toInt ∧ (((2 : Int32) * o1.1) + (1 : Int32)).toInt < _
      rw [y]; omega
    · rw [so_e e]
      have y : (((2 : Int32) * o1.1) + (0 : Int32)).toInt = 2 * o1.1.toInt := by rw [ta (by rw [d, z0]; omega), d, z0]; omega
      refine ⟨rfl, Or.inr ?_⟩
      show 0 ≤ (((2 : Int32) * o1.1) + (0 : Int32)).toInt ∧ (((2 : Int32) * o1.1) + (0 : Int32)).toInt < _
      rw [y]; omega
  unfold sX1_codeOf sX1_codeOf_16 sX1_codeOf_17 at e
  rcases br_s e with ⟨_, e⟩ | ⟨_, e⟩
  · rcases br_s e with ⟨_, e⟩ | ⟨_, e⟩ <;> exact A e
  rcases br_s e with ⟨_, e⟩ | ⟨_, e⟩
  · rcases br_s e with ⟨_, e⟩ | ⟨_, e⟩ <;> exact A e
  · rcases br_s e with ⟨_, e⟩ | ⟨_, e⟩ <;> exact A e
/-- the class reads the SET that is asked for -/
theorem rdc_i {g : Hp} (Lk : LwOk L) (k0 : DyK n g h) (Cl : ClL n h L) (nt : ¬ t = n + 62) : ∀ (f : Nat) {x2 x3 x4 : Int32} {m : Nat} {row : Nat → Int32}, x4.toInt = (m : Int) → m ≤ 5 → Kq x3 m row → GdR L m row → x2 ∈ ([0, 1, 2, 3] : List Int32) → (∀ a, a < m → ((row a).toInt - 1) / 2 = L 10 0 → ¬ ((x2 >>> (((row a - (1 : Int32)) &&& (1 : Int32)) &&& 31)) &&& (1 : Int32)) = 0) → sX0_read_7 F f h (n + 62) t x2 x3 x4 = some o → (¬ o.1 = (-1 : Int32) ∧ (o.2 = h ∨ ∃ key, o.2 = wI h (n + 62) 14 key)) ∨ (o.1 = (-1 : Int32) ∧ ∃ key m row, o.2 = wI h (n + 62) 14 key ∧ Kq key m row ∧ GdR L m row) := by
  have z1 : (1 : Int32).toInt = 1 := rfl
  have z5 : (5 : Int32).toInt = 5 := rfl
  have zm : (-1 : Int32).toInt = -1 := rfl
  have s0 := dk_610 k0
  have l12 := Lk.1.2.2.1.2
  obtain ⟨_, ⟨q1, _, ⟨e4, _⟩, _⟩⟩ := Cl
  have e3 : (hI h (n + 5) 3).toInt = L 2 0 := q1.2.2.2.1
  have e4 : (hI h (n + 5) 4).toInt = L 10 0 := e4
  have r0 := dk_e (a := 62) (f := 0) (b := 5) k0 (by decide +kernel)
  intro f
  induction f with
  | zero => intro x2 x3 x4 m row _ _ _ _ _ _ e; exact absurd e (by rw [sX0_read_7]; exact fun z => nomatch z)
  | succ f ih =>
    intro x2 x3 x4 m row em m5 K G X2 B e
    have nm1 : ¬ x4 = (-1 : Int32) := fun z => by rw [z, zm] at em; omega
    rw [sX0_read_7] at e
    unfold sX0_read_117 sX0_read_43 at e
    rcases br_s e with ⟨c, e⟩ | ⟨c, e⟩
    · have c := le_i c
      obtain ⟨h2, u2, e⟩ := nm_s e
      rcases br_s e with ⟨c2, e⟩ | ⟨c2, e⟩
      · rw [so_e e]
        exact Or.inr ⟨rfl, x3, m, row, u2, K, G⟩
      · have l1 : hI h2 t 1 = hI h t 1 := by rw [u2, rI_a nt]
        by_cases c3 : hI h2 t 1 = (-1 : Int32)
        · rw [so_e e]
          exact Or.inr ⟨c3, x3, m, row, u2, K, G⟩
        · rw [so_e e]
          exact Or.inl ⟨c3, Or.inr ⟨x3, u2⟩⟩
    have c := nle_i c
    replace e := ce_e r0 e
    obtain ⟨o5, e5, e⟩ := cl_s e
    rw [bya_h e5] at e
    obtain ⟨o6, e6, e⟩ := cl_s e
    obtain ⟨p6, v6⟩ := cdo_b (by rw [e3]; exact l12) e6
    rw [p6] at e
    rcases br_s e with ⟨_, e⟩ | ⟨c5, e⟩
    · rw [so_e e]; exact Or.inl ⟨nm1, Or.inl rfl⟩
    have c5 := nle_i c5
    rw [z5] at c5
    rcases br_s e with ⟨_, e⟩ | ⟨c6, e⟩
    · rw [so_e e]; exact Or.inl ⟨nm1, Or.inl rfl⟩
    rcases v6 with z | ⟨v60, v61⟩
    · exact absurd z c6
    rw [e3] at v61
    replace e := ce_e r0 e
    have sh := shr_i (x := o6.1) (s := (1 : Int32)) 1 rfl
    have p2 : ((2 ^ 1 : Nat) : Int) = 2 := rfl
    rw [p2] at sh
    have w1 : (o6.1 + (1 : Int32)).toInt = o6.1.toInt + 1 := by rw [ta (by rw [z1]; omega), z1]
    have wm : ((o6.1 + (1 : Int32)) - (1 : Int32)) = o6.1 := Int32.toInt_inj.mp (by rw [ts (by rw [w1, z1]; omega), w1, z1]; omega)
    -- one man more
    have nxt : ∀ {y2 : Int32}, y2 ∈ ([0, 1, 2, 3] : List Int32) → (∀ s, s ∈ ([0, 1] : List Int32) → ¬ ((x2 >>> (s &&& 31)) &&& (1 : Int32)) = 0 → ¬ ((y2 >>> (s &&& 31)) &&& (1 : Int32)) = 0) → (o6.1.toInt / 2 = L 10 0 → (∀ a, a < m → ¬ row a = o6.1 + (1 : Int32)) ∧ ¬ ((y2 >>> ((o6.1 &&& (1 : Int32)) &&& 31)) &&& (1 : Int32)) = 0) → sX0_read_83 F (sX0_read_7 F f) h (n + 62) t y2 x3 x4 o6.1 = some o → (¬ o.1 = (-1 : Int32) ∧ (o.2 = h ∨ ∃ key, o.2 = wI h (n + 62) 14 key)) ∨ (o.1 = (-1 : Int32) ∧ ∃ key m row, o.2 = wI h (n + 62) 14 key ∧ Kq key m row ∧ GdR L m row) := fun {y2} Y2 mo ry e => by
      unfold sX0_read_83 at e
      obtain ⟨o1, e1, e⟩ := cl_s e
      replace e := nx_e e
      obtain ⟨pk, pp, p4, hA, hB, eK⟩ := wi_k (pad_24 K.2.2.1) (by unfold pad; rw [if_neg (by omega)]) K.2.1 (x1 := o6.1) ⟨v60, by omega⟩ e1
      rw [← w1] at hA hB eK
      have pm : pp ≤ m := by
        by_cases c : pp ≤ m
        · exact c
        · have := (hA m (by omega)).1
          unfold pad at this
          rw [if_neg (Nat.lt_irrefl _)] at this
          exact absurd rfl this
      obtain ⟨Kn, _⟩ := kq_ins (w := o6.1 + (1 : Int32)) (by omega) K p4 hA hB (by omega) (by omega) eK
      have man : ((o6.1 + (1 : Int32)).toInt - 1) / 2 = o6.1.toInt / 2 := by rw [w1]; congr 1; omega
      rw [pk] at e
      refine ih (m := m + 1) (row := ins row pp (o6.1 + (1 : Int32))) (by rw [ta (by rw [z1]; omega), z1]; omega) (by omega) Kn (gdr_ins pm (by omega) ?_ G) Y2 (fun a ha rr => ?_) e
      · by_cases c : o6.1.toInt / 2 = L 10 0
        · exact Or.inr (ry c).1
        · exact Or.inl (by rw [man]; exact c)
      · have e : (ins row pp (o6.1 + (1 : Int32)) a = o6.1 + (1 : Int32)) ∨ ∃ a', a' < m ∧ ins row pp (o6.1 + (1 : Int32)) a = row a' := by
          unfold ins
          by_cases c : a < pp
          · exact Or.inr ⟨a, by omega, if_pos c⟩
          · by_cases c2 : a = pp
            · exact Or.inl (by rw [if_neg c, if_pos c2])
            · exact Or.inr ⟨a - 1, by omega, by rw [if_neg c, if_neg c2]⟩
        rcases e with e | ⟨a', l, e⟩
        · rw [e] at rr ⊢
          rw [wm]
          rw [man] at rr
          exact (ry rr).2
        · rw [e] at rr ⊢
          exact mo _ (b01m _) (B a' l rr)
    rcases br_s e with ⟨c7, e⟩ | ⟨c7, e⟩
    · rcases br_s e with ⟨c8, e⟩ | ⟨_, e⟩
      · obtain ⟨v12, w12, e⟩ := nm_s e
        obtain ⟨y1, y2, y3⟩ := ry_b x2 X2 (o6.1 &&& (1 : Int32)) (b01m _)
        refine nxt (y2 := v12) (by rw [w12]; exact y1) (fun s hs z => by rw [w12]; exact y3 s hs z) (fun rr => ⟨fun a ha z => ?_, by rw [w12]; exact y2⟩) e
        have := B a ha (by rw [z, w1, show o6.1.toInt + 1 - 1 = o6.1.toInt by omega]; exact rr)
        rw [z, wm] at this
        exact this c8
      · rw [so_e e]; exact Or.inl ⟨nm1, Or.inl rfl⟩
    · refine nxt X2 (fun s hs z => z) (fun rr => absurd ?_ c7) e
      apply Int32.toInt_inj.mp
      rw [sh, e4]
      exact rr
end
end
