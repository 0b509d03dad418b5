section
/-! ENDINGS, the class: its board is a bare position -/
/-- what else the board holds: nothing -/
def EbZ (n : Nat) (h : Hp) : Prop := (∀ q, q < 64 → bitJ (hJ h (n + 63) 8) q = false) ∧ (Pw (hJ h (n + 63) 9) 0 (fun _ => 0) ∧ OvN (hJ h (n + 63) 10) 0 (fun _ => 0)) ∧ ((∀ s, s < 2 → HdB (hJ h (n + 67) s)) ∧ ∀ d, d < 24 → ((hv (hJ h (n + 67) (d % 2)) (d / 2) : Nat) : Int) = 0) ∧ (∀ d, d < 2 → (hI h (n + 68) d).toInt = 0) ∧ (hI h (n + 63) 6).toInt = 0
section
variable {n : Nat} {g h o : Hp} {L : Nat → Nat → Int} {M : Nat → Int} {sd : Nat}
theorem ebz_f {W : Nat → Nat → Prop} (k : DyK n g h) (Fr : FrW W h o) (w : ∀ a i, W a i → a < n + 610 → WEb (n + 63) a i ∨ (a = n + 63 ∧ i = 5) ∨ a < n + 63 ∨ n + 69 ≤ a) (Z : EbZ n h) : EbZ n o := by
  have s6 := dk_610 k
  have nw : ∀ j i, 63 ≤ j → j < 69 → ¬ (j = 63 ∧ (i = 5 ∨ i = 7)) → ¬ j = 64 → ¬ j = 65 → ¬ j = 66 → ¬ W (n + j) i := fun j i a b c d e f z => by
    rcases w _ _ z (by omega) with z | z | z | z
    · unfold WEb at z; omega
    · omega
    · omega
    · omega
  obtain ⟨a, b, c, d, e⟩ := Z
  have J8 : hJ o (n + 63) 8 = hJ h (n + 63) 8 := (Fr.2 _ _ (by omega) (nw 63 8 (by omega) (by omega) (by omega) (by omega) (by omega) (by omega))).2
  have J9 : hJ o (n + 63) 9 = hJ h (n + 63) 9 := (Fr.2 _ _ (by omega) (nw 63 9 (by omega) (by omega) (by omega) (by omega) (by omega) (by omega))).2
  have J10 : hJ o (n + 63) 10 = hJ h (n + 63) 10 := (Fr.2 _ _ (by omega) (nw 63 10 (by omega) (by omega) (by omega) (by omega) (by omega) (by omega))).2
  have I6 : hI o (n + 63) 6 = hI h (n + 63) 6 := (Fr.2 _ _ (by omega) (nw 63 6 (by omega) (by omega) (by omega) (by omega) (by omega) (by omega))).1
  have J67 : ∀ i, hJ o (n + 67) i = hJ h (n + 67) i := fun i => (Fr.2 _ _ (by omega) (nw 67 i (by omega) (by omega) (by omega) (by omega) (by omega) (by omega))).2
  have I68 : ∀ i, hI o (n + 68) i = hI h (n + 68) i := fun i => (Fr.2 _ _ (by omega) (nw 68 i (by omega) (by omega) (by omega) (by omega) (by omega) (by omega))).1
  refine ⟨fun q hq => by rw [J8]; exact a q hq, ⟨by rw [J9]; exact b.1, by rw [J10]; exact b.2⟩, ⟨fun s hs => by rw [J67]; exact c.1 s hs, fun d hd => by rw [J67]; exact c.2 d hd⟩, fun d' hd => by rw [I68]; exact d d' hd, by rw [I6]; exact e⟩
theorem eb_cpa (k : DyK n g h) (P : PosC h (n + 64) (n + 65) (n + 66) M (L 10 0)) (Z : EbZ n h) (es : (hI h (n + 63) 5).toInt = (sd : Int)) : CpA h (n + 63) (L 10 0) (ndZ M sd) := by
  have t := e63f k
  exact ⟨⟨t (0, 1) (by decide), t (1, 2) (by decide), t (2, 3) (by decide), t (3, 4) (by decide), t (4, 5) (by decide)⟩, P, es, Z.1, Z.2.1, Z.2.2.1, Z.2.2.2.1, Z.2.2.2.2⟩
theorem nd_pz (HM : MOk L M) (U : UnM M (L 10 0)) (s2 : sd < 2) : PzOk L (ndZ M sd) := ⟨HM, U, s2, (fun q _ c => nomatch c), Or.inl rfl, ⟨fun d _ => (show (0 : Int) ≤ 0 ∧ (0 : Int) ≤ 16 by decide), fun d _ _ => rfl, fun _ d _ => rfl⟩, fun d _ => (show (0 : Int) ≤ 0 ∧ (0 : Int) ≤ 9 by decide), (show (0 : Int) ≤ 0 ∧ (0 : Int) ≤ 200 by decide)⟩
end
end
section
/-! ENDINGS, the class: how a position stands at first -/
section
variable {n F q num m sd : Nat} {g h : Hp} {o : Int32 × Hp} {x1 : Int32} {L : Nat → Nat → Int} {P : Pz} {M : Nat → Int}
theorem er1_0 {Z : Pz} : 0 ≤ (er1 L Z).1 := by
  unfold er1
  split
  · exact (show (0 : Int) ≤ 1 by decide)
  · split
    · exact (show (0 : Int) ≤ 1 by decide)
    · unfold er2
      split
      · exact (show (0 : Int) ≤ 2 by decide)
      · split
        · exact (show (0 : Int) ≤ 2 by decide)
        · unfold er3
          split
          · exact (show (0 : Int) ≤ 3 by decide)
          · split
            · exact (show (0 : Int) ≤ 3 by decide)
            · unfold er4
              split
              · exact (show (0 : Int) ≤ 4 by decide)
              · split
                · exact (show (0 : Int) ≤ 4 by decide)
                · exact (show (0 : Int) ≤ 0 by decide)
theorem ee_k {p : Nat} (K : LawK L) (O : PzOk L P) (_k : DyK n g h) (C : ClL n h L) (A : CpA h p (L 10 0) P) (e : sX5_earlyEnd h (n + 30) p = some o) : o.2 = h ∧ o.1.toInt = (er1 L P).1 := by
  have M : MkC (vK n 0 p 0 0 0 0) h L := cll_k.mpr C
  exact ee_c (V := vK n 0 p 0 0 0 0) K O M.1.1.1 M.2 (cpa_k.mpr A) e
/-- the worth of an end -/
theorem ew_k (k : DyK n g h) (z22 : 0 ≤ L 22 0 ∧ L 22 0 ≤ 2) (Oz : PzOk L P) (C : ClL n h L) (A : CpA h (n + 63) (L 10 0) P) (e1 : x1.toInt = (enE L P).1) (pe : 0 < (enE L P).1) (e : sX0_endWorth h (n + 62) x1 = some o) : o.2 = h ∧ v0N L P = some o.1.toInt := by
  have z2 : (2 : Int32).toInt = 2 := rfl
  unfold sX0_endWorth sX0_endWorth_40 at e
  replace e := ce_e (dk_e (a := 62) (f := 2) (b := 30) k (by decide +kernel)) e
  replace e := ce_e (dk_e (a := 62) (f := 3) (b := 63) k (by decide +kernel)) e
  obtain ⟨o3, e3, e⟩ := cl_s e
  obtain ⟨p3, v3⟩ := win_k k z22 Oz C A e1 e3
  rw [if_pos pe] at v3
  rw [p3] at e
  have nn : ¬ (enE L P).1 ≤ 0 := by omega
  have vs : ∀ x, (if (enE L P).2 = 2 then 0 else if (enE L P).2 = (pzS P : Int) then (1000000 : Int) else -1000000) = x → v0N L P = some x := fun x hx => by
    unfold v0N
    rw [if_neg nn, hx]
  rcases br_s e with ⟨c, e⟩ | ⟨c, e⟩
  · have : (enE L P).2 = 2 := by rw [← v3, c]; rfl
    rw [so_e e]
    exact ⟨rfl, vs _ (by rw [if_pos this]; rfl)⟩
  have n2 : ¬ (enE L P).2 = 2 := fun z => c (Int32.toInt_inj.mp (by rw [v3, z, z2]))
  replace e := ce_e (dk_e (a := 62) (f := 3) (b := 63) k (by decide +kernel)) e
  have sv : (hI h (n + 63) 5).toInt = (pzS P : Int) := A.2.2.1
  rcases br_s e with ⟨c2, e⟩ | ⟨c2, e⟩
  · have : (enE L P).2 = (pzS P : Int) := by rw [← v3, c2]; exact sv
    rw [so_e e]
    exact ⟨rfl, vs _ (by rw [if_neg n2, if_pos this]; rfl)⟩
  · have : ¬ (enE L P).2 = (pzS P : Int) := fun z => c2 (Int32.toInt_inj.mp (by rw [v3, z]; exact sv.symm))
    rw [so_e e]
    exact ⟨rfl, vs _ (by rw [if_neg n2, if_neg this]; rfl)⟩
/-- what earlyWorth tells: not RIGHT, an early end, or open -/
def EyV (L : Nat → Nat → Int) (M : Nat → Int) (sd : Nat) (x : Int) : Prop := (RyH L M (1 - sd) ∧ x = 4000000) ∨ (¬ RyH L M (1 - sd) ∧ ((0 < (er1 L (ndZ M sd)).1 ∧ v0N L (ndZ M sd) = some x) ∨ (¬ 0 < (er1 L (ndZ M sd)).1 ∧ x = 3000000)))
theorem ey_k (OK : LwOk L) (k : DyK n h h) (C : ClL n h L) (HM : MOk L M) (U : UnM M (L 10 0)) (s2 : sd < 2) (P : PosC h (n + 64) (n + 65) (n + 66) M (L 10 0)) (Z : EbZ n h) (e1 : x1.toInt = (sd : Int)) (e : sX0_earlyWorth F h (n + 62) x1 = some o) : o.2 = wI h (n + 63) 5 x1 ∧ EyV L M sd o.1.toInt := by
  have z1 : (1 : Int32).toInt = 1 := rfl
  have s6 := dk_610 k
  have Oz := nd_pz (sd := sd) HM U s2
  unfold sX0_earlyWorth sX0_earlyWorth_54 at e
  replace e := ce_e (dk_e (a := 62) (f := 3) (b := 63) k (by decide +kernel)) e
  obtain ⟨h2, w2, e⟩ := nm_s e
  have k2 : DyK n h h2 := by rw [w2]; exact dk_wI k
  have F2 : FrW (fun a i => a = n + 63 ∧ i = 5) h h2 := by rw [w2]; exact fw_wI fw_0 ⟨rfl, rfl⟩
  have C2 := cll_f k k2 (fun j i hj => F2.2 _ _ (by omega) (fun c => by omega)) C
  have Z2 := ebz_f k F2 (fun a i c _ => Or.inr (Or.inl c)) Z
  have P2 : PosC h2 (n + 64) (n + 65) (n + 66) M (L 10 0) := by
    rw [w2]
    exact ⟨fun s hs => by rw [rI_a (by omega)]; exact P.1 s hs, P.2.1, fun d hd => by rw [rI_a (by omega)]; exact P.2.2.1 d hd, P.2.2.2⟩
  have A2 : CpA h2 (n + 63) (L 10 0) (ndZ M sd) := eb_cpa k2 P2 Z2 (by rw [w2, rI_s]; exact e1)
  have r30 := dk_e (a := 62) (f := 2) (b := 30) k2 (by decide +kernel)
  have r63 := dk_e (a := 62) (f := 3) (b := 63) k2 (by decide +kernel)
  replace e := ce_e r30 e
  replace e := ce_e r63 e
  obtain ⟨o5, e5, e⟩ := cl_s e
  obtain ⟨p5, q5⟩ := ryh_k OK.1 Oz C2 A2 (d := 1 - sd) (by rw [ts (by rw [z1]; omega), z1]; omega) (by omega) e5
  rw [p5] at e
  rw [← w2]
  rcases br_s e with ⟨c, e⟩ | ⟨c, e⟩
  rotate_left
  · rw [so_e e]
    refine ⟨rfl, Or.inl ⟨?_, rfl⟩⟩
    rcases q5 with ⟨z, _⟩ | ⟨_, z⟩
    · exact absurd z c
    · exact z
  have nr : ¬ RyH L M (1 - sd) := by
    rcases q5 with ⟨_, z⟩ | ⟨z, _⟩
    · exact z
    · rw [c] at z; exact absurd z (by decide)
  replace e := ce_e r30 e
  replace e := ce_e r63 e
  obtain ⟨o9, e9, e⟩ := cl_s e
  obtain ⟨p9, v9⟩ := ee_k OK.2.1 Oz k2 C2 A2 e9
  rw [p9] at e
  have b1 : (enE L (ndZ M sd)).1 = (er1 L (ndZ M sd)).1 ∨ ¬ 0 < (er1 L (ndZ M sd)).1 := by
    by_cases z : 0 < (er1 L (ndZ M sd)).1
    · exact Or.inl (by unfold enE; rw [if_pos z])
    · exact Or.inr z
  have er0 : 0 ≤ (er1 L (ndZ M sd)).1 := er1_0
  rcases br_s e with ⟨c2, e⟩ | ⟨c2, e⟩
  · have z : (er1 L (ndZ M sd)).1 = 0 := by rw [← v9, c2]; rfl
    rw [so_e e]
    exact ⟨rfl, Or.inr ⟨nr, Or.inr ⟨by omega, rfl⟩⟩⟩
  · have z : 0 < (er1 L (ndZ M sd)).1 := by
      have : ¬ (er1 L (ndZ M sd)).1 = 0 := fun y => c2 (Int32.toInt_inj.mp (by rw [v9, y]; rfl))
      omega
    have en : (enE L (ndZ M sd)).1 = (er1 L (ndZ M sd)).1 := b1.resolve_right (fun y => y z)
    obtain ⟨o11, e11, e⟩ := cl_s e
    obtain ⟨p11, v11⟩ := ew_k k2 OK.2.2.2.1 Oz C2 A2 (by rw [v9, en]) (by omega) e11
    rw [p11] at e
    rw [so_e e]
    exact ⟨rfl, Or.inr ⟨nr, Or.inl ⟨z, v11⟩⟩⟩
end
end
section
/-! ENDINGS, the class: all positions are marked -/
section
variable {n F N q wA lA : Nat} {g h h0 o : Hp} {nk : Nat → Nat} {rk : Nat → Nat → Int} {sb : Nat → Nat} {x1 x2 x3 x4 x5 x6 : Int32} {L : Nat → Nat → Int}
/-- the SETS of the class, sorted -/
def FmC (n : Nat) (h : Hp) (N : Nat) (nk : Nat → Nat) (rk : Nat → Nat → Int) (sb : Nat → Nat) (q : Nat) : Prop := (N ≤ 1024 ∧ (hI h (n + 62) 9).toInt = (N : Int)) ∧ (∀ j, j < N → KeyR (hI h (n + 69) j) (rk j) (nk j) ∧ sb (j + 1) = sb j + 2 * q ^ nk j) ∧ (∀ j, j ≤ N → (hI h (n + 70) j).toInt = (sb j : Int)) ∧ sb 0 = 0 ∧ sb N ≤ 600000
def TbC (h : Hp) (wA : Nat) (sb : Nat → Nat) (ν : Nod) : Int := (hI h wA (sb ν.1 + 2 * ν.2.1 + ν.2.2)).toInt
theorem sbc_m (S : FmC n h N nk rk sb q) : ∀ {j k : Nat}, j ≤ k → k ≤ N → sb j ≤ sb k := by
  intro j k
  induction k with
  | zero => intro a _; have : j = 0 := by omega
            rw [this]; exact Nat.le_refl _
  | succ k ih =>
    intro a b
    by_cases c : j = k + 1
    · rw [c]; exact Nat.le_refl _
    · have := ih (by omega) (by omega)
      have := (S.2.1 k (by omega)).2
      omega
theorem at_c (S : FmC n h N nk rk sb q) {ν ν' : Nod} (a : NdA N nk q ν) (b : NdA N nk q ν') (e : sb ν.1 + 2 * ν.2.1 + ν.2.2 = sb ν'.1 + 2 * ν'.2.1 + ν'.2.2) : ν = ν' := by
  obtain ⟨k, num, sd⟩ := ν
  obtain ⟨k', num', sd'⟩ := ν'
  have a : k < N ∧ num < q ^ nk k ∧ sd < 2 := a
  have b : k' < N ∧ num' < q ^ nk k' ∧ sd' < 2 := b
  have e : sb k + 2 * num + sd = sb k' + 2 * num' + sd' := e
  have kk : k = k' := by
    rcases Nat.lt_trichotomy k k' with c | c | c
    · have := sbc_m S (show k + 1 ≤ k' by omega) (by omega)
      have := (S.2.1 k a.1).2
      omega
    · exact c
    · have := sbc_m S (show k' + 1 ≤ k by omega) (by omega)
      have := (S.2.1 k' b.1).2
      omega
  subst kk
  have : num = num' := by omega
  have : sd = sd' := by omega
  subst_vars
  rfl
theorem at_l (S : FmC n h N nk rk sb q) {ν : Nod} (a : NdA N nk q ν) : sb ν.1 + 2 * ν.2.1 + ν.2.2 < 600000 := by
  have := sbc_m S (show ν.1 + 1 ≤ N from a.1) (Nat.le_refl _)
  have := (S.2.1 ν.1 a.1).2
  have := a.2.1
  have := a.2.2
  have := S.2.2.2.2
  omega
/-- how a place is marked -/
def MaV (L : Nat → Nat → Int) (nk : Nat → Nat) (rk : Nat → Nat → Int) (q : Nat) (ν : Nod) (x : Int) : Prop := (¬ (StD (rk ν.1) q ν.2.1 (nk ν.1) ∧ NoL L (rk ν.1) q ν.2.1 (nk ν.1)) ∧ x = 4000000) ∨ ((StD (rk ν.1) q ν.2.1 (nk ν.1) ∧ NoL L (rk ν.1) q ν.2.1 (nk ν.1)) ∧ EyV L (ndM nk rk q ν) ν.2.2 x)
def WMa (n wA lA a i : Nat) : Prop := WEb (n + 63) a i ∨ (a = n + 63 ∧ i = 5) ∨ a = wA ∨ a = lA
/-- what stays while positions are marked -/
def MaB (n : Nat) (h : Hp) (L : Nat → Nat → Int) (N : Nat) (nk : Nat → Nat) (rk : Nat → Nat → Int) (sb : Nat → Nat) (q wA lA : Nat) : Prop := ClL n h L ∧ FmC n h N nk rk sb q ∧ (hR h (n + 62) 11 = some wA ∧ hR h (n + 62) 12 = some lA ∧ ¬ wA = lA ∧ (n + 610 ≤ wA ∧ wA < hS h) ∧ n + 610 ≤ lA ∧ lA < hS h) ∧ EbZ n h ∧ ∃ M, EbW h (n + 63) M
theorem mab_f (k0 : DyK n h0 h0) (kh : DyK n h0 h) (Fr : FrW (WMa n wA lA) h0 h) (E : ∃ M, EbW h (n + 63) M) (B : MaB n h0 L N nk rk sb q wA lA) : MaB n h L N nk rk sb q wA lA := by
  obtain ⟨a, b, c, d, _⟩ := B
  have s0 := dk_610 k0
  have c1 := c.2.2.2.1
  have c2 := c.2.2.2.2
  have I : ∀ j i, j < 63 ∨ (69 ≤ j ∧ j < 610) → hI h (n + j) i = hI h0 (n + j) i ∧ hJ h (n + j) i = hJ h0 (n + j) i := fun j i hj => Fr.2 _ _ (by omega) (fun z => by unfold WMa WEb at z; omega)
  have rr := (kh.2.2.2 (by omega)).1
  refine ⟨cll_f k0 kh (fun j i hj => I j i (by omega)) a, ⟨⟨b.1.1, by rw [(I 62 9 (by omega)).1]; exact b.1.2⟩, fun j hj => ?_, fun j hj => ?_, b.2.2.2⟩, ⟨by rw [rr]; exact c.1, by rw [rr]; exact c.2.1, c.2.2.1, ⟨c1.1, Nat.lt_of_lt_of_le c1.2 Fr.1⟩, c2.1, Nat.lt_of_lt_of_le c2.2 Fr.1⟩, ebz_f k0 Fr (fun a i z l => ?_) d, E⟩
  · rw [(I 69 j (by omega)).1]; exact b.2.1 j hj
  · rw [(I 70 j (by omega)).1]; exact b.2.2.1 j hj
  · rcases z with z | z | z | z
    · exact Or.inl z
    · exact Or.inr (Or.inl z)
    · omega
    · omega
end
end
