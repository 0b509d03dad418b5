section
/-! ENDINGS, the class: what stays all the way; a position laid; all are marked -/
def WAe (n wA lA qA a i : Nat) : Prop := WEb (n + 63) a i ∨ (a = n + 63 ∧ i = 5) ∨ WGb n wA lA qA a i ∨ (a = n + 62 ∧ i = 17)
def SbE (n : Nat) (h : Hp) (L : Nat → Nat → Int) (N : Nat) (nk : Nat → Nat) (rk : Nat → Nat → Int) (sb : Nat → Nat) (q wA lA qA nT : Nat) : Prop := (ClL n h L ∧ FmC n h N nk rk sb q ∧ SoK n h N ∧ PwE n h q ∧ FmB n h L) ∧ TRf n wA lA qA h ∧ EbZ n h ∧ TdE n h N nk nT
def BdE (n : Nat) (h : Hp) : Prop := (∃ M, EbW h (n + 63) M) ∧ ∃ s' : Nat, s' < 2 ∧ (hI h (n + 63) 5).toInt = (s' : Int)
def StN (L : Nat → Nat → Int) (nk : Nat → Nat) (rk : Nat → Nat → Int) (q k num : Nat) : Prop := StD (rk k) q num (nk k) ∧ NoL L (rk k) q num (nk k)
section
variable {n F N q wA lA qA nT k num sd : Nat} {h h0 o : Hp} {nk : Nat → Nat} {rk : Nat → Nat → Int} {sb : Nat → Nat} {L : Nat → Nat → Int} {x1 x2 x3 x4 x5 x6 : Int32} {Pd Pd' : Nod → Prop}
theorem wma_e {a i : Nat} (z : WMa n wA lA a i) : WAe n wA lA qA a i := by
  rcases z with z | z | z | z
  · exact Or.inl z
  · exact Or.inr (Or.inl z)
  · exact Or.inr (Or.inr (Or.inl (Or.inr (Or.inl z))))
  · exact Or.inr (Or.inr (Or.inl (Or.inr (Or.inr (Or.inl z)))))
theorem sbe_f (k0 : DyK n h h) (dk : DkT n h o) (Fr : FrW (WAe n wA lA qA) h o) (B : SbE n h L N nk rk sb q wA lA qA nT) : SbE n o L N nk rk sb q wA lA qA nT := by
  have s0 := dk_610 k0
  obtain ⟨⟨a, b, c, e, f⟩, T, Z, Td⟩ := B
  obtain ⟨_, _, w1, w2, w3, _⟩ := id T
  have X : ∀ j i, j < 610 → ¬ j = 72 → ¬ (63 ≤ j ∧ j ≤ 66) → ¬ (j = 62 ∧ (i = 8 ∨ i = 16 ∨ i = 17)) → hI o (n + j) i = hI h (n + j) i ∧ hJ o (n + j) i = hJ h (n + j) i := fun j i h1 h2 h3 h4 => Fr.2 _ _ (by omega) (fun z => by unfold WAe WEb WGb WRo WTc at z; omega)
  refine ⟨⟨cll_f k0 (dk.1 _ k0) (fun j i hj => X j i (by omega) (by omega) (by omega) (by omega)) a, ⟨⟨b.1.1, by rw [(X 62 9 (by omega) (by omega) (by omega) (by omega)).1]; exact b.1.2⟩, fun j hj => by rw [(X 69 j (by omega) (by omega) (by omega) (by omega)).1]; exact b.2.1 j hj, fun j hj => by rw [(X 70 j (by omega) (by omega) (by omega) (by omega)).1]; exact b.2.2.1 j hj, b.2.2.2⟩, fun j k h1 h2 => by rw [(X 69 j (by omega) (by omega) (by omega) (by omega)).1, (X 69 k (by omega) (by omega) (by omega) (by omega)).1]; exact c j k h1 h2, fun i hi => by rw [(X 71 i (by omega) (by omega) (by omega) (by omega)).1]; exact e i hi, fun i hi s hs z => by rw [(X 26 i (by omega) (by omega) (by omega) (by omega)).2] at z; exact f i hi s hs z⟩, trf_f T dk.2 Fr.1, ebz_f k0 Fr (fun a i z l => ?_) Z, ?_⟩
  · unfold WAe WGb WRo WTc at z
    rcases z with z | z | z | z
    · exact Or.inl z
    · exact Or.inr (Or.inl z)
    · omega
    · omega
  · obtain ⟨⟨rt, Kt⟩, le⟩ := Td
    exact ⟨⟨rt, by rw [(X 62 15 (by omega) (by omega) (by omega) (by omega)).1]; exact Kt⟩, le⟩
theorem num_6 (Fc : FmC n h N nk rk sb q) (kN : k < N) (nb : num < q ^ nk k) : num ≤ 600000 := by
  have := at_l (ν := (k, num, 0)) Fc ⟨kN, nb, (show (0 : Nat) < 2 by decide)⟩
  have this : sb k + 2 * num + 0 < 600000 := this
  omega
/-- a position is laid -/
theorem lay_e {y : Int32 × Hp} (hF : 700000 ≤ F) (E : LwE L N nk rk q) (k0 : DyK n h h) (B : SbE n h L N nk rk sb q wA lA qA nT) (Bd : BdE n h) (kN : k < N) (nb : num < q ^ nk k) (e2 : x2.toInt = (num : Int)) (e : sX0_layOut F h (n + 62) (hI h (n + 69) k) x2 = some y) : DkT n h y.2 ∧ FrW (WEb (n + 63)) h y.2 ∧ SbE n y.2 L N nk rk sb q wA lA qA nT ∧ BdE n y.2 ∧ ((y.1 = 0 ∧ ¬ StN L nk rk q k num) ∨ (y.1 = 1 ∧ StN L nk rk q k num ∧ PosC y.2 (n + 64) (n + 65) (n + 66) (lyM (rk k) q num (nk k)) (L 10 0))) := by
  have s0 := dk_610 k0
  obtain ⟨⟨OK, LD, Nc⟩, Fm, q0, q64, eq⟩ := id E
  obtain ⟨⟨C, Fc, So, Pw, Fb⟩, T, Z, Td⟩ := id B
  obtain ⟨⟨M, Bm⟩, s', s2, es⟩ := Bd
  have all : ∀ g, DyK n g h → LyR n g h L (rk k) q num (nk k) y := fun g kg => ly_k hF OK.1 k0 kg C q0 eq (num_6 Fc kN nb) (Fm.1 k kN) (Fc.2.1 k kN).1 e2 Bm e
  have dk : DkT n h y.2 := ⟨fun g kg => (all g kg).2.1, hr0_X0_layOut hnr_0 e⟩
  obtain ⟨Fr, _, _, i, im, Po, alt⟩ := all h k0
  have Fr' : FrW (WAe n wA lA qA) h y.2 := fw_s Fr (fun _ _ c => Or.inl c)
  refine ⟨dk, Fr, sbe_f k0 dk Fr' B, ⟨⟨_, pos_eb Po⟩, s', s2, ?_⟩, ?_⟩
  · rw [(Fr.2 (n + 63) 5 (by omega) (fun z => by unfold WEb at z; omega)).1]; exact es
  · rcases alt with ⟨a, b⟩ | ⟨a, b, c, d⟩
    · exact Or.inl ⟨a, b⟩
    · rw [b] at Po
      exact Or.inr ⟨a, ⟨c, d⟩, Po⟩
/-- while positions are marked -/
def MkE (n : Nat) (L : Nat → Nat → Int) (N : Nat) (nk : Nat → Nat) (rk : Nat → Nat → Int) (sb : Nat → Nat) (q wA lA qA nT : Nat) (h0 : Hp) (Pd : Nod → Prop) (h : Hp) : Prop := (DkT n h0 h ∧ FrW (WMa n wA lA) h0 h) ∧ (SbE n h L N nk rk sb q wA lA qA nT ∧ BdE n h) ∧ ∀ ν, NdA N nk q ν → Pd ν → MaV L nk rk q ν (hI h wA (ixC sb ν)).toInt ∧ hI h lA (ixC sb ν) = 0
theorem mki_w (S : MkE n L N nk rk sb q wA lA qA nT h0 Pd h) (w : ∀ ν, NdA N nk q ν → Pd' ν → Pd ν) : MkE n L N nk rk sb q wA lA qA nT h0 Pd' h := ⟨S.1, S.2.1, fun ν na z => S.2.2 ν na (w ν na z)⟩
theorem mka_63 {K2 : Hp → Nat → Int32 → Option Hp} {K : Hp → Nat → Int32 → Int32 → Int32 → Option Hp} {Q : Hp → Prop} (E : LwE L N nk rk q) (k0 : DyK n h0 h0) (kN : k < N) (nb : num < q ^ nk k) (e5 : x5.toInt = ((sb k + 2 * num : Nat) : Int)) (hK : ∀ {u : Hp}, MkE n L N nk rk sb q wA lA qA nT h0 (fun ν => Pd ν ∨ (ν.1 = k ∧ ν.2.1 = num)) u → K u (n + 62) x1 x2 (x3 + (1 : Int32)) = some o → Q o) : ∀ (fu : Nat) {h : Hp} {x6 : Int32} {sd : Nat}, MkE n L N nk rk sb q wA lA qA nT h0 (fun ν => Pd ν ∨ (ν.1 = k ∧ ν.2.1 = num ∧ ν.2.2 < sd)) h → x6.toInt = (sd : Int) → sd ≤ 2 → ((x4 = 0 ∧ ¬ StN L nk rk q k num) ∨ (x4 = 1 ∧ StN L nk rk q k num ∧ PosC h (n + 64) (n + 65) (n + 66) (lyM (rk k) q num (nk k)) (L 10 0))) → sX0_markAll_63 F K2 K fu h (n + 62) x1 x2 x3 x4 x5 x6 = some o → Q o := by
  have z1 : (1 : Int32).toInt = 1 := rfl
  have z2 : (2 : Int32).toInt = 2 := rfl
  have s0 := dk_610 k0
  obtain ⟨⟨OK, LD, Nc⟩, Fm, q0, q64, eq⟩ := id E
  intro fu
  induction fu with
  | zero => intro h x6 sd _ _ _ _ e; exact absurd e (by rw [sX0_markAll_63]; exact fun z => nomatch z)
  | succ fu ih =>
    intro h x6 sd S e6 sd2 st e
    obtain ⟨⟨dk, Fr⟩, ⟨B, Bd⟩, Mv⟩ := id S
    have kh := dk.1 _ k0
    have kh0 := dk_self kh
    have s6 := dk_610 kh
    obtain ⟨⟨C, Fc, So, Pw, Fb⟩, T, Z, Td⟩ := id B
    obtain ⟨⟨r1, r2, r3⟩, ⟨n1, n2, n3⟩, w1, w2, w3, hn⟩ := id T
    rw [sX0_markAll_63] at e
    rcases br_s e with ⟨c, e⟩ | ⟨c, e⟩
    · have c := le_i c
      rw [z2] at c
      replace e := nx_e e
      refine hK (mki_w S (fun ν na z => ?_)) e
      rcases z with z | z
      · exact Or.inl z
      · exact Or.inr ⟨z.1, z.2, by have := na.2.2; omega⟩
    have c := nle_i c
    rw [z2] at c
    have sl : sd < 2 := by omega
    have na : NdA N nk q (k, num, sd) := ⟨kN, nb, sl⟩
    have il := at_l (ν := (k, num, sd)) Fc na
    have il : sb k + 2 * num + sd < 600000 := il
    have ix : (x5 + x6).toInt = (ixC sb (k, num, sd) : Int) := by
      rw [ta (by rw [e5, e6]; omega), e5, e6]
      show _ = ((sb k + 2 * num + sd : Nat) : Int)
      omega
    have nx : (x5 + x6).toNatClampNeg = ixC sb (k, num, sd) := by have := nc_i (x := x5 + x6) (by omega); omega
    -- what is written
    have wr : ∀ {u : Hp} {t0 : Int32}, DkT n h u → FrW (fun a i => a = n + 63 ∧ i = 5) h u → BdE n u → ((x4 = 0 ∧ ¬ StN L nk rk q k num) ∨ (x4 = 1 ∧ StN L nk rk q k num ∧ PosC u (n + 64) (n + 65) (n + 66) (lyM (rk k) q num (nk k)) (L 10 0))) → MaV L nk rk q (k, num, sd) t0.toInt → sX0_markAll_94 F K2 K (sX0_markAll_63 F K2 K fu) u (n + 62) x1 x2 x3 x4 x5 x6 t0 (x5 + x6) wA = some o → Q o := fun {u t0} du Fu Bu stu mv e => by
      unfold sX0_markAll_94 at e
      replace e := gg_e e
      obtain ⟨h2, u2, e⟩ := nm_s e
      have R2 : hR h2 (n + 62) 12 = some lA := by rw [u2]; exact (du.2.2 _ _).trans r2
      replace e := ce_e R2 e
      replace e := gg_e e
      obtain ⟨h5, u5, e⟩ := nm_s e
      obtain ⟨v6, w6, e⟩ := nm_s e
      rw [nx] at u2 u5
      have d5 : DkT n h h5 := by rw [u5, u2]; exact dkt_w (dkt_w du)
      have F5m : FrW (WMa n wA lA) h h5 := by
        rw [u5, u2]
        exact fw_wI (fw_wI (fw_s Fu (fun _ _ c => Or.inr (Or.inl c))) (Or.inr (Or.inr (Or.inl rfl)))) (Or.inr (Or.inr (Or.inr rfl)))
      have F5 : FrW (WAe n wA lA qA) h h5 := fw_s F5m (fun _ _ c => wma_e c)
      have I5 : ∀ a i, ¬ a = wA → ¬ a = lA → hI h5 a i = hI u a i := fun a i p1 p2 => by rw [u5, rI_a p2, u2, rI_a p1]
      have J5 : ∀ a i, hJ h5 a i = hJ u a i := fun a i => by rw [u5, u2]; rfl
      have cw : ∀ i, hI h5 wA i = if i = ixC sb (k, num, sd) then t0 else hI h wA i := fun i => by
        rw [u5, rI_a n1, u2]
        by_cases z : i = ixC sb (k, num, sd)
        · rw [if_pos z, z, rI_s]
        · rw [if_neg z, rI_o z, (Fu.2 wA i w1.2 (fun z => by omega)).1]
      have cl : ∀ i, hI h5 lA i = if i = ixC sb (k, num, sd) then 0 else hI h lA i := fun i => by
        rw [u5]
        by_cases z : i = ixC sb (k, num, sd)
        · rw [if_pos z, z, rI_s]
        · rw [if_neg z, rI_o z, u2, rI_a (fun y => n1 y.symm), (Fu.2 lA i w2.2 (fun z => by omega)).1]
      refine ih (sd := sd + 1) ⟨⟨dkt_t dk d5, fw_t Fr F5m⟩, ⟨sbe_f kh0 d5 F5 B, ?_⟩, fun ν' na' z => ?_⟩ (by rw [w6, ta (by rw [z1]; omega), z1]; omega) (by omega) ?_ e
      · obtain ⟨⟨M, b1, b2, b3, b4⟩, s', q1, q2⟩ := Bu
        refine ⟨⟨M, fun s hs => by rw [I5 _ _ (by omega) (by omega)]; exact b1 s hs, fun d hd => by rw [J5]; exact b2 d hd, fun d hd => by rw [I5 _ _ (by omega) (by omega)]; exact b3 d hd, b4⟩, s', q1, by rw [I5 _ _ (by omega) (by omega)]; exact q2⟩
      · by_cases y : ν' = (k, num, sd)
        · rw [cw, cl, y, if_pos rfl, if_pos rfl]
          exact ⟨mv, rfl⟩
        · have nz := ix_u Fc na na' y
          rw [cw, cl, if_neg nz, if_neg nz]
          refine Mv ν' na' ?_
          rcases z with z | ⟨y1, y2, y3⟩
          · exact Or.inl z
          · refine Or.inr ⟨y1, y2, ?_⟩
            apply Classical.byContradiction
            intro w
            exact y (Prod.ext y1 (Prod.ext y2 (show ν'.2.2 = sd by omega)))
      · rcases stu with z | ⟨y1, y2, y3⟩
        · exact Or.inl z
        · refine Or.inr ⟨y1, y2, fun s hs => by rw [I5 _ _ (by omega) (by omega)]; exact y3.1 s hs, fun d hd => by rw [J5]; exact y3.2.1 d hd, fun d hd => by rw [I5 _ _ (by omega) (by omega)]; exact y3.2.2.1 d hd, y3.2.2.2⟩
    replace e := ce_e r1 e
    rcases br_s e with ⟨c4, e⟩ | ⟨c4, e⟩
    · have nst : ¬ StN L nk rk q k num := by
        rcases st with z | z
        · exact z.2
        · rw [z.1] at c4; exact absurd c4 (by decide)
      exact wr dkt_0 fw_0 Bd st (Or.inl ⟨nst, rfl⟩) e
    · obtain ⟨_, sst, Po⟩ := st.resolve_left (fun z => c4 z.1)
      obtain ⟨y5, e5', e⟩ := cl_s e
      have HM := nd_mok (num := num) q0 eq (Fm.1 k kN)
      obtain ⟨q1, q2⟩ := ey_k (sd := sd) OK kh0 C HM (nd_un (Fm.1 k kN)) sl Po Z e6 e5'
      have du : DkT n h y5.2 := by rw [q1]; exact dkt_w dkt_0
      have Fu : FrW (fun a i => a = n + 63 ∧ i = 5) h y5.2 := by rw [q1]; exact fw_wI fw_0 ⟨rfl, rfl⟩
      have Iu : ∀ a i, ¬ a = n + 63 → hI y5.2 a i = hI h a i := fun a i p => by rw [q1, rI_a p]
      have Ju : ∀ a i, hJ y5.2 a i = hJ h a i := fun a i => by rw [q1]; rfl
      have Pu : PosC y5.2 (n + 64) (n + 65) (n + 66) (lyM (rk k) q num (nk k)) (L 10 0) := ⟨fun s hs => by rw [Iu _ _ (by omega)]; exact Po.1 s hs, fun d hd => by rw [Ju]; exact Po.2.1 d hd, fun d hd => by rw [Iu _ _ (by omega)]; exact Po.2.2.1 d hd, Po.2.2.2⟩
      refine wr du Fu ⟨⟨_, pos_eb Pu⟩, sd, sl, by rw [q1, rI_s]; exact e6⟩ (Or.inr ⟨(st.resolve_left (fun z => c4 z.1)).1, sst, Pu⟩) (Or.inr ⟨sst, q2⟩) e
theorem mka_30 {K2 : Hp → Nat → Int32 → Option Hp} {Q : Hp → Prop} (hF : 700000 ≤ F) (E : LwE L N nk rk q) (k0 : DyK n h0 h0) (kN : k < N) (e1 : x1.toInt = (k : Int)) (e2 : x2.toInt = ((q ^ nk k : Nat) : Int)) (q6 : q ^ nk k ≤ 300000) (hK : ∀ {u : Hp}, MkE n L N nk rk sb q wA lA qA nT h0 (fun ν => Pd ν ∨ ν.1 = k) u → K2 u (n + 62) (x1 + (1 : Int32)) = some o → Q o) : ∀ (fu : Nat) {h : Hp} {x3 : Int32} {num : Nat}, MkE n L N nk rk sb q wA lA qA nT h0 (fun ν => Pd ν ∨ (ν.1 = k ∧ ν.2.1 < num)) h → x3.toInt = (num : Int) → num ≤ q ^ nk k → sX0_markAll_30 F K2 fu h (n + 62) x1 x2 x3 = some o → Q o := by
  have z1 : (1 : Int32).toInt = 1 := rfl
  have z2 : (2 : Int32).toInt = 2 := rfl
  intro fu
  induction fu with
  | zero => intro h x3 num _ _ _ e; exact absurd e (by rw [sX0_markAll_30]; exact fun z => nomatch z)
  | succ fu ih =>
    intro h x3 num S e3 nq e
    obtain ⟨⟨dk, Fr⟩, ⟨B, Bd⟩, Mv⟩ := id S
    have kh := dk.1 _ k0
    have kh0 := dk_self kh
    obtain ⟨⟨C, Fc, So, Pw, Fb⟩, T, Z, Td⟩ := id B
    have N10 := Fc.1.1
    rw [sX0_markAll_30] at e
    rcases br_s e with ⟨c, e⟩ | ⟨c, e⟩
    · have c := le_i c
      replace e := nx_e e
      refine hK (mki_w S (fun ν na z => ?_)) e
      rcases z with z | z
      · exact Or.inl z
      · refine Or.inr ⟨z, ?_⟩
        have := na.2.1
        rw [z] at this
        omega
    have c := nle_i c
    have nb : num < q ^ nk k := by omega
    have n1 : x1.toNatClampNeg = k := by have := nc_i (x := x1) (by omega); omega
    replace e := ce_e (dk_e (a := 62) (f := 4) (b := 69) kh (by decide +kernel)) e
    replace e := gg_e e
    obtain ⟨y, e5, e⟩ := cl_s e
    rw [n1] at e5
    obtain ⟨d5, F5, B5, Bd5, st⟩ := lay_e hF E kh0 B Bd kN nb e3 e5
    have k5 := d5.1 _ kh0
    replace e := ce_e (dk_e (a := 62) (f := 5) (b := 70) k5 (by decide +kernel)) e
    replace e := gg_e e
    obtain ⟨v8, w8, e⟩ := nm_s e
    rw [n1] at w8
    have sk := B5.1.2.1.2.2.1 k (by omega)
    have il := at_l (ν := (k, num, 0)) Fc ⟨kN, nb, (show (0 : Nat) < 2 by decide)⟩
    have il : sb k + 2 * num + 0 < 600000 := il
    have m2 : ((2 : Int32) * x3).toInt = 2 * (num : Int) := by rw [tm (by rw [z2, e3]; omega), z2, e3]
    have y8 : v8.toInt = ((sb k + 2 * num : Nat) : Int) := by rw [w8, ta (by rw [sk, m2]; omega), sk, m2]; omega
    have w6 := T.2.2
    have s6 := dk_610 kh
    refine mka_63 (Pd := fun ν => Pd ν ∨ (ν.1 = k ∧ ν.2.1 < num)) (K := sX0_markAll_30 F K2 fu) (Q := Q) E k0 kN nb y8 (fun {u} S' e => ih (num := num + 1) (mki_w S' (fun ν na z => ?_)) (by rw [ta (by rw [z1]; omega), z1]; omega) (by omega) e) F (sd := 0) ⟨⟨dkt_t dk d5, fw_t Fr (fw_s F5 (fun _ _ c => Or.inl c))⟩, ⟨B5, Bd5⟩, fun ν na z => ?_⟩ rfl (Nat.zero_le _) st e
    · rcases z with z | ⟨y1, y2⟩
      · exact Or.inl (Or.inl z)
      · by_cases w : ν.2.1 < num
        · exact Or.inl (Or.inr ⟨y1, w⟩)
        · exact Or.inr ⟨y1, by omega⟩
    · rw [(F5.2 wA _ w6.1.2 (fun z => by unfold WEb at z; omega)).1, (F5.2 lA _ w6.2.1.2 (fun z => by unfold WEb at z; omega)).1]
      refine Mv ν na ?_
      rcases z with z | z
      · exact z
      · exact absurd z.2.2 (Nat.not_lt_zero _)
theorem mka_2 (hF : 700000 ≤ F) (E : LwE L N nk rk q) (k0 : DyK n h0 h0) : ∀ (fu : Nat) {h : Hp} {x1 : Int32} {k : Nat}, MkE n L N nk rk sb q wA lA qA nT h0 (fun ν => ν.1 < k) h → x1.toInt = (k : Int) → k ≤ N → sX0_markAll_2 F fu h (n + 62) x1 = some o → MkE n L N nk rk sb q wA lA qA nT h0 (fun _ => True) o := by
  have z1 : (1 : Int32).toInt = 1 := rfl
  intro fu
  induction fu with
  | zero => intro h x1 k _ _ _ e; exact absurd e (by rw [sX0_markAll_2]; exact fun z => nomatch z)
  | succ fu ih =>
    intro h x1 k S e1 kN e
    obtain ⟨⟨dk, Fr⟩, ⟨B, Bd⟩, Mv⟩ := id S
    have kh := dk.1 _ k0
    obtain ⟨⟨C, Fc, So, Pw, Fb⟩, T, Z, Td⟩ := id B
    have N10 := Fc.1.1
    have e9 := Fc.1.2
    rw [sX0_markAll_2] at e
    rcases br_s e with ⟨c, e⟩ | ⟨c, e⟩
    · have c := le_i c
      rw [e9] at c
      rw [so_e e]
      exact mki_w S (fun ν na _ => by have := na.1; omega)
    have c := nle_i c
    rw [e9] at c
    have n1 : x1.toNatClampNeg = k := by have := nc_i (x := x1) (by omega); omega
    have n2 : (x1 + (1 : Int32)).toNatClampNeg = k + 1 := by
      have a : (x1 + (1 : Int32)).toInt = (k : Int) + 1 := by rw [ta (by rw [z1]; omega), z1, e1]
      have := nc_i (x := x1 + (1 : Int32)) (by omega); omega
    have r5 := dk_e (a := 62) (f := 5) (b := 70) kh (by decide +kernel)
    replace e := ce_e r5 e
    replace e := gg_e e
    replace e := ce_e r5 e
    replace e := gg_e e
    obtain ⟨v6, w6, e⟩ := nm_s e
    rw [n1, n2] at w6
    have s1 := Fc.2.2.1 k (by omega)
    have s2 := Fc.2.2.1 (k + 1) (by omega)
    have sk := (Fc.2.1 k (by omega)).2
    have le := sbc_m Fc (show k + 1 ≤ N by omega) (Nat.le_refl _)
    have l6 := Fc.2.2.2.2
    have y6 : v6.toInt = ((q ^ nk k : Nat) : Int) := by
      rw [w6, ti_shr1, ts (by rw [s1, s2]; omega), s1, s2]; omega
    refine mka_30 (Pd := fun ν => ν.1 < k) (Q := fun o => MkE n L N nk rk sb q wA lA qA nT h0 (fun _ => True) o) hF E k0 (by omega) e1 y6 (by omega) (fun {u} S' e => ih (k := k + 1) (mki_w S' (fun ν na z => ?_)) (by rw [ta (by rw [z1]; omega), z1]; omega) (by omega) e) F (num := 0) (mki_w S (fun ν na z => ?_)) rfl (Nat.zero_le _) e
    · by_cases w : ν.1 = k
      · exact Or.inr w
      · exact Or.inl (by omega)
    · rcases z with z | z
      · exact z
      · exact absurd z.2 (Nat.not_lt_zero _)
theorem mka_k (hF : 700000 ≤ F) (E : LwE L N nk rk q) (k0 : DyK n h h) (B : SbE n h L N nk rk sb q wA lA qA nT) (Bd : BdE n h) (e : sX0_markAll F h (n + 62) = some o) : MkE n L N nk rk sb q wA lA qA nT h (fun _ => True) o := by
  unfold sX0_markAll at e
  exact mka_2 hF E k0 F (k := 0) ⟨⟨dkt_0, fw_0⟩, ⟨B, Bd⟩, fun ν _ z => absurd z (Nat.not_lt_zero _)⟩ rfl (Nat.zero_le _) e
end
end
section
/-! ENDINGS, the class: moves are counted -/
noncomputable def kB (L : Nat → Nat → Int) (N : Nat) (nk : Nat → Nat) (rk : Nat → Nat → Int) (q : Nat) (y : Nod) (e : Nod × Bool) : Nat := ((LYc (TcY L N nk rk q (ndM nk rk q y) y.2.2)).map (tnC N nk rk q (ndM nk rk q y) (1 - y.2.2))).count e
def LyE (L : Nat → Nat → Int) (N : Nat) (nk : Nat → Nat) (rk : Nat → Nat → Int) (q : Nat) (y : Nod) : Prop := ∃ l : List Cd, l.Nodup ∧ ∀ c, c ∈ l ↔ TcY L N nk rk q (ndM nk rk q y) y.2.2 c
section
variable {n F N q wA lA qA nT k num sd : Nat} {h h0 o : Hp} {nk : Nat → Nat} {rk : Nat → Nat → Int} {sb : Nat → Nat} {L : Nat → Nat → Int} {x1 x2 x3 x4 x5 x6 : Int32} {Pd Pd' : Nod → Prop} {W : Nod → Int}
theorem lyc_m {P : Cd → Prop} {l : List Cd} (n : l.Nodup) (m : ∀ c, c ∈ l ↔ P c) (f : Cd → Nod × Bool) (e : Nod × Bool) : (l.map f).count e = ((LYc P).map f).count e := by
  show (l.map f).countP (· == e) = ((LYc P).map f).countP (· == e)
  rw [List.countP_map, List.countP_map]
  exact lyc_c n m _
theorem lyc_p {P : Cd → Prop} {l : List Cd} (n : l.Nodup) (m : ∀ c, c ∈ l ↔ P c) (f : Cd → Nod × Bool) (p : Nod × Bool → Bool) : (l.map f).countP p = ((LYc P).map f).countP p := by
  rw [List.countP_map, List.countP_map]
  exact lyc_c n m _
theorem mav_r {ν : Nod} {x : Int} (E : LwE L N nk rk q) (na : NdA N nk q ν) (m : MaV L nk rk q ν x) : RtA L N nk rk q ν ↔ ¬ x = 4000000 := by
  obtain ⟨⟨OK, LD, Nc⟩, Fm, q0, q64, eq⟩ := id E
  have wr := nd_wr (sd := ν.2.2) Nc.1 (nd_un (q := q) (num := ν.2.1) (Fm.1 _ na.1))
  rcases m with ⟨a, b⟩ | ⟨⟨a1, a2⟩, b⟩
  · constructor
    · intro ⟨_, St, w0⟩
      exact absurd ⟨St, (nol_f3 q0 q64 (Fm.1 _ na.1) St).mpr (wr.mp w0).1⟩ a
    · intro z; exact absurd b z
  · have f3 := (nol_f3 (sd := ν.2.2) q0 q64 (Fm.1 _ na.1) a1).mp a2
    rcases b with ⟨b1, b2⟩ | ⟨b1, b2⟩
    · constructor
      · intro ⟨_, St, w0⟩
        exact absurd b1 (wr.mp w0).2
      · intro z; exact absurd b2 z
    · constructor
      · intro _ z
        rcases b2 with ⟨_, b2⟩ | ⟨_, b2⟩
        · have := vb_A (L := L) (nk := nk) (rk := rk) (q := q) ν x b2
          omega
        · omega
      · intro _
        exact ⟨na, a1, wr.mpr ⟨f3, b1⟩⟩
theorem ly_0 (R : RwO L (rk k) (nk k)) (s : Nat) : 0 ≤ lyM (rk k) q num (nk k) s := by
  by_cases z : lyM (rk k) q num (nk k) s = 0
  · omega
  · obtain ⟨i, hi, _, b⟩ := ly_mem (nk k) z
    have := (R.2.1 i hi).1
    omega
theorem suml_a {f : Nod → Nat} {y : Nod} : ∀ (l : List Nod), sumL (l ++ [y]) f = sumL l f + f y := by
  intro l
  induction l with
  | nil => show f y + 0 = 0 + f y; omega
  | cons a l ih =>
    show f a + sumL (l ++ [y]) f = f a + sumL l f + f y
    rw [ih]; omega
/-- while moves are counted -/
def CtE (n : Nat) (L : Nat → Nat → Int) (N : Nat) (nk : Nat → Nat) (rk : Nat → Nat → Int) (sb : Nat → Nat) (q wA lA qA nT : Nat) (W : Nod → Int) (h0 : Hp) (Pd : Nod → Prop) (h : Hp) : Prop := (DkT n h0 h ∧ FrW (WAe n wA lA qA) h0 h) ∧ (SbE n h L N nk rk sb q wA lA qA nT ∧ BdE n h) ∧ ∃ (Dp : List Nod) (A : List (Nod × Bool)), Dp.Nodup ∧ (∀ y, y ∈ Dp ↔ (RtA L N nk rk q y ∧ Pd y)) ∧ ICt n N nk sb q wA lA qA W h A ∧ (∀ e, A.count e = sumL Dp (fun y => kB L N nk rk q y e)) ∧ ∀ y, y ∈ Dp → LyE L N nk rk q y
theorem cte_w (S : CtE n L N nk rk sb q wA lA qA nT W h0 Pd h) (w : ∀ y, RtA L N nk rk q y → (Pd y ↔ Pd' y)) : CtE n L N nk rk sb q wA lA qA nT W h0 Pd' h := by
  obtain ⟨a, b, Dp, A, c, d, e⟩ := S
  exact ⟨a, b, Dp, A, c, fun y => by rw [d]; exact ⟨fun z => ⟨z.1, (w y z.1).mp z.2⟩, fun z => ⟨z.1, (w y z.1).mpr z.2⟩⟩, e⟩
theorem cte_l {y : Int32 × Hp} (hF : 700000 ≤ F) (E : LwE L N nk rk q) (k0 : DyK n h0 h0) (S : CtE n L N nk rk sb q wA lA qA nT W h0 Pd h) (kN : k < N) (nb : num < q ^ nk k) (e2 : x2.toInt = (num : Int)) (e : sX0_layOut F h (n + 62) (hI h (n + 69) k) x2 = some y) : CtE n L N nk rk sb q wA lA qA nT W h0 Pd y.2 ∧ ((y.1 = 0 ∧ ¬ StN L nk rk q k num) ∨ (y.1 = 1 ∧ StN L nk rk q k num ∧ PosC y.2 (n + 64) (n + 65) (n + 66) (lyM (rk k) q num (nk k)) (L 10 0))) := by
  obtain ⟨⟨dk, Fr⟩, ⟨B, Bd⟩, Dp, A, c, d, ⟨T, i1, i2, i3⟩, f⟩ := S
  have kh := dk_self (dk.1 _ k0)
  have s6 := dk_610 kh
  obtain ⟨d5, F5, B5, Bd5, st⟩ := lay_e hF E kh B Bd kN nb e2 e
  obtain ⟨_, _, w1, w2, w3, _⟩ := id T
  refine ⟨⟨⟨dkt_t dk d5, fw_t Fr (fw_s F5 (fun _ _ c => Or.inl c))⟩, ⟨B5, Bd5⟩, Dp, A, c, d, ⟨trf_f T d5.2 F5.1, ?_, fun ν na => ?_, fun ν na wo => ?_⟩, f⟩, st⟩
  · exact ⟨by rw [(F5.2 (n + 62) 17 (by omega) (fun z => by unfold WEb at z; omega)).1]; exact i1.1, by rw [(F5.2 (n + 62) 16 (by omega) (fun z => by unfold WEb at z; omega)).1]; exact i1.2⟩
  · rw [(F5.2 wA _ w1.2 (fun z => by unfold WEb at z; omega)).1]; exact i2 ν na
  · rw [(F5.2 lA _ w2.2 (fun z => by unfold WEb at z; omega)).1]; exact i3 ν na wo
/-- one position: all that it is come to from -/
theorem cte_g (hF : 700000 ≤ F) (E : LwE L N nk rk q) (k0 : DyK n h0 h0) (S : CtE n L N nk rk sb q wA lA qA nT W h0 Pd h) (Rt : RtA L N nk rk q (k, num, sd)) (np : ¬ Pd (k, num, sd)) (Po : PosC h (n + 64) (n + 65) (n + 66) (lyM (rk k) q num (nk k)) (L 10 0)) (e1 : x1.toInt = (sd : Int)) (e : sX0_goBack F h (n + 62) x1 = some o) : CtE n L N nk rk sb q wA lA qA nT W h0 (fun y => Pd y ∨ y = (k, num, sd)) o ∧ PosC o (n + 64) (n + 65) (n + 66) (lyM (rk k) q num (nk k)) (L 10 0) := by
  obtain ⟨⟨OK, LD, Nc⟩, Fm, q0, q64, eq⟩ := id E
  obtain ⟨⟨dk, Fr⟩, ⟨B, Bd⟩, Dp, A, c, d, It, f⟩ := S
  have kh := dk_self (dk.1 _ k0)
  have s6 := dk_610 kh
  obtain ⟨⟨C, Fc, So, Pw, Fb⟩, T, Z, Td⟩ := id B
  obtain ⟨⟨M, Bm⟩, s', s2, es⟩ := id Bd
  obtain ⟨⟨kN, nb, sd2⟩, St, w0⟩ := id Rt
  have kN : k < N := kN
  have sd2 : sd < 2 := sd2
  have St : StD (rk k) q num (nk k) := St
  have R := Fm.1 k kN
  obtain ⟨_, _, w1, w2, w3, _⟩ := id T
  have c5 : mnC (lyM (rk k) q num (nk k)) 64 ≤ 5 := by
    rw [← enu_n (enu_l q0 q64 R St)]; exact R.1
  obtain ⟨⟨d5, F5⟩, l, l1, l2, l3⟩ := gob_k (A := A) hF (tci_c (W := W) Fc) E kh ⟨w1.1, w2.1, w3.1⟩ ⟨⟨C, Fc, So, Pw, Fb⟩, Po⟩ Td Z es s2 (nd_mok q0 eq R) (nd_un R) (ly_0 R) c5 sd2 e1 It e
  have F5' : FrW (WAe n wA lA qA) h o := fw_s F5 (fun _ _ c => Or.inr (Or.inr (Or.inl c)))
  have X : ∀ j i, j < 610 → ¬ j = 72 → ¬ j = 62 → hI o (n + j) i = hI h (n + j) i ∧ hJ o (n + j) i = hJ h (n + j) i := fun j i h1 h2 h3 => F5.2 _ _ (by omega) (fun z => by unfold WGb WRo WTc at z; omega)
  have Po' : PosC o (n + 64) (n + 65) (n + 66) (lyM (rk k) q num (nk k)) (L 10 0) := ⟨fun s hs => by rw [(X 64 s (by omega) (by omega) (by omega)).1]; exact Po.1 s hs, fun d hd => by rw [(X 65 d (by omega) (by omega) (by omega)).2]; exact Po.2.1 d hd, fun d hd => by rw [(X 66 d (by omega) (by omega) (by omega)).1]; exact Po.2.2.1 d hd, Po.2.2.2⟩
  refine ⟨⟨⟨dkt_t dk d5, fw_t Fr F5'⟩, ⟨sbe_f kh d5 F5' B, ⟨_, pos_eb Po'⟩, s', s2, by rw [(X 63 5 (by omega) (by omega) (by omega)).1]; exact es⟩, Dp ++ [(k, num, sd)], A ++ l.map (tnC N nk rk q (lyM (rk k) q num (nk k)) (1 - sd)), ?_, fun y => ?_, l3, fun ee => ?_, fun y hy => ?_⟩, Po'⟩
  · rw [List.nodup_append]
    refine ⟨c, by simp, fun a ha b hb => ?_⟩
    rw [List.mem_singleton.mp hb]
    exact fun z => np (((d _).mp (by rw [← z]; exact ha)).2)
  · rw [List.mem_append, d, List.mem_singleton]
    constructor
    · intro z
      rcases z with z | z
      · exact ⟨z.1, Or.inl z.2⟩
      · exact ⟨by rw [z]; exact Rt, Or.inr z⟩
    · intro ⟨z, w⟩
      rcases w with w | w
      · exact Or.inl ⟨z, w⟩
      · exact Or.inr w
  · rw [List.count_append, f.1 ee, suml_a, lyc_m l1 l2]
    rfl
  · rcases List.mem_append.mp hy with z | z
    · exact f.2 y z
    · rw [List.mem_singleton.mp z]; exact ⟨l, l1, l2⟩
theorem cnt_105 {K2 : Hp → Nat → Int32 → Option Hp} {K : Hp → Nat → Int32 → Int32 → Int32 → Option Hp} {Q : Hp → Prop} (hF : 700000 ≤ F) (E : LwE L N nk rk q) (mv : ∀ ν, NdA N nk q ν → MaV L nk rk q ν (W ν)) (k0 : DyK n h0 h0) (kN : k < N) (nb : num < q ^ nk k) (e4 : x4.toInt = ((sb k + 2 * num : Nat) : Int)) (np : ∀ y, Pd y → ¬ (y.1 = k ∧ y.2.1 = num)) (hK : ∀ {u : Hp}, CtE n L N nk rk sb q wA lA qA nT W h0 (fun ν => Pd ν ∨ (ν.1 = k ∧ ν.2.1 = num)) u → K u (n + 62) x1 x2 (x3 + (1 : Int32)) = some o → Q o) : ∀ (fu : Nat) {h : Hp} {x6 : Int32} {sd : Nat}, CtE n L N nk rk sb q wA lA qA nT W h0 (fun ν => Pd ν ∨ (ν.1 = k ∧ ν.2.1 = num ∧ ν.2.2 < sd)) h → PosC h (n + 64) (n + 65) (n + 66) (lyM (rk k) q num (nk k)) (L 10 0) → x6.toInt = (sd : Int) → sd ≤ 2 → sX0_countAll_105 F K2 K fu h (n + 62) x1 x2 x3 x4 x6 = some o → Q o := by
  have z1 : (1 : Int32).toInt = 1 := rfl
  have z2 : (2 : Int32).toInt = 2 := rfl
  intro fu
  induction fu with
  | zero => intro h x6 sd _ _ _ _ e; exact absurd e (by rw [sX0_countAll_105]; exact fun z => nomatch z)
  | succ fu ih =>
    intro h x6 sd S Po e6 sd2 e
    obtain ⟨⟨dk, Fr⟩, ⟨B, Bd⟩, Dp, A, c, d, ⟨T, i1, i2, i3⟩, f⟩ := id S
    have Fc := B.1.2.1
    rw [sX0_countAll_105] at e
    unfold sX0_countAll_138 sX0_countAll_132 at e
    rcases br_s e with ⟨c1, e⟩ | ⟨c1, e⟩
    · have c1 := le_i c1
      rw [z2] at c1
      replace e := nx_e e
      refine hK (cte_w S (fun ν rt => ⟨fun z => ?_, fun z => ?_⟩)) e
      · rcases z with z | z
        · exact Or.inl z
        · exact Or.inr ⟨z.1, z.2.1⟩
      · rcases z with z | z
        · exact Or.inl z
        · exact Or.inr ⟨z.1, z.2, by have := rt.1.2.2; omega⟩
    have c1 := nle_i c1
    rw [z2] at c1
    have na : NdA N nk q (k, num, sd) := ⟨kN, nb, by show sd < 2; omega⟩
    have il := at_l (ν := (k, num, sd)) Fc na
    have il : sb k + 2 * num + sd < 600000 := il
    have ix : (x4 + x6).toInt = (ixC sb (k, num, sd) : Int) := by
      rw [ta (by rw [e4, e6]; omega), e4, e6]
      show _ = ((sb k + 2 * num + sd : Nat) : Int)
      omega
    have nx : (x4 + x6).toNatClampNeg = ixC sb (k, num, sd) := by have := nc_i (x := x4 + x6) (by omega); omega
    replace e := ce_e T.1.1 e
    replace e := gg_e e
    have wv := i2 _ na
    have rt := mav_r E na (mv _ na)
    have nxt : ∀ {u : Hp}, CtE n L N nk rk sb q wA lA qA nT W h0 (fun ν => (Pd ν ∨ (ν.1 = k ∧ ν.2.1 = num ∧ ν.2.2 < sd)) ∨ ν = (k, num, sd)) u → PosC u (n + 64) (n + 65) (n + 66) (lyM (rk k) q num (nk k)) (L 10 0) → sX0_countAll_105 F K2 K fu u (n + 62) x1 x2 x3 x4 (x6 + (1 : Int32)) = some o → Q o := fun {u} S' P' e => by
      refine ih (sd := sd + 1) (cte_w S' (fun ν rt => ⟨fun z => ?_, fun z => ?_⟩)) P' (by rw [ta (by rw [z1]; omega), z1]; omega) (by omega) e
      · rcases z with (z | z) | z
        · exact Or.inl z
        · exact Or.inr ⟨z.1, z.2.1, by omega⟩
        · rw [z]; exact Or.inr ⟨rfl, rfl, Nat.lt_succ_self _⟩
      · rcases z with z | ⟨y1, y2, y3⟩
        · exact Or.inl (Or.inl z)
        · by_cases w : ν.2.2 < sd
          · exact Or.inl (Or.inr ⟨y1, y2, w⟩)
          · exact Or.inr (Prod.ext y1 (Prod.ext y2 (show ν.2.2 = sd by omega)))
    rcases br_s e with ⟨c2, e⟩ | ⟨c2, e⟩ <;> rw [nx] at c2
    · replace e := nx_e e
      have nr : ¬ RtA L N nk rk q (k, num, sd) := fun z => rt.mp z (by rw [← wv, c2]; rfl)
      refine nxt (cte_w S (fun ν r => ⟨fun z => Or.inl z, fun z => ?_⟩)) Po e
      rcases z with z | z
      · exact z
      · rw [z] at r; exact absurd r nr
    · obtain ⟨o5, e5, e⟩ := cl_s e
      replace e := nx_e e
      have r := rt.mpr (fun z => c2 (Int32.toInt_inj.mp (by rw [wv, z]; rfl)))
      obtain ⟨S', P'⟩ := cte_g hF E k0 S r (fun z => by
        rcases z with z | z
        · exact np _ z ⟨rfl, rfl⟩
        · exact absurd z.2.2 (Nat.lt_irrefl _)) Po e6 e5
      exact nxt S' P' e
theorem cnt_30 {K2 : Hp → Nat → Int32 → Option Hp} {Q : Hp → Prop} (hF : 700000 ≤ F) (E : LwE L N nk rk q) (mv : ∀ ν, NdA N nk q ν → MaV L nk rk q ν (W ν)) (k0 : DyK n h0 h0) (kN : k < N) (e1 : x1.toInt = (k : Int)) (e2 : x2.toInt = ((q ^ nk k : Nat) : Int)) (q6 : q ^ nk k ≤ 300000) (np : ∀ y, Pd y → ¬ y.1 = k) (hK : ∀ {u : Hp}, CtE n L N nk rk sb q wA lA qA nT W h0 (fun ν => Pd ν ∨ ν.1 = k) u → K2 u (n + 62) (x1 + (1 : Int32)) = some o → Q o) : ∀ (fu : Nat) {h : Hp} {x3 : Int32} {num : Nat}, CtE n L N nk rk sb q wA lA qA nT W h0 (fun ν => Pd ν ∨ (ν.1 = k ∧ ν.2.1 < num)) h → x3.toInt = (num : Int) → num ≤ q ^ nk k → sX0_countAll_30 F K2 fu h (n + 62) x1 x2 x3 = some o → Q o := by
  have z1 : (1 : Int32).toInt = 1 := rfl
  have z2 : (2 : Int32).toInt = 2 := rfl
  intro fu
  induction fu with
  | zero => intro h x3 num _ _ _ e; exact absurd e (by rw [sX0_countAll_30]; exact fun z => nomatch z)
  | succ fu ih =>
    intro h x3 num S e3 nq e
    obtain ⟨⟨dk, Fr⟩, ⟨B, Bd⟩, Dp, A, c, d, ⟨T, i1, i2, i3⟩, f⟩ := id S
    have kh := dk.1 _ k0
    have Fc := B.1.2.1
    have N10 := Fc.1.1
    rw [sX0_countAll_30] at e
    rcases br_s e with ⟨c1, e⟩ | ⟨c1, e⟩
    · have c1 := le_i c1
      replace e := nx_e e
      refine hK (cte_w S (fun ν rt => ⟨fun z => ?_, fun z => ?_⟩)) e
      · rcases z with z | z
        · exact Or.inl z
        · exact Or.inr z.1
      · rcases z with z | z
        · exact Or.inl z
        · refine Or.inr ⟨z, ?_⟩
          have := rt.1.2.1
          rw [z] at this
          omega
    have c1 := nle_i c1
    have nb : num < q ^ nk k := by omega
    have n1 : x1.toNatClampNeg = k := by have := nc_i (x := x1) (by omega); omega
    replace e := ce_e (dk_e (a := 62) (f := 5) (b := 70) kh (by decide +kernel)) e
    replace e := gg_e e
    obtain ⟨v5, w5, e⟩ := nm_s e
    rw [n1] at w5
    have sk := Fc.2.2.1 k (by omega)
    have na : ∀ s, s < 2 → NdA N nk q (k, num, s) := fun s hs => ⟨kN, nb, hs⟩
    have il := at_l (ν := (k, num, 1)) Fc (na 1 (by decide))
    have il : sb k + 2 * num + 1 < 600000 := il
    have m2 : ((2 : Int32) * x3).toInt = 2 * (num : Int) := by rw [tm (by rw [z2, e3]; omega), z2, e3]
    have y5 : v5.toInt = ((sb k + 2 * num : Nat) : Int) := by rw [w5, ta (by rw [sk, m2]; omega), sk, m2]; omega
    have nx0 : v5.toNatClampNeg = ixC sb (k, num, 0) := by
      have := nc_i (x := v5) (by omega)
      show _ = sb k + 2 * num + 0
      omega
    have y51 : (v5 + (1 : Int32)).toInt = ((sb k + 2 * num + 1 : Nat) : Int) := by rw [ta (by rw [z1, y5]; omega), z1, y5]; omega
    have nx1 : (v5 + (1 : Int32)).toNatClampNeg = ixC sb (k, num, 1) := by
      have := nc_i (x := v5 + (1 : Int32)) (by omega)
      show _ = sb k + 2 * num + 1
      omega
    -- nothing to do here
    have skip : ∀ {u : Hp}, CtE n L N nk rk sb q wA lA qA nT W h0 (fun ν => Pd ν ∨ (ν.1 = k ∧ ν.2.1 < num)) u → (∀ s, s < 2 → ¬ RtA L N nk rk q (k, num, s)) → sX0_countAll_30 F K2 fu u (n + 62) x1 x2 (x3 + (1 : Int32)) = some o → Q o := fun {u} S' no e => by
      refine ih (num := num + 1) (cte_w S' (fun ν rt => ⟨fun z => ?_, fun z => ?_⟩)) (by rw [ta (by rw [z1]; omega), z1]; omega) (by omega) e
      · rcases z with z | z
        · exact Or.inl z
        · exact Or.inr ⟨z.1, by omega⟩
      · rcases z with z | ⟨y1, y2⟩
        · exact Or.inl z
        · by_cases w : ν.2.1 < num
          · exact Or.inr ⟨y1, w⟩
          · exfalso
            have eν : ν = (k, num, ν.2.2) := Prod.ext y1 (Prod.ext (show ν.2.1 = num by omega) rfl)
            rw [eν] at rt
            exact no _ rt.1.2.2 rt
    have go : sX0_countAll_73 F K2 (sX0_countAll_30 F K2 fu) h (n + 62) x1 x2 x3 v5 = some o → Q o := fun e => by
      unfold sX0_countAll_73 sX0_countAll_78 sX0_countAll_138 at e
      replace e := bn_e (show ¬ (1 : Int32) = 0 by decide) e
      replace e := ce_e (dk_e (a := 62) (f := 4) (b := 69) kh (by decide +kernel)) e
      replace e := gg_e e
      obtain ⟨y, e4, e⟩ := cl_s e
      rw [n1] at e4
      obtain ⟨S', st⟩ := cte_l hF E k0 S kN nb e3 e4
      rcases br_s e with ⟨c2, e⟩ | ⟨c2, e⟩
      · replace e := nx_e e
        have ns : ¬ StN L nk rk q k num := by
          rcases st with z | z
          · exact z.2
          · rw [z.1] at c2; exact absurd c2 (by decide)
        refine skip S' (fun s hs rt => ?_) e
        have m := mv _ (na s hs)
        rcases m with m | m
        · exact (mav_r E (na s hs) (mv _ (na s hs))).mp rt m.2
        · exact ns m.1
      · obtain ⟨_, _, Po⟩ := st.resolve_left (fun z => c2 z.1)
        refine cnt_105 (Pd := fun ν => Pd ν ∨ (ν.1 = k ∧ ν.2.1 < num)) (K := sX0_countAll_30 F K2 fu) (Q := Q) hF E mv k0 kN nb y5 (fun z w y => ?_) (fun {u} S2 e => ih (num := num + 1) (cte_w S2 (fun ν rt => ⟨fun z => ?_, fun z => ?_⟩)) (by rw [ta (by rw [z1]; omega), z1]; omega) (by omega) e) F (sd := 0) (cte_w S' (fun ν rt => ⟨fun z => Or.inl z, fun z => ?_⟩)) Po rfl (Nat.zero_le _) e
        · rcases w with w | w
          · exact np _ w y.1
          · have := w.2; have := y.2; omega
        · rcases z with (z | z) | z
          · exact Or.inl z
          · exact Or.inr ⟨z.1, by omega⟩
          · exact Or.inr ⟨z.1, by omega⟩
        · rcases z with z | ⟨y1, y2⟩
          · exact Or.inl (Or.inl z)
          · by_cases w : ν.2.1 < num
            · exact Or.inl (Or.inr ⟨y1, w⟩)
            · exact Or.inr ⟨y1, by omega⟩
        · rcases z with z | z
          · exact z
          · exact absurd z.2.2 (Nat.not_lt_zero _)
    replace e := ce_e T.1.1 e
    replace e := gg_e e
    rcases br_s e with ⟨c2, e⟩ | ⟨c2, e⟩ <;> rw [nx0] at c2
    · replace e := ce_e T.1.1 e
      replace e := gg_e e
      rcases br_s e with ⟨c3, e⟩ | ⟨c3, e⟩ <;> rw [nx1] at c3
      · unfold sX0_countAll_78 sX0_countAll_138 at e
        replace e := bp_e rfl e
        replace e := nx_e e
        refine skip S (fun s hs rt => ?_) e
        have r := (mav_r E (na s hs) (mv _ (na s hs))).mp rt
        have c : s = 0 ∨ s = 1 := by omega
        rcases c with c | c <;> subst c
        · exact r (by rw [← i2 _ (na 0 hs), c2]; rfl)
        · exact r (by rw [← i2 _ (na 1 hs), c3]; rfl)
      · exact go e
    · exact go e
theorem cnt_2 (hF : 700000 ≤ F) (E : LwE L N nk rk q) (mv : ∀ ν, NdA N nk q ν → MaV L nk rk q ν (W ν)) (k0 : DyK n h0 h0) : ∀ (fu : Nat) {h : Hp} {x1 : Int32} {k : Nat}, CtE n L N nk rk sb q wA lA qA nT W h0 (fun ν => ν.1 < k) h → x1.toInt = (k : Int) → k ≤ N → sX0_countAll_2 F fu h (n + 62) x1 = some o → CtE n L N nk rk sb q wA lA qA nT W h0 (fun _ => True) o := by
  have z1 : (1 : Int32).toInt = 1 := rfl
  intro fu
  induction fu with
  | zero => intro h x1 k _ _ _ e; exact absurd e (by rw [sX0_countAll_2]; exact fun z => nomatch z)
  | succ fu ih =>
    intro h x1 k S e1 kN e
    obtain ⟨⟨dk, Fr⟩, ⟨B, Bd⟩, _⟩ := id S
    have kh := dk.1 _ k0
    have Fc := B.1.2.1
    have N10 := Fc.1.1
    have e9 := Fc.1.2
    rw [sX0_countAll_2] at e
    rcases br_s e with ⟨c, e⟩ | ⟨c, e⟩
    · have c := le_i c
      rw [e9] at c
      rw [so_e e]
      exact cte_w S (fun ν rt => ⟨fun _ => trivial, fun _ => by have := rt.1.1; omega⟩)
    have c := nle_i c
    rw [e9] at c
    have n1 : x1.toNatClampNeg = k := by have := nc_i (x := x1) (by omega); omega
    have n2 : (x1 + (1 : Int32)).toNatClampNeg = k + 1 := by
      have a : (x1 + (1 : Int32)).toInt = (k : Int) + 1 := by rw [ta (by rw [z1]; omega), z1, e1]
      have := nc_i (x := x1 + (1 : Int32)) (by omega); omega
    have r5 := dk_e (a := 62) (f := 5) (b := 70) kh (by decide +kernel)
    replace e := ce_e r5 e
    replace e := gg_e e
    replace e := ce_e r5 e
    replace e := gg_e e
    obtain ⟨v6, w6, e⟩ := nm_s e
    rw [n1, n2] at w6
    have s1 := Fc.2.2.1 k (by omega)
    have s2 := Fc.2.2.1 (k + 1) (by omega)
    have sk := (Fc.2.1 k (by omega)).2
    have le := sbc_m Fc (show k + 1 ≤ N by omega) (Nat.le_refl _)
    have l6 := Fc.2.2.2.2
    have y6 : v6.toInt = ((q ^ nk k : Nat) : Int) := by
      rw [w6, ti_shr1, ts (by rw [s1, s2]; omega), s1, s2]; omega
    refine cnt_30 (Pd := fun ν => ν.1 < k) (Q := fun o => CtE n L N nk rk sb q wA lA qA nT W h0 (fun _ => True) o) hF E mv k0 (by omega) e1 y6 (by omega) (fun y z w => by have z : y.1 < k := z; omega) (fun {u} S' e => ih (k := k + 1) (cte_w S' (fun ν rt => ⟨fun z => ?_, fun z => ?_⟩)) (by rw [ta (by rw [z1]; omega), z1]; omega) (by omega) e) F (num := 0) (cte_w S (fun ν rt => ⟨fun z => Or.inl z, fun z => ?_⟩)) rfl (Nat.zero_le _) e
    · show ν.1 < k + 1
      rcases z with z | z
      · have z : ν.1 < k := z
        omega
      · omega
    · have z : ν.1 < k + 1 := z
      by_cases w : ν.1 = k
      · exact Or.inr w
      · exact Or.inl (show ν.1 < k by omega)
    · rcases z with z | z
      · exact z
      · exact absurd z.2 (Nat.not_lt_zero _)
end
end
section
/-! ENDINGS, the class: counts are settled; ends wait first -/
section
variable {n F N q wA lA qA nT k num sd : Nat} {h h0 o : Hp} {nk : Nat → Nat} {rk : Nat → Nat → Int} {sb : Nat → Nat} {L : Nat → Nat → Int} {x1 x2 x3 x4 x5 x6 : Int32} {Pd Pd' : Nod → Prop} {W : Nod → Int} {cO cT : Nod → Nat} {D : List Nod}
theorem bv_i {x : Int32} {k : Nat} (k3 : k < 2147483648) (e : x.toBitVec = BitVec.ofNat 32 k) : x.toInt = (k : Int) := by
  have a : x.toInt = x.toBitVec.toInt := rfl
  have m : k % 4294967296 = k := Nat.mod_eq_of_lt (by omega)
  have t : (BitVec.ofNat 32 k).toNat = k := by
    rw [BitVec.toNat_ofNat]; exact m
  rw [a, e, BitVec.toInt_eq_toNat_cond, t]
  rw [if_pos (by omega)]
/-- which moves count -/
def taB (L : Nat → Nat → Int) (cT : Nod → Nat) (ν : Nod) : Bool := decide (¬ L 16 0 = 0 ∧ 0 < cT ν)
def cnB (L : Nat → Nat → Int) (cO cT : Nod → Nat) (ν : Nod) : Nat := if taB L cT ν = true then cT ν else cT ν + cO ν
noncomputable def wB (L : Nat → Nat → Int) (nk : Nat → Nat) (rk : Nat → Nat → Int) (q : Nat) (W : Nod → Int) (cO cT : Nod → Nat) (ν : Nod) : Int := if W ν = 3000000 ∧ cnB L cO cT ν = 0 then (match v0A L nk rk q ν with | some w => w | none => 0) else W ν
theorem stl_k (C : ClL n h L) (kh : DyK n h h) (T : TRf n wA lA qA h) {i : Nat} {ν : Nod} (e1 : x1.toInt = (i : Int)) (l1 : (hI h lA i).toInt = ((cO ν + 4096 * cT ν : Nat) : Int)) (bd : cO ν + cT ν ≤ 3840) (e : sX0_settleCount h (n + 62) x1 = some o) : ∃ v : Int32, o = wI h lA i v ∧ v.toInt = (cnB L cO cT ν : Int) + (if taB L cT ν = true then 16777216 else 0) := by
  have z4 : (4096 : Int32).toInt = 4096 := rfl
  obtain ⟨⟨r1, r2, r3⟩, _⟩ := T
  have nx : x1.toNatClampNeg = i := by have := nc_i (x := x1) (by omega); omega
  unfold sX0_settleCount at e
  replace e := ce_e r2 e
  replace e := gg_e e
  obtain ⟨v3, w3, e⟩ := nm_s e
  replace e := ce_e r2 e
  replace e := gg_e e
  obtain ⟨v6, w6, e⟩ := nm_s e
  rw [nx] at w3 w6
  have y3 : v3.toInt = (cT ν : Int) := by
    rw [w3, td (a := 0) (b := 16777215) (c := 4096) (d := 4096) ⟨by omega, by omega⟩ ⟨by decide, by decide⟩ ⟨by decide, by decide⟩, l1, z4]
    omega
  have y6 : v6.toInt = (cO ν : Int) := by
    rw [w6, and_i (m := 12) (by omega) (by decide) rfl, l1]
    show _ % (4096 : Int) = _
    omega
  replace e := ce_e r2 e
  replace e := ce_e (dk_e (a := 62) (f := 0) (b := 5) kh (by decide +kernel)) e
  obtain ⟨o9, e9, e⟩ := cl_s e
  obtain ⟨t1, t2⟩ := has_v (V := vK n 0 0 0 0 0 0) e9
  rw [t1] at e
  have mu : (hI h (n + 5) 10) &&& (2 : Int32) = 0 ↔ L 16 0 = 0 := C.2.2.1.2.1.2.1
  have other : taB L cT ν = false → sX0_settleCount_49 h v3 v6 x1 lA = some o → ∃ v : Int32, o = wI h lA i v ∧ v.toInt = (cnB L cO cT ν : Int) + (if taB L cT ν = true then 16777216 else 0) := fun tf e => by
    unfold sX0_settleCount_49 sX0_settleCount_52 at e
    replace e := gg_e e
    obtain ⟨h2, u2, e⟩ := nm_s e
    rw [nx] at u2
    refine ⟨_, (so_e e).trans u2, ?_⟩
    unfold cnB
    rw [tf, if_neg (by decide), if_neg (by decide), ta (by omega), y3, y6]
    omega
  rcases br_s e with ⟨c9, e⟩ | ⟨c9, e⟩
  · have m0 : L 16 0 = 0 := by
      rcases t2 with ⟨_, t2⟩ | ⟨t2, _⟩
      · exact mu.mp t2
      · rw [t2] at c9; exact absurd c9 (by decide)
    exact other (decide_eq_false (fun z => z.1 m0)) e
  have m1 : ¬ L 16 0 = 0 := by
    rcases t2 with ⟨t2, _⟩ | ⟨_, t2⟩
    · exact absurd t2 c9
    · exact fun z => t2 (mu.mpr z)
  rcases br_s e with ⟨c3, e⟩ | ⟨c3, e⟩
  · have c3 := le_i c3
    have z0 : (0 : Int32).toInt = 0 := rfl
    rw [y3, z0] at c3
    exact other (decide_eq_false (fun z => by have := z.2; omega)) e
  · have c3 := nle_i c3
    have z0 : (0 : Int32).toInt = 0 := rfl
    rw [y3, z0] at c3
    have tt : taB L cT ν = true := decide_eq_true ⟨m1, by omega⟩
    unfold sX0_settleCount_52 at e
    replace e := gg_e e
    obtain ⟨h2, u2, e⟩ := nm_s e
    rw [nx] at u2
    refine ⟨_, (so_e e).trans u2, ?_⟩
    unfold cnB
    rw [tt, if_pos rfl, if_pos rfl, or_i (x := v3) (y := (16777216 : Int32)) (m := 24) (z := 1) (by omega) (by rw [y3]; show _ < (16777216 : Int); omega) (by decide) rfl (by rw [y3]; show _ + (16777216 : Int) ≤ _; omega), y3]
    rfl
/-- while they are queued -/
def QeE (n : Nat) (L : Nat → Nat → Int) (N : Nat) (nk : Nat → Nat) (rk : Nat → Nat → Int) (sb : Nat → Nat) (q wA lA qA nT : Nat) (W : Nod → Int) (cO cT : Nod → Nat) (h0 : Hp) (Pd : Nod → Prop) (h : Hp) : Prop := (DkT n h0 h ∧ FrW (WAe n wA lA qA) h0 h) ∧ (SbE n h L N nk rk sb q wA lA qA nT ∧ BdE n h) ∧ (∀ ν, NdA N nk q ν → (Pd ν → (hI h wA (ixC sb ν)).toInt = wB L nk rk q W cO cT ν ∧ (W ν = 3000000 → (hI h lA (ixC sb ν)).toInt = (cnB L cO cT ν : Int) + (if taB L cT ν = true then 16777216 else 0))) ∧ (¬ Pd ν → (hI h wA (ixC sb ν)).toInt = W ν ∧ (W ν = 3000000 → (hI h lA (ixC sb ν)).toInt = ((cO ν + 4096 * cT ν : Nat) : Int)))) ∧ ∃ Q : List Nod, Q.Nodup ∧ (∀ ν, ν ∈ Q ↔ (NdA N nk q ν ∧ Pd ν ∧ (wB L nk rk q W cO cT ν = 1000000 ∨ wB L nk rk q W cO cT ν = -1000000))) ∧ (hI h (n + 62) 16).toInt = (Q.length : Int) ∧ ∀ (j : Nat) (ν : Nod), Q[j]? = some ν → (hI h qA j).toInt = (ixC sb ν : Int)
theorem qee_w (S : QeE n L N nk rk sb q wA lA qA nT W cO cT h0 Pd h) (w : ∀ ν, NdA N nk q ν → (Pd ν ↔ Pd' ν)) : QeE n L N nk rk sb q wA lA qA nT W cO cT h0 Pd' h := by
  obtain ⟨a, b, c, Q, d, e, f⟩ := S
  refine ⟨a, b, fun ν na => ⟨fun z => (c ν na).1 ((w ν na).mpr z), fun z => (c ν na).2 (fun y => z ((w ν na).mp y))⟩, Q, d, fun ν => ?_, f⟩
  rw [e]
  exact ⟨fun z => ⟨z.1, (w ν z.1).mp z.2.1, z.2.2⟩, fun z => ⟨z.1, (w ν z.1).mpr z.2.1, z.2.2⟩⟩
end
end
