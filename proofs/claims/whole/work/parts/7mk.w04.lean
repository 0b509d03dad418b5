section
/-! SEES, the reference -/
section
variable {n j F : Nat} {h : Hp} {σ : Sy} {o : Int32 × Hp} {x1 x2 x3 : Int32}
theorem sb_m {b t w : Nat} {own : Nat → Nat} {L : Nat → Nat → Int} {P : Pz} {g : Hp} {o : Int64 × Hp} {d : Nat} (k : DyK n g h) (O : OwS n h own) (hw : w = 516 ∨ w = 526) (bb : BkE own h b 4 t) (nt : 200 ≤ t ∧ t < 20000) (H : LOk L) (Oz : PzOk L P) (C : RfL n h (n + w) L) (A : RbA h b P) (e2 : x2.toInt = (d : Int)) (hd : d < 2) (e : sX15_seenBy F h (n + 513) b x2 = some o) : FrW (RS n) h o.2 ∧ DyK n g o.2 ∧ ∀ q, q < 64 → (bitJ o.1 q = true ↔ SeeM L P d 64 q) := by
  have D : VD (vM n (hS h) b (hS h + 1000 * 5) (hS h + 1000 * 6) (hS h + 1000 * 7) (n + w)) := vd_m O bb (bke_o (c := 5)) (bke_o (c := 6)) (bke_o (c := 7)) (bk_lw O hw) (by split <;> omega)
  have W0 : RW0 (vM n (hS h) b (hS h + 1000 * 5) (hS h + 1000 * 6) (hS h + 1000 * 7) (n + w)) h L := rfl_m.mpr C
  obtain ⟨f, c⟩ := sb_r D H Oz W0 (rba_m.mpr A) ⟨dk_e (a := 513) (f := 25) (b := 544) k (by decide +kernel), dk_e (a := 513) (f := 26) (b := 545) k (by decide +kernel), dk_e (a := 513) (f := 27) (b := 546) k (by decide +kernel)⟩ e2 hd e
  have k3 := dk_X15_seenBy (dk_self k) e
  exact ⟨fw_v (W := RS n) (sb := rsB) (cs := []) f (hs_g k3.1) (by decide +kernel) (fun j f i z y => rsb_c z y) (fun c hc => absurd hc (List.not_mem_nil)), dk_X15_seenBy k e, c⟩
theorem bit_zer {a : Int64} {x : Int32} (i : Rg 0 63 x) (b : bitJ a x.toNatClampNeg = false) : (a >>> (x.toInt64 &&& 63)) &&& (1 : Int64) = 0 := by
  apply Int64.toBitVec_inj.mp
  apply BitVec.eq_of_getLsbD_eq
  intro j hj
  show bitJ ((a >>> (x.toInt64 &&& 63)) &&& (1 : Int64)) j = bitJ (0 : Int64) j
  rw [bj_and, bj_zero]
  have all : ∀ j : Fin 64, bitJ (1 : Int64) j.val = true → j.val = 0 := by decide +kernel
  cases q : bitJ (1 : Int64) j with
  | false => rw [Bool.and_false]
  | true =>
    have z : j = 0 := all ⟨j, hj⟩ q
    rw [z, bit_shr i, b]; rfl
theorem ra_see (k : DyK n h h) (Ok : SyOk σ) (R : RelR n j h σ) (e : sX15_sees F h (n + 513) x1 x2 x3 = some o) : RaO n j h σ o (anSee σ x1 x2 x3) := by
  have z0 : (0 : Int32).toInt = 0 := rfl
  have z1 : (1 : Int32).toInt = 1 := rfl
  have sq := (squ_r R.1).1
  unfold sX15_sees sX15_sees_21 sX15_sees_53 at e
  unfold anSee
  have no : ¬ (sqI σ x3 ∧ sdI x2) → ∀ {o : Int32 × Hp}, o = ((-101 : Int32), h) → RaO n j h σ o (if prB' (sqI σ x3 ∧ sdI x2) = true then plE σ x1 (-102) (fun P => if prB' (SeeM (syL σ) P x2.toInt.toNat 64 x3.toNatClampNeg) = true then 1 else 0) else -101) := fun u {o} v => by
    rw [v, prb_f.mpr u, if_neg (by decide)]
    exact rao_0 k R rfl rfl
  rcases br_s e with ⟨c3, e⟩ | ⟨c3, e⟩
  · have := lt_i c3
    exact no (fun z => by
      rcases z.2 with y | y <;> (rw [y] at this; exact absurd this (by decide))) (so_e e)
  have c3 := nlt_i c3
  rcases br_s e with ⟨c4, e⟩ | ⟨c4, e⟩
  · have := lt_i c4
    exact no (fun z => by
      rcases z.2 with y | y <;> (rw [y] at this; exact absurd this (by decide))) (so_e e)
  have c4 := nlt_i c4
  rcases br_s e with ⟨c, e⟩ | ⟨c, e⟩
  · have := lt_i c
    exact no (fun z => by have := z.1; unfold sqI at this; omega) (so_e e)
  have c := nlt_i c
  rcases br_s e with ⟨c2, e⟩ | ⟨c2, e⟩
  rotate_left
  · have := nlt_i c2
    exact no (fun z => by have := z.1; unfold sqI at this; omega) (so_e e)
  have c2 := lt_i c2
  have d4 : sdI x2 := by
    have : x2.toInt = 0 ∨ x2.toInt = 1 := by omega
    rcases this with y | y
    · exact Or.inl (Int32.toInt_inj.mp (y.trans z0.symm))
    · exact Or.inr (Int32.toInt_inj.mp (y.trans z1.symm))
  have d2 : sqI σ x3 := ⟨by omega, by omega⟩
  rw [prb_e.mpr ⟨d2, d4⟩, if_pos rfl]
  obtain ⟨o3, e3, e⟩ := cl_s e
  obtain ⟨q3, c3⟩ := has_r k R.2.1 e3
  rw [q3] at e
  rcases c3 with ⟨d5, d6⟩ | ⟨d5, P, d6⟩
  · rw [so_e (bp_e d5 e), ple_n d6]
    exact rao_0 k R rfl rfl
  replace e := bn_e d5 e
  rw [ple_s d6]
  obtain ⟨_, _, b3, _⟩ := spl_b d6
  obtain ⟨b, eb, A⟩ := rpl_p R.2.1 d6
  replace e := ce_e (dk_e (a := 513) (f := 14) (b := 536) k (by decide +kernel)) e
  replace e := gg_e e
  replace e := ce_e eb e
  obtain ⟨o10, e10, e⟩ := cl_s e
  obtain ⟨own, Dw⟩ := k.1.1
  obtain ⟨w, hw, _, _, C⟩ := R.1
  obtain ⟨f, k', c11⟩ := sb_m k Dw.1 hw (bke_p Dw b3 eb) (by omega) Ok.1.1 (spl_ok Ok d6) C A (sdi_n d4).1 (sdi_n d4).2 e10
  have s64 := (sq_64 Ok.1.1).2
  have nc := nc_i d2.1
  have l2 := d2.2
  have b := c11 x3.toNatClampNeg (by omega)
  have ix : Rg 0 63 x3 := ⟨by omega, by omega⟩
  cases u : bitJ o10.1 x3.toNatClampNeg with
  | false =>
    rw [bit_zer ix u] at e
    have nn : ¬ SeeM (syL σ) P x2.toInt.toNat 64 x3.toNatClampNeg := fun z => by rw [b.mpr z] at u; exact nomatch u
    rw [so_e e, prb_f.mpr nn, if_neg (by decide)]
    exact rao_s (o := ((0 : Int64).toInt32, o10.2)) k Ok R f k' rfl
  | true =>
    rw [cmp_eq (bit_tst ix u)] at e
    rw [so_e e, prb_e.mpr (b.mp u), if_pos rfl]
    exact rao_s (o := ((1 : Int64).toInt32, o10.2)) k Ok R f k' rfl
end
end
section
/-! what counts of a game: GAME and BOOK, the class -/
/-- place k of game g counts: the same position; with a move, that move made there -/
def alk (σ : Sy) (P : Pz) (mv : Int) (g k : Nat) : Prop := (mv = -1 ∨ ((k : Int) < syG σ g ∧ syMv σ (301 * g + k) = mv)) ∧ SamP (syL σ) P (syQ σ (301 * g + k))
noncomputable def cnt (σ : Sy) (P : Pz) (mv : Int) (g : Nat) : Nat → Int
  | 0 => 0
  | k + 1 => cnt σ P mv g k + (if prB' (alk σ P mv g k) = true then 1 else 0)
noncomputable def cntA (σ : Sy) (P : Pz) (mv : Int) (g : Nat) : Int := cnt σ P mv g (syG σ g + 1).toNat
theorem cnt_b {σ : Sy} {P : Pz} {mv : Int} {g : Nat} : ∀ k, 0 ≤ cnt σ P mv g k ∧ cnt σ P mv g k ≤ (k : Int)
  | 0 => ⟨Int.le_refl _, Int.le_refl _⟩
  | k + 1 => by
    have := cnt_b (σ := σ) (P := P) (mv := mv) (g := g) k
    show 0 ≤ cnt σ P mv g k + _ ∧ cnt σ P mv g k + _ ≤ _
    split <;> omega
theorem cnt_t {σ : Sy} {P : Pz} {mv : Int} {g k : Nat} (a : alk σ P mv g k) : cnt σ P mv g (k + 1) = cnt σ P mv g k + 1 := by
  show cnt σ P mv g k + _ = _
  rw [prb_e.mpr a, if_pos rfl]
theorem cnt_f {σ : Sy} {P : Pz} {mv : Int} {g k : Nat} (a : ¬ alk σ P mv g k) : cnt σ P mv g (k + 1) = cnt σ P mv g k := by
  show cnt σ P mv g k + _ = _
  rw [prb_f.mpr a, if_neg (by decide)]
  omega
/-- over games -/
noncomputable def cntS (σ : Sy) (P : Pz) (mv : Int) : Nat → Int
  | 0 => 0
  | g + 1 => cntS σ P mv g + cntA σ P mv g
theorem cntS_b {σ : Sy} {P : Pz} {mv : Int} (Ok : SyOk σ) : ∀ g, g ≤ 8 → 0 ≤ cntS σ P mv g ∧ cntS σ P mv g ≤ 301 * (g : Int)
  | 0, _ => ⟨Int.le_refl _, Int.le_refl _⟩
  | g + 1, hg => by
    have := cntS_b (σ := σ) (P := P) (mv := mv) Ok g (by omega)
    have b := cnt_b (σ := σ) (P := P) (mv := mv) (g := g) (syG σ g + 1).toNat
    have c := (Ok.2.2.1 g (by omega)).1
    show 0 ≤ cntS σ P mv g + cnt σ P mv g _ ∧ cntS σ P mv g + cnt σ P mv g _ ≤ _
    omega
/-- a position that is kept, in the class -/
def CPs (n : Nat) (h : Hp) (σ : Sy) (p t : Nat) (P : Pz) : Prop := (∃ i, i < 60 ∧ p = n + (153 + 6 * i) ∧ t = 30 + i ∧ syP σ i = some P) ∨ ∃ g k : Nat, g < 8 ∧ (k : Int) ≤ syG σ g ∧ hR h (n + 150) (301 * g + k) = some p ∧ t = 1000 + (301 * g + k) ∧ P = syQ σ (301 * g + k)
section
variable {n F : Nat} {h : Hp} {σ : Sy} {o : Int32 × Hp} {x1 x2 x3 : Int32}
theorem cps_k {p t : Nat} {P : Pz} {h' : Hp} (k : DyK n h h') (C : CPs n h σ p t P) : CPs n h' σ p t P := by
  rcases C with c | ⟨g, i, c1, c2, c3, c4, c5⟩
  · exact Or.inl c
  · exact Or.inr ⟨g, i, c1, c2, ks_r k (q := (150, 2408, 6, 1000, fsP)) (by decide) c3, c4, c5⟩
theorem cps_a {p t : Nat} {P : Pz} {own : Nat → Nat} (Dw : DnS n h own) (Ok : SyOk σ) (R : RelC n h σ) (C : CPs n h σ p t P) : CpA h p (syL σ 10 0) P ∧ PzOk (syL σ) P ∧ BkE own h p 1 t ∧ 10 ≤ t ∧ t < 20000 := by
  rcases C with ⟨i, hi, ep, et, es⟩ | ⟨g, i, c1, c2, c3, c4, c5⟩
  · subst ep
    subst et
    refine ⟨?_, Ok.2.1 i hi P es, bk_pl Dw.1 hi, by omega, by omega⟩
    rcases R.2.1 i hi with ⟨a, _⟩ | ⟨Q, a, _, p4⟩
    · rw [a] at es; exact nomatch es
    · rw [a] at es
      rw [← Option.some.inj es]
      exact p4
  · have lg := lgle Ok g c1
    obtain ⟨⟨a, ea, A⟩, _⟩ := (R.2.2.1 g c1).2 i c2
    have y := r_eq c3 ea
    subst y
    subst c4
    subst c5
    obtain ⟨_, d2, _⟩ := bk_dy Dw (q := (150, 2408, 6, 1000, fsP)) (by decide) (show 301 * g + i < 2408 by omega) ea
    exact ⟨A, (Ok.2.2.1 g c1).2 i c2, Or.inl ⟨d2, by omega, by omega⟩, by omega, by omega⟩
theorem cps_2 {p t q t' : Nat} {P Q : Pz} (Ok : SyOk σ) (C : CPs n h σ p t P) (E : CPs n h σ q t' Q) : (t = t' ∧ p = q ∧ P = Q) ∨ ¬ t = t' := by
  by_cases z : t = t'
  · left
    refine ⟨z, ?_⟩
    rcases C with ⟨i, hi, ep, et, es⟩ | ⟨g, i, c1, c2, c3, c4, c5⟩
    · rcases E with ⟨i', hi', ep', et', es'⟩ | ⟨g', i', c1', c2', c3', c4', c5'⟩
      · have y : i = i' := by omega
        subst y
        rw [es] at es'
        exact ⟨ep.trans ep'.symm, Option.some.inj es'⟩
      · omega
    · rcases E with ⟨i', hi', ep', et', es'⟩ | ⟨g', i', c1', c2', c3', c4', c5'⟩
      · omega
      · have lg := lgle Ok g c1
        have lg' := lgle Ok g' c1'
        have y : 301 * g + i = 301 * g' + i' := by omega
        rw [y] at c3 c5
        rw [c3] at c3'
        exact ⟨Option.some.inj c3', c5.trans c5'.symm⟩
  · exact Or.inr z
theorem ct_6 {p t : Nat} {P : Pz} (Ok : SyOk σ) (d : gmI x1) : ∀ (f : Nat) {h : Hp} {x4 x5 : Int32} {q : Nat}, DyK n h h → RelC n h σ → CPs n h σ p t P → x5.toInt = (q : Int) → (q : Int) ≤ syG σ x1.toNatClampNeg + 1 → x4.toInt = cnt σ P x3.toInt x1.toNatClampNeg q → sX11_countAlike_6 F f h n x1 p x3 x4 x5 = some o → CaO n h σ o (cntA σ P x3.toInt x1.toNatClampNeg) := by
  have z1 : (1 : Int32).toInt = 1 := rfl
  have zm : (-1 : Int32).toInt = -1 := rfl
  have n10 : ¬ (1 : Int32) = 0 := by decide
  obtain ⟨g8, gn⟩ := gmi_n d
  have lg := lgle Ok _ g8
  intro f
  induction f with
  | zero => intro h x4 x5 q _ _ _ _ _ _ e; exact absurd e (by rw [sX11_countAlike_6]; exact fun z => nomatch z)
  | succ f ih =>
    intro h x4 x5 q k R C e5 lq e4 e
    rw [sX11_countAlike_6] at e
    have G := R.2.2.1 _ g8
    have W := dk_e (a := 0) (f := 17) (b := 152) k (by decide +kernel)
    have cb := cnt_b (σ := σ) (P := P) (mv := x3.toInt) (g := x1.toNatClampNeg) q
    replace e := ce_e W e
    replace e := gg_e e
    rcases br_s e with ⟨c, e⟩ | ⟨c, e⟩
    · have c := lt_i c
      have c : (hI h (n + 152) x1.toNatClampNeg).toInt < x5.toInt := c
      rw [G.1] at c
      rw [so_e e]
      refine cao_0 k R rfl ?_
      show x4.toInt = cnt σ P x3.toInt x1.toNatClampNeg _
      rw [show (syG σ x1.toNatClampNeg + 1).toNat = q by omega]
      exact e4
    have c := nlt_i c
    have c : ¬ (hI h (n + 152) x1.toNatClampNeg).toInt < x5.toInt := fun z => absurd c (by omega)
    rw [G.1] at c
    have ql : (q : Int) ≤ syG σ x1.toNatClampNeg := by omega
    obtain ⟨⟨a, ea, A⟩, Mv⟩ := G.2 q ql
    have nxt : ∀ {h' : Hp} {v : Int32}, DyK n h h' → FrC n h h' → RelC n h' σ → v.toInt = cnt σ P x3.toInt x1.toNatClampNeg (q + 1) → sX11_countAlike_83 F (sX11_countAlike_6 F f) h' n x1 p x3 v x5 = some o → CaO n h σ o (cntA σ P x3.toInt x1.toNatClampNeg) := fun {h' v} k' f' R' ev e => by
      unfold sX11_countAlike_83 at e
      exact ca_mono k' f' (ih (q := q + 1) (dk_self k') R' (cps_k k' C) (by
        rw [ta (by rw [z1]; omega), z1]; omega) (by omega) ev (nx_e e))
    have look : (x3.toInt = -1 ∨ ((q : Int) < syG σ x1.toNatClampNeg ∧ syMv σ (301 * x1.toNatClampNeg + q) = x3.toInt)) → sX11_countAlike_50 F (sX11_countAlike_6 F f) h n x1 p x3 x4 x5 = some o → CaO n h σ o (cntA σ P x3.toInt x1.toNatClampNeg) := fun y e => by
      unfold sX11_countAlike_50 sX11_countAlike_55 at e
      replace e := bn_e n10 e
      replace e := ce_e (dk_e (a := 0) (f := 6) (b := 30) k (by decide +kernel)) e
      obtain ⟨o3, e3, e⟩ := cl_s e
      rw [pg_l (P := P) k d rfl e5 (by omega) ea e3] at e
      unfold sX11_countAlike_74 at e
      obtain ⟨o4, e4', e⟩ := cl_s e
      obtain ⟨own, Dw⟩ := k.1.1
      have Ca : CPs n h σ a (1000 + (301 * x1.toNatClampNeg + q)) (syQ σ (301 * x1.toNatClampNeg + q)) := Or.inr ⟨_, q, g8, ql, ea, rfl, rfl⟩
      obtain ⟨a1, a2, a3, a4⟩ := cps_a Dw Ok R C
      obtain ⟨b1, b2, b3, b4⟩ := cps_a Dw Ok R Ca
      obtain ⟨fr, k', cc⟩ := al_k k Dw.1 a3 b3 ⟨a4.1, a4.2, b4.1, b4.2⟩ (cps_2 Ok C Ca) Ok.1.1 Ok.1.2.1 a2 b2 R.1 a1 b1 e4'
      have R' := relc_cs k Ok R fr k'
      have f' : FrC n h o4.2 := frc_w k fr (fun a i c _ => Or.inl (cs_c c))
      unfold sX11_countAlike_77 at e
      rcases cc with ⟨u, v⟩ | ⟨u, v⟩
      · exact nxt k' f' R' (by rw [cnt_f (fun z => v z.2)]; exact e4) (bp_e u e)
      · exact nxt k' f' R' (by rw [cnt_t ⟨y, v⟩, ta (by rw [z1]; omega), z1, e4]) (nx_e (bn_e (by rw [u]; decide) e))
    have skip : ¬ (x3.toInt = -1 ∨ ((q : Int) < syG σ x1.toNatClampNeg ∧ syMv σ (301 * x1.toNatClampNeg + q) = x3.toInt)) → sX11_countAlike_54 F (sX11_countAlike_6 F f) h n x1 p x3 x4 x5 = some o → CaO n h σ o (cntA σ P x3.toInt x1.toNatClampNeg) := fun y e => by
      unfold sX11_countAlike_54 sX11_countAlike_55 at e
      exact nxt k frc_0 R (by rw [cnt_f (fun z => y z.1)]; exact e4) (bp_e rfl e)
    rcases br_s e with ⟨c1, e⟩ | ⟨c1, e⟩
    · have c1 : x3 = -1 := c1
      exact look (Or.inl (by rw [c1]; rfl)) e
    have c1 := ne_i c1
    have c1 : ¬ x3.toInt = -1 := c1
    replace e := ce_e W e
    replace e := gg_e e
    rcases br_s e with ⟨c2, e⟩ | ⟨c2, e⟩
    · have c2 := le_i c2
      have c2 : (hI h (n + 152) x1.toNatClampNeg).toInt ≤ x5.toInt := c2
      rw [G.1] at c2
      exact skip (fun z => by omega) e
    have c2 := nle_i c2
    have c2 : ¬ (hI h (n + 152) x1.toNatClampNeg).toInt ≤ x5.toInt := fun z => absurd c2 (by omega)
    rw [G.1] at c2
    have mv := Mv (by omega)
    replace e := ce_e (dk_e (a := 0) (f := 16) (b := 151) k (by decide +kernel)) e
    replace e := gg_e e
    rw [(ix_g d e5 (by omega)).2] at e
    rcases br_s e with ⟨c3, e⟩ | ⟨c3, e⟩
    · have c3 : hI h (n + 151) (301 * x1.toNatClampNeg + q) = x3 := c3
      rw [c3] at mv
      exact look (Or.inr ⟨by omega, mv.symm⟩) e
    · have c3 := ne_i c3
      have c3 : ¬ (hI h (n + 151) (301 * x1.toNatClampNeg + q)).toInt = x3.toInt := c3
      rw [mv] at c3
      exact skip (fun z => z.elim c1 (fun z => c3 z.2)) e
theorem ct_c {p t : Nat} {P : Pz} (k : DyK n h h) (Ok : SyOk σ) (R : RelC n h σ) (d : gmI x1) (C : CPs n h σ p t P) (e : sX11_countAlike F h n x1 p x3 = some o) : CaO n h σ o (cntA σ P x3.toInt x1.toNatClampNeg) := by
  have := (Ok.2.2.1 _ (gmi_n d).1).1
  exact ct_6 Ok d F (q := 0) k R C rfl (by omega) rfl e
/-- game -/
noncomputable def anGam (σ : Sy) (x1 x2 : Int32) : Int := if prB' (gmI x1 ∧ 0 ≤ x2.toInt ∧ x2.toInt ≤ 3) = true then (if syG σ x1.toNatClampNeg = -1 then -102 else if x2.toInt = 0 then syG σ x1.toNatClampNeg else if x2.toInt = 1 then cntA σ (syQ σ (301 * x1.toNatClampNeg + (syG σ x1.toNatClampNeg).toNat)) (-1) x1.toNatClampNeg else if x2.toInt = 2 then (if 100 ≤ pzK (syQ σ (301 * x1.toNatClampNeg + (syG σ x1.toNatClampNeg).toNat)) ∨ 3 ≤ cntA σ (syQ σ (301 * x1.toNatClampNeg + (syG σ x1.toNatClampNeg).toNat)) (-1) x1.toNatClampNeg then 1 else 0) else (enE (syL σ) (syQ σ (301 * x1.toNatClampNeg + (syG σ x1.toNatClampNeg).toNat))).1) else -101
theorem ca_game (k : DyK n h h) (Ok : SyOk σ) (R : RelC n h σ) (e : sX11_game F h n x1 x2 = some o) : CaO n h σ o (anGam σ x1 x2) := by
  have z0 : (0 : Int32).toInt = 0 := rfl
  have z1 : (1 : Int32).toInt = 1 := rfl
  have z2 : (2 : Int32).toInt = 2 := rfl
  have z3 : (3 : Int32).toInt = 3 := rfl
  have z100 : (100 : Int32).toInt = 100 := rfl
  unfold sX11_game sX11_game_4 sX11_game_16 at e
  unfold anGam
  obtain ⟨o1, e1, e⟩ := cl_s e
  obtain ⟨q1, c1⟩ := isg_c e1
  rw [q1] at e
  rcases c1 with ⟨d1, d2⟩ | ⟨d1, d2⟩
  · rw [so_e (bp_e d1 e), prb_f.mpr (fun z => d2 z.1), if_neg (by decide)]
    exact cao_0 k R rfl rfl
  replace e := bn_e d1 e
  rcases br_s e with ⟨c3, e⟩ | ⟨c3, e⟩
  · have := lt_i c3
    rw [so_e e, prb_f.mpr (fun z => by omega), if_neg (by decide)]
    exact cao_0 k R rfl rfl
  have c3 := nlt_i c3
  rcases br_s e with ⟨c4, e⟩ | ⟨c4, e⟩
  rotate_left
  · have := nle_i c4
    rw [so_e e, prb_f.mpr (fun z => by omega), if_neg (by decide)]
    exact cao_0 k R rfl rfl
  have c4 := le_i c4
  rw [prb_e.mpr ⟨d2, by omega, by omega⟩, if_pos rfl]
  obtain ⟨g8, gn⟩ := gmi_n d2
  have G := R.2.2.1 _ g8
  have Gb := (Ok.2.2.1 _ g8).1
  replace e := ce_e (dk_e (a := 0) (f := 17) (b := 152) k (by decide +kernel)) e
  replace e := gg_e e
  replace e := nx_e e
  rcases br_s e with ⟨c, e⟩ | ⟨c, e⟩
  · have c : (hI h (n + 152) x1.toNatClampNeg).toInt = -1 := by
      have : hI h (n + 152) x1.toNatClampNeg = -1 := c
      rw [this]; rfl
    rw [so_e e, if_pos (by rw [← G.1]; exact c)]
    exact cao_0 k R rfl rfl
  have c := ne_i c
  have c : ¬ (hI h (n + 152) x1.toNatClampNeg).toInt = -1 := c
  rw [G.1] at c
  rw [if_neg c]
  have sl : syG σ x1.toNatClampNeg = ((syG σ x1.toNatClampNeg).toNat : Int) := by omega
  obtain ⟨⟨a, ea, A⟩, _⟩ := G.2 (syG σ x1.toNatClampNeg).toNat (by omega)
  obtain ⟨o8, e8, e⟩ := cl_s e
  rw [pg_l (P := syQ σ 0) k d2 rfl (G.1.trans sl) (by omega) ea e8] at e
  have Ca : CPs n h σ a (1000 + (301 * x1.toNatClampNeg + (syG σ x1.toNatClampNeg).toNat)) (syQ σ (301 * x1.toNatClampNeg + (syG σ x1.toNatClampNeg).toNat)) := Or.inr ⟨_, _, g8, by omega, ea, rfl, rfl⟩
  have ck : (hI h a 6).toInt = pzK (syQ σ (301 * x1.toNatClampNeg + (syG σ x1.toNatClampNeg).toNat)) := A.2.2.2.2.2.2.2
  unfold sX11_game_40 sX11_game_116 sX11_game_78 sX11_game_101 sX11_game_97 sX11_game_106 sX11_game_101 sX11_game_106 at e
  rcases br_s e with ⟨c0, e⟩ | ⟨c0, e⟩
  · have c0 : x2 = 0 := c0
    rw [so_e e, c0, if_pos z0]
    exact cao_0 k R rfl G.1
  have c0 := ne_i c0
  rw [if_neg (show ¬ x2.toInt = 0 from c0)]
  rcases br_s e with ⟨c1, e⟩ | ⟨c1, e⟩
  · have c1 : x2 = 1 := c1
    rw [c1, if_pos z1]
    obtain ⟨o9, e9, e⟩ := cl_s e
    rw [so_e e]
    exact ct_c k Ok R d2 Ca e9
  have c1 := ne_i c1
  rw [if_neg (show ¬ x2.toInt = 1 from c1)]
  rcases br_s e with ⟨c2, e⟩ | ⟨c2, e⟩
  · have c2 : x2 = 2 := c2
    rw [c2, if_pos z2]
    rcases br_s e with ⟨c5, e⟩ | ⟨c5, e⟩
    · have c5 := le_i c5
      have c5 : (100 : Int32).toInt ≤ (hI h a 6).toInt := c5
      rw [so_e e, if_pos (Or.inl (by omega))]
      exact cao_0 k R rfl rfl
    have c5 := nle_i c5
    have c5 : (hI h a 6).toInt < (100 : Int32).toInt := c5
    obtain ⟨o9, e9, e⟩ := cl_s e
    have y := ct_c k Ok R d2 Ca e9
    have y : CaO n h σ o9 (cntA σ (syQ σ (301 * x1.toNatClampNeg + (syG σ x1.toNatClampNeg).toNat)) (-1) x1.toNatClampNeg) := y
    have y1 := y.1
    rcases br_s e with ⟨c6, e⟩ | ⟨c6, e⟩
    · have c6 := lt_i c6
      rw [so_e e, if_neg (fun z => by omega)]
      exact ⟨rfl, y.2⟩
    · have c6 := nlt_i c6
      rw [so_e e, if_pos (Or.inr (by omega))]
      exact ⟨rfl, y.2⟩
  have c2 := ne_i c2
  rw [if_neg (show ¬ x2.toInt = 2 from c2)]
  replace e := ce_e (dk_e (a := 0) (f := 6) (b := 30) k (by decide +kernel)) e
  obtain ⟨o9, e9, e⟩ := cl_s e
  obtain ⟨own, Dw⟩ := k.1.1
  obtain ⟨a1, a2, a3, a4⟩ := cps_a Dw Ok R Ca
  obtain ⟨f, k', c9⟩ := en_k k Dw.1 a3 ⟨by omega, by omega, by omega⟩ Ok.1.1 Ok.1.2.1 a2 R.1 a1 e9
  rw [so_e e]
  exact cao_s (o := (o9.1, o9.2)) k Ok R f k' c9
/-- book -/
noncomputable def anBok (σ : Sy) (x1 x2 : Int32) : Int := plE σ x1 (-102) (fun P => if prB' (x2.toInt = -1 ∨ (0 ≤ x2.toInt ∧ x2.toInt < ((lgL (syL σ) P).length : Int))) = true then cntS σ P x2.toInt 8 else -102)
theorem bk_34 {P : Pz} (Ok : SyOk σ) (s : sPl σ x1 = some P) : ∀ (f : Nat) {h : Hp} {x3 x4 : Int32} {q : Nat}, DyK n h h → RelC n h σ → x4.toInt = (q : Int) → q ≤ 8 → x3.toInt = cntS σ P x2.toInt q → sX11_book_34 F f h n x1 x2 x3 x4 = some o → CaO n h σ o (cntS σ P x2.toInt 8) := by
  have z1 : (1 : Int32).toInt = 1 := rfl
  have z8 : (8 : Int32).toInt = 8 := rfl
  intro f
  induction f with
  | zero => intro h x3 x4 q _ _ _ _ _ e; exact absurd e (by rw [sX11_book_34]; exact fun z => nomatch z)
  | succ f ih =>
    intro h x3 x4 q k R e4 lq e3 e
    rw [sX11_book_34] at e
    obtain ⟨_, _, b3, b4⟩ := spl_b s
    rcases br_s e with ⟨c, e⟩ | ⟨c, e⟩
    · have c := le_i c
      rw [so_e e]
      refine cao_0 k R rfl ?_
      rw [show (8 : Nat) = q by omega]
      exact e3
    have c := nle_i c
    replace e := ce_e (dk_e (a := 0) (f := 13) (b := 148) k (by decide +kernel)) e
    replace e := gg_e e
    obtain ⟨r8, e8, e⟩ := cl_s e
    have y8 := pl_at k b3 e8
    subst y8
    obtain ⟨o5, e5, e⟩ := cl_s e
    have d : gmI x4 := ⟨by omega, by omega⟩
    have q4 : x4.toNatClampNeg = q := by have := (gmi_n d).2; omega
    have y := ct_c k Ok R d (Or.inl ⟨_, b3, rfl, rfl, b4⟩) e5
    rw [q4] at y
    have y1 := y.1
    have B := cntS_b (σ := σ) (P := P) (mv := x2.toInt) Ok q (by omega)
    have B' := cntS_b (σ := σ) (P := P) (mv := x2.toInt) Ok (q + 1) (by omega)
    have B' : 0 ≤ cntS σ P x2.toInt q + cntA σ P x2.toInt q ∧ cntS σ P x2.toInt q + cntA σ P x2.toInt q ≤ 301 * ((q + 1 : Nat) : Int) := B'
    unfold sX11_book_55 at e
    exact ca_mono y.2.2.1 y.2.2.2 (ih (q := q + 1) (dk_self y.2.2.1) y.2.1 (by rw [ta (by rw [z1]; omega), z1]; omega) (by omega) (by
      show _ = cntS σ P x2.toInt q + cntA σ P x2.toInt q
      rw [ta (by rw [e3, y1]; omega), e3, y1]) (nx_e (nx_e e)))
theorem ca_book (k : DyK n h h) (Ok : SyOk σ) (R : RelC n h σ) (e : sX11_book F h n x1 x2 = some o) : CaO n h σ o (anBok σ x1 x2) := by
  have z0 : (0 : Int32).toInt = 0 := rfl
  unfold sX11_book sX11_book_5 sX11_book_26 sX11_book_23 sX11_book_29 sX11_book_26 at e
  unfold anBok
  obtain ⟨o1, e1, e⟩ := cl_s e
  obtain ⟨q1, c1⟩ := isp_c k R.2.1 e1
  rw [q1] at e
  rcases c1 with ⟨d1, d2⟩ | ⟨d1, P, d2⟩
  · rw [so_e (bp_e d1 e), ple_n d2]
    exact cao_0 k R rfl rfl
  replace e := bn_e d1 e
  rw [ple_s d2]
  rcases br_s e with ⟨c, e⟩ | ⟨c, e⟩
  · have c : x2 = -1 := c
    rw [prb_e.mpr (Or.inl (by rw [c]; rfl)), if_pos rfl]
    exact bk_34 Ok d2 F (q := 0) k R rfl (by decide) rfl e
  have c := ne_i c
  have c : ¬ x2.toInt = -1 := c
  rcases br_s e with ⟨c3, e⟩ | ⟨c3, e⟩
  · have := lt_i c3
    rw [so_e e, prb_f.mpr (fun z => by omega), if_neg (by decide)]
    exact cao_0 k R rfl rfl
  have c3 := nlt_i c3
  obtain ⟨o4, e4, e⟩ := cl_s e
  rcases lm_c' k Ok R e4 with ⟨s, _⟩ | ⟨Q, s, f, k', _, l⟩
  · rw [s] at d2; exact nomatch d2
  rw [d2] at s
  have y := Option.some.inj s
  subst y
  have R' := relc_cs k Ok R f k'
  have f' : FrC n h o4.2 := frc_w k f (fun a i c _ => Or.inl (cs_c c))
  rcases br_s e with ⟨c6, e⟩ | ⟨c6, e⟩
  · have c6 := lt_i c6
    rw [prb_e.mpr (Or.inr ⟨by omega, by omega⟩), if_pos rfl]
    exact ca_mono k' f' (bk_34 Ok d2 F (q := 0) (dk_self k') R' rfl (by decide) rfl e)
  · have c6 := nlt_i c6
    rw [so_e e, prb_f.mpr (fun z => by omega), if_neg (by decide)]
    exact cao_s (o := ((-102 : Int32), o4.2)) k Ok R f k' rfl
end
end
section
/-! GAME and BOOK, the reference -/
theorem sam_c {L : Nat → Nat → Int} {P Q : Pz} (S : SamP L P Q) : SamP L Q P := by
  obtain ⟨⟨⟨a1, a2, a3⟩, b, c⟩, d⟩ := S
  refine ⟨⟨⟨a1.symm, fun i hi => (a2 i hi).symm, fun i hi => (a3 i hi).symm⟩, fun s hs => (b s hs).symm, fun s hs => (c s hs).symm⟩, ?_⟩
  rcases d with ⟨d1, d2⟩ | ⟨d1, d2⟩
  · exact Or.inl ⟨d1.symm, fun i hi => (d2 i (by omega)).symm⟩
  · exact Or.inr ⟨d2, d1⟩
/-- a board that is kept, in the reference -/
def RPs (n : Nat) (h : Hp) (σ : Sy) (p t : Nat) (P : Pz) : Prop := (∃ i, i < 60 ∧ hR h (n + 536) i = some p ∧ t = 4000 + i ∧ syP σ i = some P) ∨ ∃ g k : Nat, g < 8 ∧ (k : Int) ≤ syG σ g ∧ hR h (n + 580) (301 * g + k) = some p ∧ t = 5000 + (301 * g + k) ∧ P = syQ σ (301 * g + k)
section
variable {n j F : Nat} {h : Hp} {σ : Sy} {o : Int32 × Hp} {x1 x2 x3 : Int32}
theorem rps_k {p t : Nat} {P : Pz} {h' : Hp} (k : DyK n h h') (C : RPs n h σ p t P) : RPs n h' σ p t P := by
  rcases C with ⟨i, c1, c2, c3⟩ | ⟨g, i, c1, c2, c3, c4, c5⟩
  · exact Or.inl ⟨i, c1, ks_r k (q := (536, 60, 5, 4000, fsB)) (by decide) c2, c3⟩
  · exact Or.inr ⟨g, i, c1, c2, ks_r k (q := (580, 2408, 5, 5000, fsB)) (by decide) c3, c4, c5⟩
theorem rps_a {p t : Nat} {P : Pz} {own : Nat → Nat} (Dw : DnS n h own) (Ok : SyOk σ) (R : RelR n j h σ) (C : RPs n h σ p t P) : RbA h p P ∧ PzOk (syL σ) P ∧ BkE own h p 4 t ∧ 200 ≤ t ∧ t < 20000 := by
  rcases C with ⟨i, hi, ep, et, es⟩ | ⟨g, i, c1, c2, c3, c4, c5⟩
  · subst et
    refine ⟨?_, Ok.2.1 i hi P es, bke_p Dw hi ep, by omega, by omega⟩
    rcases R.2.1 i hi with ⟨a, _⟩ | ⟨Q, b, a, _, p3, p4⟩
    · rw [a] at es; exact nomatch es
    · rw [a] at es
      rw [← Option.some.inj es, r_eq p3 ep]
      exact p4
  · have lg := lgle Ok g c1
    obtain ⟨⟨a, ea, A⟩, _⟩ := (R.2.2.1 g c1).2 i c2
    have y := r_eq c3 ea
    subst y
    subst c4
    subst c5
    exact ⟨A, (Ok.2.2.1 g c1).2 i c2, bke_b (q := (580, 2408, 5, 5000, fsB)) Dw (by decide) rfl (by decide) (show 301 * g + i < 2408 by omega) ea, by omega, by omega⟩
theorem rps_2 {p t q t' : Nat} {P Q : Pz} (Ok : SyOk σ) (C : RPs n h σ p t P) (E : RPs n h σ q t' Q) : (t = t' ∧ p = q ∧ P = Q) ∨ ¬ t = t' := by
  by_cases z : t = t'
  · left
    refine ⟨z, ?_⟩
    rcases C with ⟨i, hi, ep, et, es⟩ | ⟨g, i, c1, c2, c3, c4, c5⟩
    · rcases E with ⟨i', hi', ep', et', es'⟩ | ⟨g', i', c1', c2', c3', c4', c5'⟩
      · have y : i = i' := by omega
        subst y
        rw [es] at es'
        exact ⟨r_eq ep' ep, Option.some.inj es'⟩
      · omega
    · rcases E with ⟨i', hi', ep', et', es'⟩ | ⟨g', i', c1', c2', c3', c4', c5'⟩
      · omega
      · have lg := lgle Ok g c1
        have lg' := lgle Ok g' c1'
        have y : 301 * g + i = 301 * g' + i' := by omega
        rw [y] at c3 c5
        rw [c3] at c3'
        exact ⟨Option.some.inj c3', c5.trans c5'.symm⟩
  · exact Or.inr z
/-- two boards that are kept -/
theorem is_p {p t q t' : Nat} {P Q : Pz} (k : DyK n h h) (Ok : SyOk σ) (R : RelR n j h σ) (C : RPs n h σ p t P) (E : RPs n h σ q t' Q) (e : sX15_isSame F h (n + 513) p q = some o) : (RelR n j o.2 σ ∧ DyK n h o.2 ∧ FrR n h o.2) ∧ ((o.1 = 0 ∧ ¬ SamP (syL σ) P Q) ∨ (o.1 = 1 ∧ SamP (syL σ) P Q)) := by
  obtain ⟨own, Dw⟩ := k.1.1
  obtain ⟨w, hw, _, _, CC⟩ := R.1
  obtain ⟨a1, a2, a3, a4⟩ := rps_a Dw Ok R C
  obtain ⟨b1, b2, b3, b4⟩ := rps_a Dw Ok R E
  obtain ⟨f, k', c⟩ := is_m k Dw.1 hw a3 b3 ⟨a4.1, a4.2, b4.1, b4.2⟩ (rps_2 Ok C E) Ok.1.1 Ok.1.2.1 a2 b2 CC a1 b1 e
  have y := rao_s (a := o.1.toInt) k Ok R f k' rfl
  exact ⟨y.2, c⟩
/-- the answer at the end of the count -/
theorem gm_88 {p t : Nat} {P : Pz} {ans : Int} (Ok : SyOk σ) (d : gmI x1) (fin : ∀ {h : Hp} {x4 : Int32}, DyK n h h → RelR n j h σ → RPs n h σ p t P → x4.toInt = cntA σ P (-1) x1.toNatClampNeg → br (x2 = (1 : Int32)) (sX15_game_160 F h x4) (br ((2 : Int32) < x4) (sX15_game_155 F h ) (br ((hI h p 7) < (100 : Int32)) (sX15_game_160 F h (0 : Int32)) (sX15_game_155 F h ))) = some o → RaO n j h σ o ans) : ∀ (f : Nat) {h : Hp} {x4 x5 : Int32} {q : Nat}, DyK n h h → RelR n j h σ → RPs n h σ p t P → x5.toInt = (q : Int) → (q : Int) ≤ syG σ x1.toNatClampNeg + 1 → x4.toInt = cnt σ P (-1) x1.toNatClampNeg q → sX15_game_88 F f h (n + 513) x1 x2 p x4 x5 = some o → RaO n j h σ o ans := by
  have z0 : (0 : Int32).toInt = 0 := rfl
  have z1 : (1 : Int32).toInt = 1 := rfl
  obtain ⟨g8, gn⟩ := gmi_n d
  have lg := lgle Ok _ g8
  intro f
  induction f with
  | zero => intro h x4 x5 q _ _ _ _ _ _ e; exact absurd e (by rw [sX15_game_88]; exact fun z => nomatch z)
  | succ f ih =>
    intro h x4 x5 q k R C e5 lq e4 e
    rw [sX15_game_88] at e
    have G := R.2.2.1 _ g8
    have cb := cnt_b (σ := σ) (P := P) (mv := -1) (g := x1.toNatClampNeg) q
    replace e := ce_e (dk_e (a := 513) (f := 39) (b := 582) k (by decide +kernel)) e
    replace e := gg_e e
    rcases br_s e with ⟨c, e⟩ | ⟨c, e⟩
    · have c := lt_i c
      have c : (hI h (n + 582) x1.toNatClampNeg).toInt < x5.toInt := c
      rw [G.1] at c
      refine fin k R C ?_ e
      show x4.toInt = cnt σ P (-1) x1.toNatClampNeg _
      rw [show (syG σ x1.toNatClampNeg + 1).toNat = q by omega]
      exact e4
    have c := nlt_i c
    have c : x5.toInt ≤ (hI h (n + 582) x1.toNatClampNeg).toInt := c
    rw [G.1] at c
    have ql : (q : Int) ≤ syG σ x1.toNatClampNeg := by omega
    obtain ⟨⟨a, ea, A⟩, Mv⟩ := G.2 q ql
    obtain ⟨o3, e3, e⟩ := cl_s e
    rw [gb_l k d rfl e5 (by omega) ea e3] at e
    unfold sX15_game_109 at e
    obtain ⟨o4, e4', e⟩ := cl_s e
    obtain ⟨⟨R', k', f'⟩, cc⟩ := is_p k Ok R (Or.inr ⟨_, q, g8, ql, ea, rfl, rfl⟩) C e4'
    unfold sX15_game_113 sX15_game_121 at e
    rcases cc with ⟨u, v⟩ | ⟨u, v⟩
    · exact ra_mono k' f' (ih (q := q + 1) (dk_self k') R' (rps_k k' C) (by rw [ta (by rw [z1]; omega), z1]; omega) (by omega) (by
        rw [cnt_f (fun z => v (sam_c z.2)), ta (by rw [z0]; omega), z0, e4]; omega) (nx_e (nx_e (bp_e u e))))
    · exact ra_mono k' f' (ih (q := q + 1) (dk_self k') R' (rps_k k' C) (by rw [ta (by rw [z1]; omega), z1]; omega) (by omega) (by
        rw [cnt_t ⟨Or.inl rfl, sam_c v⟩, ta (by rw [z1]; omega), z1, e4]) (nx_e (nx_e (bn_e (by rw [u]; decide) e))))
theorem ra_game (k : DyK n h h) (Ok : SyOk σ) (R : RelR n j h σ) (e : sX15_game F h (n + 513) x1 x2 = some o) : RaO n j h σ o (anGam σ x1 x2) := by
  have z0 : (0 : Int32).toInt = 0 := rfl
  have z1 : (1 : Int32).toInt = 1 := rfl
  have z2 : (2 : Int32).toInt = 2 := rfl
  have z3 : (3 : Int32).toInt = 3 := rfl
  have z100 : (100 : Int32).toInt = 100 := rfl
  unfold sX15_game sX15_game_4 sX15_game_16 at e
  unfold anGam
  obtain ⟨o1, e1, e⟩ := cl_s e
  obtain ⟨q1, c1⟩ := isg_r e1
  rw [q1] at e
  rcases c1 with ⟨d1, d2⟩ | ⟨d1, d2⟩
  · rw [so_e (bp_e d1 e), prb_f.mpr (fun z => d2 z.1), if_neg (by decide)]
    exact rao_0 k R rfl rfl
  replace e := bn_e d1 e
  rcases br_s e with ⟨c3, e⟩ | ⟨c3, e⟩
  · have := lt_i c3
    rw [so_e e, prb_f.mpr (fun z => by omega), if_neg (by decide)]
    exact rao_0 k R rfl rfl
  have c3 := nlt_i c3
  rcases br_s e with ⟨c4, e⟩ | ⟨c4, e⟩
  rotate_left
  · have := nle_i c4
    rw [so_e e, prb_f.mpr (fun z => by omega), if_neg (by decide)]
    exact rao_0 k R rfl rfl
  have c4 := le_i c4
  rw [prb_e.mpr ⟨d2, by omega, by omega⟩, if_pos rfl]
  obtain ⟨g8, gn⟩ := gmi_n d2
  have G := R.2.2.1 _ g8
  have Gb := (Ok.2.2.1 _ g8).1
  have W := dk_e (a := 513) (f := 39) (b := 582) k (by decide +kernel)
  replace e := ce_e W e
  replace e := gg_e e
  rcases br_s e with ⟨c, e⟩ | ⟨c, e⟩
  · have c : (hI h (n + 582) x1.toNatClampNeg).toInt = -1 := by
      have : hI h (n + 582) x1.toNatClampNeg = -1 := c
      rw [this]; rfl
    rw [so_e e, if_pos (by rw [← G.1]; exact c)]
    exact rao_0 k R rfl rfl
  have c := ne_i c
  have c : ¬ (hI h (n + 582) x1.toNatClampNeg).toInt = -1 := c
  rw [G.1] at c
  rw [if_neg c]
  have sl : syG σ x1.toNatClampNeg = ((syG σ x1.toNatClampNeg).toNat : Int) := by omega
  obtain ⟨⟨a, ea, A⟩, _⟩ := G.2 (syG σ x1.toNatClampNeg).toNat (by omega)
  replace e := ce_e W e
  replace e := gg_e e
  obtain ⟨o8, e8, e⟩ := cl_s e
  rw [gb_l k d2 rfl (G.1.trans sl) (by omega) ea e8] at e
  have Ca : RPs n h σ a (5000 + (301 * x1.toNatClampNeg + (syG σ x1.toNatClampNeg).toNat)) (syQ σ (301 * x1.toNatClampNeg + (syG σ x1.toNatClampNeg).toNat)) := Or.inr ⟨_, _, g8, by omega, ea, rfl, rfl⟩
  unfold sX15_game_43 sX15_game_69 sX15_game_81 at e
  rcases br_s e with ⟨c0, e⟩ | ⟨c0, e⟩
  · have c0 : x2 = 0 := c0
    replace e := ce_e W e
    replace e := gg_e e
    rw [so_e e, c0, if_pos z0]
    exact rao_0 k R rfl G.1
  have c0 := ne_i c0
  rw [if_neg (show ¬ x2.toInt = 0 from c0)]
  rcases br_s e with ⟨c5, e⟩ | ⟨c5, e⟩
  · have c5 : x2 = 3 := c5
    rw [c5, if_neg (by decide), if_neg (by decide)]
    obtain ⟨own, Dw⟩ := k.1.1
    obtain ⟨w, hw, _, _, CC⟩ := R.1
    obtain ⟨a1, a2, a3, a4⟩ := rps_a Dw Ok R Ca
    replace e := ce_e (dk_e (a := 513) (f := 30) (b := 552) k (by decide +kernel)) e
    obtain ⟨h9, e9, e⟩ := cl_s e
    obtain ⟨f9, k9, l9⟩ := leg_m k Dw.1 hw a3 (bk_ml Dw.1) (by omega) Ok.1.1 Ok.1.2.1 a2 CC a1 (lst_T k) e9
    have f9 : FrW (RS n) h h9 := fw_s f9 (fun a i c => c.elim id (fun c => Or.inr (Or.inl ⟨by omega, by omega⟩)))
    have R9 := relr_rs k Ok R f9 k9
    replace e := ce_e (dk_e (a := 513) (f := 30) (b := 552) k9 (by decide +kernel)) e
    obtain ⟨o10, e10, e⟩ := cl_s e
    obtain ⟨own', Dw'⟩ := k9.1.1
    obtain ⟨w', hw', _, _, CC'⟩ := R9.1
    obtain ⟨b1, b2, b3, b4⟩ := rps_a Dw' Ok R9 (rps_k k9 Ca)
    obtain ⟨f10, k10, l10, _⟩ := end_m (dk_self k9) Dw'.1 hw' b3 (by omega) Ok.1.1 Ok.1.2.1 b2 CC' b1 l9.1 e10
    rw [so_e e]
    exact rao_s (o := (o10.1, o10.2)) k Ok R (fw_t f9 f10) (dk_t k9 k10) l10
  have c5 := ne_i c5
  have c5 : ¬ x2.toInt = 3 := c5
  refine gm_88 (p := a) Ok d2 ?_ F (q := 0) k R Ca rfl (by omega) rfl e
  intro h x4 k R Ca e4 e
  unfold sX15_game_160 sX15_game_155 sX15_game_160 at e
  obtain ⟨own, Dw⟩ := k.1.1
  have A := (rps_a Dw Ok R Ca).1
  have ck : (hI h a 7).toInt = pzK (syQ σ (301 * x1.toNatClampNeg + (syG σ x1.toNatClampNeg).toNat)) := A.2.2.2.2.2.2.2.2
  rcases br_s e with ⟨c1, e⟩ | ⟨c1, e⟩
  · have c1 : x2 = 1 := c1
    rw [c1, if_pos z1, so_e e]
    exact rao_0 k R rfl e4
  have c1 := ne_i c1
  have c1 : ¬ x2.toInt = 1 := c1
  have c0 : ¬ x2.toInt = 0 := c0
  rw [if_neg c1, if_pos (show x2.toInt = 2 by omega)]
  rcases br_s e with ⟨c6, e⟩ | ⟨c6, e⟩
  · have c6 := lt_i c6
    rw [so_e e, if_pos (Or.inr (by omega))]
    exact rao_0 k R rfl rfl
  have c6 := nlt_i c6
  rcases br_s e with ⟨c7, e⟩ | ⟨c7, e⟩
  · have c7 := lt_i c7
    rw [so_e e, if_neg (fun z => by omega)]
    exact rao_0 k R rfl rfl
  · have c7 := nlt_i c7
    rw [so_e e, if_pos (Or.inl (by omega))]
    exact rao_0 k R rfl rfl
/-- book -/
theorem bk_48 {P : Pz} {k38 : Hp → Nat → Int32 → Int32 → Int32 → Int32 → Option (Int32 × Hp)} {ans : Int} {x4 : Int32} {g' : Nat} {c0 : Int} (Ok : SyOk σ) (s : sPl σ x1 = some P) (d : gmI x4) (eg : x4.toNatClampNeg = g') (b0 : 0 ≤ c0 ∧ c0 ≤ 3000) (fin : ∀ {h : Hp} {v : Int32}, DyK n h h → RelR n j h σ → v.toInt = c0 + cntA σ P x2.toInt g' → sX15_book_141 F k38 h (n + 513) x1 x2 v x4 = some o → RaO n j h σ o ans) : ∀ (f : Nat) {h : Hp} {x3 x5 : Int32} {q : Nat}, DyK n h h → RelR n j h σ → x5.toInt = (q : Int) → (q : Int) ≤ syG σ g' + 1 → x3.toInt = c0 + cnt σ P x2.toInt g' q → sX15_book_48 F k38 f h (n + 513) x1 x2 x3 x4 x5 = some o → RaO n j h σ o ans := by
  have z0 : (0 : Int32).toInt = 0 := rfl
  have z1 : (1 : Int32).toInt = 1 := rfl
  subst eg
  obtain ⟨g8, gn⟩ := gmi_n d
  have lg := lgle Ok _ g8
  obtain ⟨_, _, b3, b4⟩ := spl_b s
  intro f
  induction f with
  | zero => intro h x3 x5 q _ _ _ _ _ e; exact absurd e (by rw [sX15_book_48]; exact fun z => nomatch z)
  | succ f ih =>
    intro h x3 x5 q k R e5 lq e3 e
    rw [sX15_book_48] at e
    have G := R.2.2.1 _ g8
    have cb := cnt_b (σ := σ) (P := P) (mv := x2.toInt) (g := x4.toNatClampNeg) q
    have W := dk_e (a := 513) (f := 39) (b := 582) k (by decide +kernel)
    replace e := ce_e W e
    replace e := gg_e e
    have fin' : ¬ (q : Int) ≤ syG σ x4.toNatClampNeg → sX15_book_141 F k38 h (n + 513) x1 x2 x3 x4 = some o → RaO n j h σ o ans := fun y e => by
      refine fin k R ?_ e
      show _ = c0 + cnt σ P x2.toInt x4.toNatClampNeg _
      rw [show (syG σ x4.toNatClampNeg + 1).toNat = q by omega]
      exact e3
    rcases br_s e with ⟨c, e⟩ | ⟨c, e⟩
    · have c := lt_i c
      have c : (hI h (n + 582) x4.toNatClampNeg).toInt < x5.toInt := c
      rw [G.1] at c
      exact fin' (by omega) e
    have c := nlt_i c
    have c : x5.toInt ≤ (hI h (n + 582) x4.toNatClampNeg).toInt := c
    rw [G.1] at c
    have ql : (q : Int) ≤ syG σ x4.toNatClampNeg := by omega
    obtain ⟨⟨a, ea, A⟩, Mv⟩ := G.2 q ql
    replace e := ce_e W e
    replace e := gg_e e
    replace e := bn_e (fun z => by
      have z : hI h (n + 582) x4.toNatClampNeg = -1 := z
      have G1 := G.1
      rw [z] at G1
      have : (-1 : Int32).toInt = -1 := rfl
      omega) e
    have look : (x2.toInt = -1 ∨ ((q : Int) < syG σ x4.toNatClampNeg ∧ syMv σ (301 * x4.toNatClampNeg + q) = x2.toInt)) → sX15_book_106 F k38 (sX15_book_48 F k38 f) h (n + 513) x1 x2 x3 x4 x5 = some o → RaO n j h σ o ans := fun y e => by
      unfold sX15_book_106 at e
      obtain ⟨o3, e3', e⟩ := cl_s e
      rw [gb_l k d rfl e5 (by omega) ea e3'] at e
      unfold sX15_book_116 at e
      replace e := ce_e (dk_e (a := 513) (f := 14) (b := 536) k (by decide +kernel)) e
      replace e := gg_e e
      obtain ⟨b, eb, B⟩ := rpl_p R.2.1 s
      replace e := ce_e eb e
      obtain ⟨o4, e4', e⟩ := cl_s e
      obtain ⟨⟨R', k', f'⟩, cc⟩ := is_p k Ok R (Or.inr ⟨_, q, g8, ql, ea, rfl, rfl⟩) (Or.inl ⟨_, b3, eb, rfl, b4⟩) e4'
      unfold sX15_book_125 sX15_book_133 sX15_book_135 at e
      rcases cc with ⟨u, v⟩ | ⟨u, v⟩
      · exact ra_mono k' f' (ih (q := q + 1) (dk_self k') R' (by rw [ta (by rw [z1]; omega), z1]; omega) (by omega) (by
          rw [cnt_f (fun z => v (sam_c z.2)), ta (by rw [z0]; omega), z0, e3]; omega) (nx_e (nx_e (bp_e u e))))
      · exact ra_mono k' f' (ih (q := q + 1) (dk_self k') R' (by rw [ta (by rw [z1]; omega), z1]; omega) (by omega) (by
          rw [cnt_t ⟨y, sam_c v⟩, ta (by rw [z1]; omega), z1, e3]; omega) (nx_e (nx_e (bn_e (by rw [u]; decide) e))))
    have skip : ¬ (x2.toInt = -1 ∨ ((q : Int) < syG σ x4.toNatClampNeg ∧ syMv σ (301 * x4.toNatClampNeg + q) = x2.toInt)) → sX15_book_135 F k38 (sX15_book_48 F k38 f) h (n + 513) x1 x2 x3 x4 x5 = some o → RaO n j h σ o ans := fun y e => by
      unfold sX15_book_135 at e
      exact ih (q := q + 1) k R (by rw [ta (by rw [z1]; omega), z1]; omega) (by omega) (by
          rw [cnt_f (fun z => y z.1)]; exact e3) (nx_e e)
    rcases br_s e with ⟨c1, e⟩ | ⟨c1, e⟩
    · have c1 : x2 = -1 := c1
      exact look (Or.inl (by rw [c1]; rfl)) e
    have c1 := ne_i c1
    have c1 : ¬ x2.toInt = -1 := c1
    replace e := ce_e W e
    replace e := gg_e e
    rcases br_s e with ⟨c2, e⟩ | ⟨c2, e⟩
    · have c2 := le_i c2
      have c2 : (hI h (n + 582) x4.toNatClampNeg).toInt ≤ x5.toInt := c2
      rw [G.1] at c2
      exact skip (fun z => by omega) e
    have c2 := nle_i c2
    have c2 : x5.toInt < (hI h (n + 582) x4.toNatClampNeg).toInt := c2
    rw [G.1] at c2
    have mv := Mv (by omega)
    replace e := ce_e (dk_e (a := 513) (f := 38) (b := 581) k (by decide +kernel)) e
    replace e := gg_e e
    rw [(ix_g d e5 (by omega)).2] at e
    rcases br_s e with ⟨c3, e⟩ | ⟨c3, e⟩
    · have c3 : hI h (n + 581) (301 * x4.toNatClampNeg + q) = x2 := c3
      rw [c3] at mv
      exact look (Or.inr ⟨by omega, mv.symm⟩) e
    · have c3 := ne_i c3
      have c3 : ¬ (hI h (n + 581) (301 * x4.toNatClampNeg + q)).toInt = x2.toInt := c3
      rw [mv] at c3
      exact skip (fun z => z.elim c1 (fun z => c3 z.2)) e
theorem bk_38 {P : Pz} (Ok : SyOk σ) (s : sPl σ x1 = some P) : ∀ (f : Nat) {h : Hp} {x3 x4 : Int32} {q : Nat}, DyK n h h → RelR n j h σ → x4.toInt = (q : Int) → q ≤ 8 → x3.toInt = cntS σ P x2.toInt q → sX15_book_38 F f h (n + 513) x1 x2 x3 x4 = some o → RaO n j h σ o (cntS σ P x2.toInt 8) := by
  have z1 : (1 : Int32).toInt = 1 := rfl
  have z8 : (8 : Int32).toInt = 8 := rfl
  intro f
  induction f with
  | zero => intro h x3 x4 q _ _ _ _ _ e; exact absurd e (by rw [sX15_book_38]; exact fun z => nomatch z)
  | succ f ih =>
    intro h x3 x4 q k R e4 lq e3 e
    rw [sX15_book_38] at e
    rcases br_s e with ⟨c, e⟩ | ⟨c, e⟩
    · have c := le_i c
      rw [so_e e]
      refine rao_0 k R rfl ?_
      rw [show (8 : Nat) = q by omega]
      exact e3
    have c := nle_i c
    have d : gmI x4 := ⟨by omega, by omega⟩
    have q4 : x4.toNatClampNeg = q := by have := (gmi_n d).2; omega
    have B := cntS_b (σ := σ) (P := P) (mv := x2.toInt) Ok q (by omega)
    have Gb := (Ok.2.2.1 q (by omega)).1
    refine bk_48 (c0 := cntS σ P x2.toInt q) Ok s d q4 (by omega) ?_ F (q := 0) k R rfl (by omega) (by
      show _ = _ + (0 : Int)
      rw [e3]; omega) e
    intro h v k R ev e
    unfold sX15_book_141 at e
    exact ih (q := q + 1) k R (by rw [ta (by rw [z1]; omega), z1]; omega) (by omega) ev (nx_e e)
theorem ra_book (k : DyK n h h) (Ok : SyOk σ) (R : RelR n j h σ) (e : sX15_book F h (n + 513) x1 x2 = some o) : RaO n j h σ o (anBok σ x1 x2) := by
  have z0 : (0 : Int32).toInt = 0 := rfl
  unfold sX15_book sX15_book_5 sX15_book_30 sX15_book_33 at e
  unfold anBok
  obtain ⟨o1, e1, e⟩ := cl_s e
  rcases mvs_r k Ok R e1 with ⟨s, y⟩ | ⟨P, s, f, k', l, l1⟩
  · rw [y] at e
    rw [so_e (bp_e rfl e), ple_n s]
    exact rao_0 k R rfl rfl
  rw [ple_s s]
  have R' := relr_rs k Ok R f k'
  have fr : FrR n h o1.2 := frr_w k f (fun a i c _ => Or.inl (rs_c c))
  replace e := bn_e (fun z => by
    have z : o1.1 = -102 := z
    rw [z] at l1
    have : (-102 : Int32).toInt = -102 := rfl
    omega) e
  rcases br_s e with ⟨c, e⟩ | ⟨c, e⟩
  · have c : x2 = -1 := c
    rw [prb_e.mpr (Or.inl (by rw [c]; rfl)), if_pos rfl]
    exact ra_mono k' fr (bk_38 Ok s F (q := 0) (dk_self k') R' rfl (by decide) rfl e)
  have c := ne_i c
  have c : ¬ x2.toInt = -1 := c
  rcases br_s e with ⟨c3, e⟩ | ⟨c3, e⟩
  · have := lt_i c3
    rw [so_e e, prb_f.mpr (fun z => by omega), if_neg (by decide)]
    exact rao_s (o := ((-102 : Int32), o1.2)) k Ok R f k' rfl
  have c3 := nlt_i c3
  replace e := ce_e (dk_e (a := 513) (f := 30) (b := 552) k' (by decide +kernel)) e
  have l0 : (hI o1.2 (n + 552) 0).toInt = ((lgL (syL σ) P).length : Int) := l.1
  rcases br_s e with ⟨c6, e⟩ | ⟨c6, e⟩
  · have c6 := lt_i c6
    have c6 : x2.toInt < (hI o1.2 (n + 552) 0).toInt := c6
    rw [prb_e.mpr (Or.inr ⟨by omega, by omega⟩), if_pos rfl]
    exact ra_mono k' fr (bk_38 Ok s F (q := 0) (dk_self k') R' rfl (by decide) rfl e)
  · have c6 := nlt_i c6
    have c6 : (hI o1.2 (n + 552) 0).toInt ≤ x2.toInt := c6
    rw [so_e e, prb_f.mpr (fun z => by omega), if_neg (by decide)]
    exact rao_s (o := ((-102 : Int32), o1.2)) k Ok R f k' rfl
end
end
section
/-! TOLD and OUT -/
/-- places in use -/
def cPl (σ : Sy) : Nat → Int
  | 0 => 0
  | p + 1 => cPl σ p + (if (syP σ p).isSome = true then 1 else 0)
theorem cpl_b {σ : Sy} : ∀ k, 0 ≤ cPl σ k ∧ cPl σ k ≤ (k : Int)
  | 0 => ⟨Int.le_refl _, Int.le_refl _⟩
  | k + 1 => by
    have := cpl_b (σ := σ) k
    show 0 ≤ cPl σ k + _ ∧ cPl σ k + _ ≤ _
    split <;> omega
def anTld (σ : Sy) (tp : Int) (x1 : Int32) : Int := if x1 = 0 then syL σ 0 0 else if x1 = 1 then syL σ 1 0 else if x1 = 2 then syL σ 2 0 else if x1 = 3 then syL σ 10 0 else if x1 = 4 then syL σ 11 0 else if x1 = 5 then cPl σ 60 else if x1 = 6 then ((syO σ).length : Int) else if x1 = 7 then tp else -101
section
variable {n j F : Nat} {h : Hp} {σ : Sy} {o : Int32 × Hp} {x1 x2 x3 : Int32} {tp : Int}
theorem cpl_4 : ∀ (f : Nat) {x1 x2 : Int32} {q : Nat}, DyK n h h → RelC n h σ → x2.toInt = (q : Int) → q ≤ 60 → x1.toInt = cPl σ q → sX11_countPlaces_4 F f h n x1 x2 = some o → o.1.toInt = cPl σ 60 ∧ o.2 = h := by
  have z0 : (0 : Int32).toInt = 0 := rfl
  have z1 : (1 : Int32).toInt = 1 := rfl
  have z60 : (60 : Int32).toInt = 60 := rfl
  intro f
  induction f with
  | zero => intro x1 x2 q _ _ _ _ _ e; exact absurd e (by rw [sX11_countPlaces_4]; exact fun z => nomatch z)
  | succ f ih =>
    intro x1 x2 q k R e2 lq e1 e
    rw [sX11_countPlaces_4] at e
    have cb := cpl_b (σ := σ) q
    rcases br_s e with ⟨c, e⟩ | ⟨c, e⟩
    · have c := le_i c
      rw [so_e e, show (60 : Nat) = q by omega]
      exact ⟨e1, rfl⟩
    have c := nle_i c
    replace e := ce_e (dk_e (a := 0) (f := 14) (b := 149) k (by decide +kernel)) e
    replace e := gg_e e
    have q2 : x2.toNatClampNeg = q := by have := nc_i (x := x2) (by omega); omega
    unfold sX11_countPlaces_25 at e
    have cs : cPl σ (q + 1) = cPl σ q + (if (syP σ q).isSome = true then 1 else 0) := rfl
    rcases R.2.1 q (by omega) with ⟨a, b⟩ | ⟨P, a, b, _⟩
    · rw [a, Option.isSome_none, if_neg (by decide)] at cs
      exact ih (q := q + 1) k R (by rw [ta (by rw [z1]; omega), z1]; omega) (by omega) (by rw [ta (by rw [z0]; omega), z0, cs, e1]) (nx_e (nx_e (bp_e (by rw [q2]; exact b) e)))
    · rw [a, Option.isSome_some, if_pos rfl] at cs
      exact ih (q := q + 1) k R (by rw [ta (by rw [z1]; omega), z1]; omega) (by omega) (by rw [ta (by rw [z1]; omega), z1, cs, e1]) (nx_e (nx_e (bn_e (by rw [q2, b]; decide) e)))
theorem ca_told (k : DyK n h h) (R : RelC n h σ) (T : (hI h (n + 1) 1).toInt = tp) (e : sX11_told F h n x1 = some o) : CaO n h σ o (anTld σ tp x1) := by
  unfold sX11_told at e
  unfold anTld
  obtain ⟨_, ⟨l0, l1, _, l3, _⟩, _, ⟨l4, l5, _⟩, _⟩ := R.1
  have l0 : (hI h (n + 5) 0).toInt = syL σ 0 0 := l0
  have l1 : (hI h (n + 5) 1).toInt = syL σ 1 0 := l1
  have l3 : (hI h (n + 5) 3).toInt = syL σ 2 0 := l3
  have l4 : (hI h (n + 5) 4).toInt = syL σ 10 0 := l4
  have l5 : (hI h (n + 5) 5).toInt = syL σ 11 0 := l5
  have W := dk_e (a := 0) (f := 2) (b := 5) k (by decide +kernel)
  rcases br_s e with ⟨c, e⟩ | ⟨c, e⟩
  · replace e := ce_e W e
    rw [so_e e, if_pos c]
    exact cao_0 k R rfl l0
  rw [if_neg c]
  rcases br_s e with ⟨c, e⟩ | ⟨c, e⟩
  · replace e := ce_e W e
    rw [so_e e, if_pos c]
    exact cao_0 k R rfl l1
  rw [if_neg c]
  rcases br_s e with ⟨c, e⟩ | ⟨c, e⟩
  · replace e := ce_e W e
    rw [so_e e, if_pos c]
    exact cao_0 k R rfl l3
  rw [if_neg c]
  rcases br_s e with ⟨c, e⟩ | ⟨c, e⟩
  · replace e := ce_e W e
    rw [so_e e, if_pos c]
    exact cao_0 k R rfl l4
  rw [if_neg c]
  rcases br_s e with ⟨c, e⟩ | ⟨c, e⟩
  · replace e := ce_e W e
    rw [so_e e, if_pos c]
    exact cao_0 k R rfl l5
  rw [if_neg c]
  rcases br_s e with ⟨c, e⟩ | ⟨c, e⟩
  · obtain ⟨o1, e1, e⟩ := cl_s e
    unfold sX11_countPlaces at e1
    obtain ⟨a, b⟩ := cpl_4 (σ := σ) F (q := 0) k R rfl (by decide) rfl e1
    rw [so_e e, if_pos c]
    exact cao_0 (o := (o1.1, o1.2)) k R b a
  rw [if_neg c]
  rcases br_s e with ⟨c, e⟩ | ⟨c, e⟩
  · replace e := ce_e (dk_e (a := 0) (f := 1) (b := 3) k (by decide +kernel)) e
    rw [so_e e, if_pos c]
    exact cao_0 k R rfl R.2.2.2.2.1
  rw [if_neg c]
  rcases br_s e with ⟨c, e⟩ | ⟨c, e⟩
  · replace e := ce_e (dk_e (a := 0) (f := 0) (b := 1) k (by decide +kernel)) e
    rw [so_e e, if_pos c]
    exact cao_0 k R rfl T
  rw [if_neg c, so_e e]
  exact cao_0 k R rfl rfl
/-- a byte of the text given out -/
noncomputable def anOut (σ : Sy) (x1 : Int32) : Int := if 0 ≤ x1.toInt ∧ x1.toInt < ((syO σ).length : Int) then ((syO σ)[x1.toNatClampNeg]?).getD 0 else -1
theorem ca_out (k : DyK n h h) (R : RelC n h σ) (e : sX11_out h n x1 = some o) : CaO n h σ o (anOut σ x1) := by
  have z0 : (0 : Int32).toInt = 0 := rfl
  obtain ⟨u1, u2⟩ := R.2.2.2.2
  unfold sX11_out at e
  unfold anOut
  replace e := ce_e (dk_e (a := 0) (f := 1) (b := 3) k (by decide +kernel)) e
  obtain ⟨o2, e2, e⟩ := cl_s e
  rw [so_e e]
  unfold sX9_byteAt sX9_byteAt_21 sX9_byteAt_22 at e2
  rcases br_s e2 with ⟨c, e2⟩ | ⟨c, e2⟩
  · have c := lt_i c
    rw [so_e e2, if_neg (by omega)]
    exact cao_0 k R rfl rfl
  have c := nlt_i c
  rcases br_s e2 with ⟨c2, e2⟩ | ⟨c2, e2⟩
  · have c2 := le_i c2
    have c2 : (hI h (n + 3) 1).toInt ≤ x1.toInt := c2
    rw [so_e e2, if_neg (by omega)]
    exact cao_0 k R rfl rfl
  have c2 := nle_i c2
  have c2 : x1.toInt < (hI h (n + 3) 1).toInt := c2
  replace e2 := ce_e (dk_e (a := 3) (f := 0) (b := 4) k (by decide +kernel)) e2
  replace e2 := gg_e e2
  have nc := nc_i (x := x1) (by omega)
  rw [so_e e2, if_pos (by omega), u2 _ (by omega)]
  exact cao_0 k R rfl rfl
theorem ra_out (k : DyK n h h) (R : RelR n j h σ) (e : sX15_out h (n + 513) x1 = some o) : RaO n j h σ o (anOut σ x1) := by
  have z0 : (0 : Int32).toInt = 0 := rfl
  obtain ⟨u1, u2⟩ := R.2.2.2.2.1
  unfold sX15_out sX15_out_12 sX15_out_22 at e
  unfold anOut
  rcases br_s e with ⟨c, e⟩ | ⟨c, e⟩
  · have c := lt_i c
    rw [so_e e, if_neg (by omega)]
    exact rao_0 k R rfl rfl
  have c := nlt_i c
  rcases br_s e with ⟨c2, e⟩ | ⟨c2, e⟩
  rotate_left
  · have c2 := nlt_i c2
    rw [so_e e, if_neg (by omega)]
    exact rao_0 k R rfl rfl
  have c2 := lt_i c2
  replace e := ce_e (dk_e (a := 513) (f := 2) (b := 515) k (by decide +kernel)) e
  replace e := gg_e e
  have nc := nc_i (x := x1) (by omega)
  rw [so_e e, if_pos (by omega), u2 _ (by omega)]
  exact rao_0 k R rfl rfl
/-- a new thing, written -/
theorem fw_n {W : Nat → Nat → Prop} {o : Hp} {a i : Nat} {v : Int32} (f : FrW W h o) (l : hS h ≤ a) : FrW W h (wI o a i v) := ⟨f.1, fun b q lb nw => by
  have := f.2 b q lb nw
  rw [r_I, if_neg (fun z => by omega)]
  exact this⟩
theorem rpl_4 {P : Int32 × Hp → Prop} (fin : ∀ {x2 : Int32}, x2.toInt = cPl σ 60 → (nm (hS h) fun a_2 => nm (nC h 17 (8 : Int32).toNatClampNeg (8 : Int32).toNatClampNeg) fun h_3 => sX15_told_37 F h_3 (n + 513) x1 x2 a_2) = some o → P o) : ∀ (f : Nat) {x2 x3 : Int32} {q : Nat}, DyK n h h → RelR n j h σ → x3.toInt = (q : Int) → q ≤ 60 → x2.toInt = cPl σ q → sX15_told_4 F f h (n + 513) x1 x2 x3 = some o → P o := by
  have z0 : (0 : Int32).toInt = 0 := rfl
  have z1 : (1 : Int32).toInt = 1 := rfl
  have z60 : (60 : Int32).toInt = 60 := rfl
  intro f
  induction f with
  | zero => intro x2 x3 q _ _ _ _ _ e; exact absurd e (by rw [sX15_told_4]; exact fun z => nomatch z)
  | succ f ih =>
    intro x2 x3 q k R e3 lq e2 e
    rw [sX15_told_4] at e
    have cb := cpl_b (σ := σ) q
    rcases br_s e with ⟨c, e⟩ | ⟨c, e⟩
    · have c := le_i c
      exact fin (by rw [show (60 : Nat) = q by omega]; exact e2) e
    have c := nle_i c
    replace e := ce_e (dk_e (a := 513) (f := 15) (b := 537) k (by decide +kernel)) e
    replace e := gg_e e
    have q2 : x3.toNatClampNeg = q := by have := nc_i (x := x3) (by omega); omega
    unfold sX15_told_25 at e
    have cs : cPl σ (q + 1) = cPl σ q + (if (syP σ q).isSome = true then 1 else 0) := rfl
    rcases R.2.1 q (by omega) with ⟨a, b⟩ | ⟨P, r, a, b, _⟩
    · rw [a, Option.isSome_none, if_neg (by decide)] at cs
      exact ih (q := q + 1) k R (by rw [ta (by rw [z1]; omega), z1]; omega) (by omega) (by rw [ta (by rw [z0]; omega), z0, cs, e2]) (nx_e (nx_e (bp_e (by rw [q2, b]; exact Int32.le_refl _) e)))
    · rw [a, Option.isSome_some, if_pos rfl] at cs
      exact ih (q := q + 1) k R (by rw [ta (by rw [z1]; omega), z1]; omega) (by omega) (by rw [ta (by rw [z1]; omega), z1, cs, e2]) (nx_e (nx_e (bn_e (by rw [q2]; exact fun z => by have := le_i z; omega) e)))
theorem ra_told (k : DyK n h h) (Ok : SyOk σ) (R : RelR n j h σ) (T : (hI h (n + 513) 1).toInt = tp) (e : sX15_told F h (n + 513) x1 = some o) : RaO n j h σ o (anTld σ tp x1) := by
  have z0 : (0 : Int32).toInt = 0 := rfl
  have z7 : (7 : Int32).toInt = 7 := rfl
  have kk := dk_X15_told k e
  have s6 := dk_610 k
  unfold sX15_told at e
  refine rpl_4 (P := fun o => DyK n h o.2 → RaO n j h σ o (anTld σ tp x1)) (fun {x2} e2 e kk => ?_) F (q := 0) k R rfl (by decide) rfl e kk
  obtain ⟨w, hw, r4, r5, C⟩ := R.1
  obtain ⟨l13, l11, l12⟩ := squ_r R.1
  have lw : ∀ q, q < 30 → (hI h (n + w) q).toInt = syL σ q 0 := fun q hq => by
    have := congrFun (congrFun C.2.1 q) 0
    unfold lwR at this
    rw [if_pos hq] at this
    exact this
  replace e := nx_e e
  obtain ⟨h3, w3, e⟩ := nm_s e
  have k3 : DyK n h h3 := by rw [w3]; exact dk_nC k
  have f3 : FrW (RS n) h h3 := ⟨by rw [w3]; exact Nat.le_succ _, fun a i l _ => by
    rw [w3]
    exact ⟨by rw [nC_I, if_neg (by omega)], by rw [nC_J, if_neg (by omega)]⟩⟩
  unfold sX15_told_37 sX15_told_112 sX15_told_120 at e
  replace e := gg_e e
  obtain ⟨h4, w4, e⟩ := nm_s e
  replace e := gg_e e
  have k4 : DyK n h h4 := by rw [w4]; exact dk_wI k3
  have f4 : FrW (RS n) h h4 := by rw [w4]; exact fw_n f3 (Nat.le_refl _)
  obtain ⟨h5, w5, e⟩ := nm_s e
  have k5 : DyK n h h5 := by rw [w5]; exact dk_wI k4
  have f5 : FrW (RS n) h h5 := by rw [w5]; exact fw_n f4 (Nat.le_refl _)
  have r45 : hR h5 (n + 513) 4 = some (n + w) := by rw [k5.1.2.2.2.2.2 4 (Or.inl rfl)]; exact r4
  replace e := ce_e r45 e
  replace e := gg_e e
  obtain ⟨h6, w6, e⟩ := nm_s e
  have k6 : DyK n h h6 := by rw [w6]; exact dk_wI k5
  have f6 : FrW (RS n) h h6 := by rw [w6]; exact fw_n f5 (Nat.le_refl _)
  have r46 : hR h6 (n + 513) 4 = some (n + w) := by rw [k6.1.2.2.2.2.2 4 (Or.inl rfl)]; exact r4
  replace e := ce_e r46 e
  replace e := gg_e e
  obtain ⟨h7, w7, e⟩ := nm_s e
  have k7 : DyK n h h7 := by rw [w7]; exact dk_wI k6
  have f7 : FrW (RS n) h h7 := by rw [w7]; exact fw_n f6 (Nat.le_refl _)
  have r47 : hR h7 (n + 513) 4 = some (n + w) := by rw [k7.1.2.2.2.2.2 4 (Or.inl rfl)]; exact r4
  replace e := ce_e r47 e
  replace e := gg_e e
  obtain ⟨h8, w8, e⟩ := nm_s e
  have f8 : FrW (RS n) h h8 := by rw [w8]; exact fw_n f7 (Nat.le_refl _)
  replace e := gg_e e
  obtain ⟨h9, w9, e⟩ := nm_s e
  have f9 : FrW (RS n) h h9 := by rw [w9]; exact fw_n f8 (Nat.le_refl _)
  replace e := gg_e e
  obtain ⟨h10, w10, e⟩ := nm_s e
  have f10 : FrW (RS n) h h10 := by rw [w10]; exact fw_n f9 (Nat.le_refl _)
  replace e := gg_e e
  obtain ⟨h11, w11, e⟩ := nm_s e
  have f11 : FrW (RS n) h h11 := by rw [w11]; exact fw_n f10 (Nat.le_refl _)
  have no : ∀ {o' : Int32 × Hp}, ¬ (0 ≤ x1.toInt ∧ x1.toInt ≤ 7) → o' = ((-101 : Int32), h11) → DyK n h o'.2 → RaO n j h σ o' (anTld σ tp x1) := fun {o'} u v kk => by
    have ne : ∀ y : Int32, 0 ≤ y.toInt ∧ y.toInt ≤ 7 → ¬ x1 = y := fun y hy z => u (by rw [z]; exact hy)
    unfold anTld
    rw [if_neg (ne 0 (by decide)), if_neg (ne 1 (by decide)), if_neg (ne 2 (by decide)), if_neg (ne 3 (by decide)), if_neg (ne 4 (by decide)), if_neg (ne 5 (by decide)), if_neg (ne 6 (by decide)), if_neg (ne 7 (by decide))]
    subst v
    exact rao_s (o := ((-101 : Int32), h11)) k Ok R f11 kk rfl
  rcases br_s e with ⟨c, e⟩ | ⟨c, e⟩
  · have c := lt_i c
    exact no (by omega) (so_e e) kk
  have c := nlt_i c
  rcases br_s e with ⟨c2, e⟩ | ⟨c2, e⟩
  rotate_left
  · have c2 := nle_i c2
    exact no (by omega) (so_e e) kk
  have c2 := le_i c2
  replace e := gg_e e
  have eo := so_e e
  subst eo
  refine rao_s (o := (hI h11 (hS h) x1.toNatClampNeg, h11)) k Ok R f11 kk ?_
  have rd : ∀ {g : Hp} {a i : Nat}, FrW (RS n) h g → a < n + 610 → ¬ RS n a i → hI g a i = hI h a i := fun F l nr => (F.2 _ _ (by omega) nr).1
  have nr : ∀ a i, a = n + w ∨ (a = n + 513 ∧ (i = 11 ∨ i = 12 ∨ i = 3 ∨ i = 1)) → ¬ RS n a i := fun a i y z => by
    unfold RS at z
    omega
  have v4 : h4 = wI h3 (hS h) 0 (hI h (n + 513) 11) := by rw [w4, rd f3 (by omega) (nr _ _ (Or.inr ⟨rfl, Or.inl rfl⟩))]; rfl
  have v5 : h5 = wI h4 (hS h) 1 (hI h (n + 513) 12) := by rw [w5, rd f4 (by omega) (nr _ _ (Or.inr ⟨rfl, by omega⟩))]; rfl
  have v6 : h6 = wI h5 (hS h) 2 (hI h (n + w) 2) := by rw [w6, rd f5 (by omega) (nr _ _ (Or.inl rfl))]; rfl
  have v7 : h7 = wI h6 (hS h) 3 (hI h (n + w) 10) := by rw [w7, rd f6 (by omega) (nr _ _ (Or.inl rfl))]; rfl
  have v8 : h8 = wI h7 (hS h) 4 (hI h (n + w) 11) := by rw [w8, rd f7 (by omega) (nr _ _ (Or.inl rfl))]; rfl
  have v9 : h9 = wI h8 (hS h) 5 x2 := by rw [w9]; rfl
  have v10 : h10 = wI h9 (hS h) 6 (hI h (n + 513) 3) := by rw [w10, rd f9 (by omega) (nr _ _ (Or.inr ⟨rfl, by omega⟩))]; rfl
  have v11 : h11 = wI h10 (hS h) 7 (hI h (n + 513) 1) := by rw [w11, rd f10 (by omega) (nr _ _ (Or.inr ⟨rfl, by omega⟩))]; rfl
  have al : ∀ q, q < 8 → hI h11 (hS h) q = if q = 7 then hI h (n + 513) 1 else if q = 6 then hI h (n + 513) 3 else if q = 5 then x2 else if q = 4 then hI h (n + w) 11 else if q = 3 then hI h (n + w) 10 else if q = 2 then hI h (n + w) 2 else if q = 1 then hI h (n + 513) 12 else if q = 0 then hI h (n + 513) 11 else hI h3 (hS h) q := fun q _ => by
    rw [v11, v10, v9, v8, v7, v6, v5, v4]
    simp only [r_I, true_and]
  show (hI h11 (hS h) x1.toNatClampNeg).toInt = _
  have nc := nc_i (x := x1) (by omega)
  rw [al _ (by omega)]
  unfold anTld
  have cs : x1.toInt = 0 ∨ x1.toInt = 1 ∨ x1.toInt = 2 ∨ x1.toInt = 3 ∨ x1.toInt = 4 ∨ x1.toInt = 5 ∨ x1.toInt = 6 ∨ x1.toInt = 7 := by omega
  rcases cs with z | z | z | z | z | z | z | z
  · have y : x1 = 0 := Int32.toInt_inj.mp z
    subst y
    exact l11
  · have y : x1 = 1 := Int32.toInt_inj.mp z
    subst y
    exact l12
  · have y : x1 = 2 := Int32.toInt_inj.mp z
    subst y
    exact lw 2 (by decide)
  · have y : x1 = 3 := Int32.toInt_inj.mp z
    subst y
    exact lw 10 (by decide)
  · have y : x1 = 4 := Int32.toInt_inj.mp z
    subst y
    exact lw 11 (by decide)
  · have y : x1 = 5 := Int32.toInt_inj.mp z
    subst y
    exact e2
  · have y : x1 = 6 := Int32.toInt_inj.mp z
    subst y
    exact R.2.2.2.2.1.1
  · have y : x1 = 7 := Int32.toInt_inj.mp z
    subst y
    exact T
end
end
