section
/-! ENDINGS, the reference: one state begins -/
/-- whether a state is RIGHT -/
def RtN (L : Nat → Nat → Int) (row : Nat → Int) (q num m sd : Nat) : Prop := StD row q num m ∧ wrN L (ndZ (lyM row q num m) sd) = 0
section
variable {n F : Nat} {g h o : Hp} {L : Nat → Nat → Int} {x1 x2 x3 : Int32} {row : Nat → Int} {sd q num m k km at0 : Nat}
/-- what one beginning leaves -/
def BgR (n : Nat) (h o : Hp) (L : Nat → Nat → Int) (row : Nat → Int) (q num m sd k km at0 : Nat) : Prop := FrW (WBg n km at0) h o ∧ ((RtN L row q num m sd ∧ (hI o (n + 595) at0).toInt = v0V L (ndZ (lyM row q num m) sd)) ∨ (¬ RtN L row q num m sd ∧ (hI o (n + 595) at0).toInt = 3000000)) ∧ (∀ a b : Nat, b < 64 → (bitJ (hJ o (n + 597) a) b = true ↔ (bitJ (hJ h (n + 597) a) b = true ∨ ((RtN L row q num m sd ∧ RyH L (lyM row q num m) sd) ∧ a = at0 / 64 ∧ b = at0 % 64)))) ∧ MkN n h o km k num sd m q L (ndZ (lyM row q num m) sd) (RtN L row q num m sd ∧ v0N L (ndZ (lyM row q num m) sd) = none)
theorem sh6_i {x : Int32} {a : Nat} (ex : x.toInt = (a : Int)) (a6 : a < 600000) : (x >>> ((6 : Int32) &&& 31)).toNatClampNeg = a / 64 := by
  have e : (x >>> ((6 : Int32) &&& 31)).toInt = x.toInt / 64 := ti_shr6
  have := nc_i (x := x >>> ((6 : Int32) &&& 31)) (by omega)
  omega
theorem bgn_k (OK : LwOk L) (nb : L 18 0 = 0) (kh : DyK n h h) (kg : DyK n g h) (q0 : 0 < q) (q64 : q ≤ 64) (eq : (q : Int) = L 0 0 * L 1 0) (n6 : num ≤ 300000) (km6 : n + 610 ≤ km) (kmS : km < hS h) (k12 : k < 4096) (sd2 : sd < 2) (S : BgS n h L km k m q num row) (R : RwO L row m) (b6 : at0 < 600000) (eb : (hI h (n + 594) k).toInt + ((2 * num + sd : Nat) : Int) = (at0 : Int)) (e1 : x1.toInt = (k : Int)) (e2 : x2.toInt = ((2 * num + sd : Nat) : Int)) (e : sX15_begin F h (n + 513) x1 x2 = some o) : DyK n g o ∧ DyK n h o ∧ BgR n h o L row q num m sd k km at0 := by
  have z0 : (0 : Int32).toInt = 0 := rfl
  have z1 : (1 : Int32).toInt = 1 := rfl
  have s6 := dk_610 kh
  have n1 : x1.toNatClampNeg = k := by have := nc_i (x := x1) (by omega); omega
  have m5 : m ≤ 5 := R.1
  have rp : ∀ i, i < m → 1 ≤ row i := fun i hi => (R.2.1 i hi).1
  unfold sX15_begin at e
  replace e := ce_e (dk_e (a := 513) (f := 48) (b := 594) kh (by decide +kernel)) e
  replace e := gg_e e
  obtain ⟨v3, w3, e⟩ := nm_s e
  rw [n1] at w3
  have y3 : v3.toInt = (at0 : Int) := by rw [w3, ta (by rw [e2]; omega), e2]; exact eb
  have n3 : v3.toNatClampNeg = at0 := by have := nc_i (x := v3) (by omega); omega
  replace e := ce_e (dk_e (a := 513) (f := 51) (b := 595) kh (by decide +kernel)) e
  replace e := gg_e e
  obtain ⟨h6, w6, e⟩ := nm_s e
  rw [n3] at w6
  have k6 : DyK n h h6 := by rw [w6]; exact dk_wI kh
  have k6g : DyK n g h6 := by rw [w6]; exact dk_wI kg
  have F6 : FrW (fun a i => a = n + 595 ∧ i = at0) h h6 := by rw [w6]; exact fw_wI fw_0 ⟨rfl, rfl⟩
  have S6 := bgs_f kh k6 (by omega) F6 (fun a i c _ => Or.inr (Or.inr (Or.inl c.1))) S
  obtain ⟨o7, e7, e⟩ := cl_s e
  obtain ⟨F7', k7g, k7', r7⟩ := lsr_k (dk_self k6) k6g q0 q64 (by omega) S6.2.2.2.1 m5 k12 S6.2.1 rp sd2 e1 e2 e7
  have k7 : DyK n h o7.2 := dk_t k6 k7'
  have s7 := dk_610 k7
  have s66 := dk_610 k6
  have F7 : FrW (WBg n km at0) h o7.2 := fw_t (fw_s F6 (fun _ _ c => Or.inr (Or.inr (Or.inl c)))) (fw_s F7' (fun _ _ c => Or.inr (Or.inl c)))
  have v7 : hI o7.2 (n + 595) at0 = (3000000 : Int32) := by
    rw [(F7'.2 (n + 595) at0 (by omega) (fun c => by unfold WLs at c; omega)).1, w6, rI_s]
  have j7 : ∀ a i, (a = n + 597 ∨ a = km) → hJ o7.2 a i = hJ h a i := fun a i ha => by
    have lt : a < hS h := by rcases ha with z | z <;> omega
    have l6 : a < hS h6 := Nat.lt_of_lt_of_le lt F6.1
    rw [(F7'.2 a i l6 (fun c => by unfold WLs at c; rcases ha with z | z <;> omega)).2]
    rw [w6]
    rfl
  have bad : ∀ {u : Hp}, DyK n g u → DyK n h u → FrW (WBg n km at0) h u → hI u (n + 595) at0 = (3000000 : Int32) → (∀ a i, (a = n + 597 ∨ a = km) → hJ u a i = hJ h a i) → ¬ RtN L row q num m sd → DyK n g u ∧ DyK n h u ∧ BgR n h u L row q num m sd k km at0 := fun {u} kgu khu Fu vu ju nr => by
    refine ⟨kgu, khu, Fu, Or.inr ⟨nr, by rw [vu]; rfl⟩, fun a b hb => ?_, mkn_0 (fun z => nr z.1) (fun a => ju km a (Or.inr rfl))⟩
    rw [ju (n + 597) a (Or.inl rfl)]
    exact ⟨fun z => Or.inl z, fun z => z.elim id (fun z => absurd z.1.1 nr)⟩
  rcases r7 with ⟨c7, ns⟩ | ⟨c7, St, A7⟩
  · replace e := bp_e c7 e
    unfold sX15_begin_38 at e
    rw [so_e e]
    exact bad k7g k7 F7 v7 j7 (fun z => ns z.1)
  replace e := bn_e (by rw [c7]; decide) e
  have HM := nd_mok (num := num) q0 eq R
  have Un := nd_un (q := q) (num := num) R
  obtain ⟨Z, hZ⟩ : ∃ Z, Z = ndZ (lyM row q num m) sd := ⟨_, rfl⟩
  have Rd : PzRd L Z := by rw [hZ]; exact nd_rd HM sd2
  rw [← hZ] at A7
  have S7 := bgs_f (dk_self k6) k7' (by omega) F7' (fun a i c _ => Or.inr (Or.inl c)) S6
  replace e := ce_e (dk_e (a := 513) (f := 60) (b := 602) k7 (by decide +kernel)) e
  obtain ⟨o10, e10, e⟩ := cl_s e
  obtain ⟨own, Dw⟩ := k7.1.1
  obtain ⟨w, hw, _, _, C⟩ := id S7.1
  have D : VD (vM n (hS o7.2) (n + 602) (hS o7.2 + 1000 * 5) (hS o7.2 + 1000 * 6) (hS o7.2 + 1000 * 7) (n + w)) := vd_m Dw.1 (bk602 Dw.1) (bke_o (c := 5)) (bke_o (c := 6)) (bke_o (c := 7)) (bk_lw Dw.1 hw) (by split <;> omega)
  obtain ⟨f10, v10⟩ := wr_r D OK.1 OK.2.1 Rd.1 (rfl_m.mpr C) (rba_m.mpr A7) (dk_e (a := 513) (f := 22) (b := 543) k7 (by decide +kernel)) e10
  have k10' : DyK n o7.2 o10.2 := dk_X15_wrongOf (dk_self k7) e10
  have k10 : DyK n h o10.2 := dk_t k7 k10'
  have k10g : DyK n g o10.2 := dk_X15_wrongOf k7g e10
  have F10' : FrW (RS n) o7.2 o10.2 := fw_v (W := RS n) (sb := rsB) (cs := []) f10 (hs_g k10'.1) (by decide +kernel) (fun j f i z y => rsb_c z y) (fun c hc => absurd hc (List.not_mem_nil))
  have F10 : FrW (WBg n km at0) h o10.2 := fw_t F7 (fw_s F10' (fun _ _ c => Or.inl c))
  have s10 := dk_610 k10
  have kS7 : km < hS o7.2 := Nat.lt_of_lt_of_le kmS F7.1
  have kS10 : km < hS o10.2 := Nat.lt_of_lt_of_le kmS F10.1
  have c10 : hI o10.2 (n + 595) at0 = (3000000 : Int32) := by rw [(F10'.2 (n + 595) at0 (by omega) (fun c => by unfold RS at c; omega)).1]; exact v7
  have j10 : ∀ a i, (a = n + 597 ∨ a = km) → hJ o10.2 a i = hJ h a i := fun a i ha => by
    rw [(F10'.2 a i (by rcases ha with z | z <;> omega) (fun c => by unfold RS at c; rcases ha with z | z <;> omega)).2]
    exact j7 a i ha
  have wb := wrn_b (L := L) (P := Z)
  rcases br_s e with ⟨c2, e⟩ | ⟨c2, e⟩
  rotate_left
  · have c2 := nle_i c2
    rw [z0, v10] at c2
    unfold sX15_begin_38 at e
    rw [so_e e]
    exact bad k10g k10 F10 c10 j10 (fun z => by have := z.2; rw [← hZ] at this; omega)
  have c2 := le_i c2
  rw [z0, v10] at c2
  have w0 : wrN L Z = 0 := by omega
  have Oz := wr_ok OK.1 OK.2.1 Rd w0
  have Rt : RtN L row q num m sd := ⟨St, by rw [← hZ]; exact w0⟩
  have S10 := bgs_f (dk_self k7) k10' (by omega) F10' (fun a i c _ => Or.inl c) S7
  have A10 : RbA o10.2 (n + 602) Z := rba_f A7 (e602 k10) (fun j i hj => F10'.2 _ _ (by omega) (fun c => by unfold RS at c; omega))
  replace e := ce_e (dk_e (a := 513) (f := 60) (b := 602) k10 (by decide +kernel)) e
  replace e := ce_e (dk_e (a := 513) (f := 60) (b := 602) k10 (by decide +kernel)) e
  obtain ⟨o14, e14, e⟩ := cl_s e
  obtain ⟨p14, ro⟩ := ryh_d OK Oz k10 S10.1 A10 e14
  rw [p14] at e
  have pS : pzS Z = sd := by rw [hZ]; rfl
  have pM : Z.1 = lyM row q num m := by rw [hZ]; rfl
  rw [pS, pM] at ro
  -- what follows, with a row of checks
  have go : ∀ {u : Hp}, DyK n o10.2 u → DyK n g u → FrW (fun a i => RS n a i ∨ (a = n + 597 ∧ i = at0 / 64)) o10.2 u → RbA u (n + 602) Z → BgS n u L km k m q num row → (∀ a b : Nat, b < 64 → (bitJ (hJ u (n + 597) a) b = true ↔ (bitJ (hJ h (n + 597) a) b = true ∨ (RyH L (lyM row q num m) sd ∧ a = at0 / 64 ∧ b = at0 % 64)))) → sX15_begin_99 F u (n + 513) x1 x2 v3 = some o → DyK n g o ∧ DyK n h o ∧ BgR n h o L row q num m sd k km at0 := fun {u} ku kug Fu Au Su bu e => by
    have khu : DyK n h u := dk_t k10 ku
    have su := dk_610 ku
    have kSu : km < hS u := Nat.lt_of_lt_of_le kS10 Fu.1
    have lu : hS o10.2 ≤ hS u := Fu.1
    rw [hZ] at Oz Au
    obtain ⟨r1, r2, r3, r4, r5⟩ := bgn_99 (g := g) OK (dk_self ku) kug q0 q64 (by omega) km6 kSu m5 k12 sd2 Su St rp Oz Au e1 e2 y3 e
    refine ⟨r1, dk_t khu r2, ?_, Or.inl ⟨Rt, r4⟩, fun a b hb => ?_, fun a b hb => ?_⟩
    · exact fw_t F10 (fw_t (fw_s Fu (fun a i c => by
        rcases c with c | c
        · exact Or.inl c
        · exact Or.inr (Or.inr (Or.inr (Or.inl c))))) (fw_s r3 (fun a i c => by
        rcases c with c | c | c
        · exact Or.inl c
        · exact Or.inr (Or.inr (Or.inl c))
        · exact Or.inr (Or.inr (Or.inr (Or.inr c))))))
    · rw [(r3.2 (n + 597) a (by omega) (fun c => by unfold RS at c; omega)).2, bu a b hb]
      exact ⟨fun z => z.elim Or.inl (fun z => Or.inr ⟨⟨Rt, z.1⟩, z.2⟩), fun z => z.elim Or.inl (fun z => Or.inr ⟨z.1.2, z.2⟩)⟩
    · have base : hJ u km a = hJ h km a := by
        rw [(Fu.2 km a kS10 (fun c => by unfold RS at c; omega)).2]
        exact j10 km a (Or.inr rfl)
      have mkE : ∀ j, mskI n u k num sd j = mskI n h k num sd j := fun j => (mki_f k10 Fu (fun i => ⟨fun c => by unfold RS at c; omega, fun c => by unfold RS at c; omega, fun c => by unfold RS at c; omega⟩)).trans (mki_f kh F10 (fun i => ⟨fun c => by unfold WBg RS WLs at c; omega, fun c => by unfold WBg RS WLs at c; omega, fun c => by unfold WBg RS WLs at c; omega⟩))
      rw [r5 a b hb, base]
      constructor
      · intro z
        rcases z with z | ⟨vn, v, j, hv, hj, a1, a2, a3⟩
        · exact Or.inl z
        · exact Or.inr ⟨⟨Rt, vn⟩, v, j, hv, hj, a1, a2, by rw [← mkE]; exact a3⟩
      · intro z
        rcases z with z | ⟨vn, v, j, hv, hj, a1, a2, a3⟩
        · exact Or.inl z
        · exact Or.inr ⟨vn.2, v, j, hv, hj, a1, a2, by rw [mkE]; exact a3⟩
  have no : ¬ RyH L (lyM row q num m) sd → ∀ {u : Hp}, DyK n o10.2 u → DyK n g u → FrW (RS n) o10.2 u → sX15_begin_99 F u (n + 513) x1 x2 v3 = some o → DyK n g o ∧ DyK n h o ∧ BgR n h o L row q num m sd k km at0 := fun nr {u} ku kug Fu e => by
    refine go ku kug (fw_s Fu (fun _ _ c => Or.inl c)) (rba_f A10 (e602 ku) (fun j i hj => Fu.2 _ _ (by omega) (fun c => by unfold RS at c; omega))) (bgs_f (dk_self k10) ku (by omega) Fu (fun a i c _ => Or.inl c) S10) (fun a b hb => ?_) e
    rw [(Fu.2 (n + 597) a (by omega) (fun c => by unfold RS at c; omega)).2, j10 (n + 597) a (Or.inl rfl)]
    exact ⟨fun z => Or.inl z, fun z => z.elim id (fun z => absurd z.1 nr)⟩
  rcases br_s e with ⟨c3, e⟩ | ⟨c3, e⟩
  · refine no (fun ⟨s, s64, r0, es, _⟩ => ?_) (dk_self k10) k10g fw_0 e
    rcases ro with ⟨_, z⟩ | ⟨z, _⟩
    · exact z s s64 r0 es
    · rw [c3] at z; exact absurd z.1 (by decide)
  have ro : Rg 0 63 o14.1 ∧ 0 ≤ L 10 0 ∧ lyM row q num m o14.1.toNatClampNeg = 1 + 2 * L 10 0 + (sd : Int) := by
    rcases ro with ⟨z, _⟩ | z
    · exact absurd z c3
    · exact z
  have n14 := nc_i (x := o14.1) ro.1.1
  have o63 := ro.1.2
  replace e := ce_e (dk_e (a := 513) (f := 60) (b := 602) k10 (by decide +kernel)) e
  replace e := ce_e (dk_e (a := 513) (f := 60) (b := 602) k10 (by decide +kernel)) e
  obtain ⟨o18, e18, e⟩ := cl_s e
  obtain ⟨own10, Dw10⟩ := k10.1.1
  obtain ⟨w10, hw10, _, _, C10⟩ := id S10.1
  have sdv : (hI o10.2 (n + 602) 1).toInt = (sd : Int) := by rw [← pS]; exact A10.2.2.1
  have d3 : ((1 : Int32) - hI o10.2 (n + 602) 1).toInt = 1 - (sd : Int) := by rw [ts (by rw [z1]; omega), z1, sdv]
  obtain ⟨f18, k18g, r18⟩ := att_m2 k10g Dw10.1 hw10 (bk602 Dw10.1) (by decide) OK.1 (by rw [pM]; exact HM) C10 A10 ro.1.1 ⟨by omega, by omega⟩ e18
  rw [pM, d3] at r18
  have k18 : DyK n o10.2 o18.2 := dk_X15_isAttacked (dk_self k10) e18
  have F18 : FrW (RS n) o10.2 o18.2 := fw_s f18 (fun a i c => by unfold RTx at c; unfold RS; omega)
  rcases br_s e with ⟨c4, e⟩ | ⟨c4, e⟩
  · refine no (fun ⟨s, s64, r0, es, at'⟩ => ?_) k18 k18g F18 e
    have ss : s = o14.1.toNatClampNeg := Un r0 sd s _ sd2 s64 (by omega) es ro.2.2
    rcases r18 with ⟨_, z⟩ | ⟨z, _⟩
    · exact z (by rw [← ss]; exact at')
    · rw [c4] at z; exact absurd z (by decide)
  have yr : RyH L (lyM row q num m) sd := by
    rcases r18 with ⟨z, _⟩ | ⟨_, z⟩
    · exact absurd z c4
    · exact ⟨_, by omega, ro.2.1, ro.2.2, z⟩
  have s18 := dk_610 k18
  replace e := ce_e (dk_e (a := 513) (f := 54) (b := 597) k18 (by decide +kernel)) e
  replace e := gg_e e
  replace e := gg_e e
  obtain ⟨h23, w23, e⟩ := nm_s e
  have r3 : Rg 0 599999 v3 := ⟨by omega, by omega⟩
  rw [sh6_i y3 b6] at w23
  refine go (u := h23) (by rw [w23]; exact dk_wJ k18) (by rw [w23]; exact dk_wJ k18g) (by rw [w23]; exact fw_wJ (fw_s F18 (fun _ _ c => Or.inl c)) (Or.inr ⟨rfl, rfl⟩)) ?_ ?_ (fun a b hb => ?_) e
  · have A18 : RbA o18.2 (n + 602) Z := rba_f A10 (e602 k18) (fun j i hj => F18.2 _ _ (by omega) (fun c => by unfold RS at c; omega))
    have k23 : DyK n o18.2 h23 := by rw [w23]; exact dk_wJ (dk_self k18)
    exact rba_f A18 (e602 k23) (fun j i hj => by
      rw [w23]
      exact ⟨rfl, by rw [r_J, if_neg (fun z => by omega)]⟩)
  · have S18 := bgs_f (dk_self k10) k18 (by omega) F18 (fun a i c _ => Or.inl c) S10
    have k23 : DyK n o18.2 h23 := by rw [w23]; exact dk_wJ (dk_self k18)
    have F23 : FrW (fun a _ => a = n + 597) o18.2 h23 := by rw [w23]; exact fw_wJ fw_0 rfl
    exact bgs_f (dk_self k18) k23 (by omega) F23 (fun a i c _ => Or.inr (Or.inr (Or.inr (Or.inl c)))) S18
  · have base : ∀ i, hJ o18.2 (n + 597) i = hJ h (n + 597) i := fun i => by
      rw [(F18.2 (n + 597) i (by omega) (fun c => by unfold RS at c; omega)).2]
      exact j10 _ _ (Or.inl rfl)
    rw [w23, r_J]
    by_cases c5 : a = at0 / 64
    · rw [if_pos ⟨rfl, c5⟩, bj_or, bj_one6 r3, n3, Bool.or_eq_true, decide_eq_true_iff, base, c5]
      exact ⟨fun z => z.elim Or.inl (fun z => Or.inr ⟨yr, rfl, z.symm⟩), fun z => z.elim Or.inl (fun z => Or.inr z.2.2.symm)⟩
    · rw [if_neg (fun z => c5 z.2), base]
      exact ⟨fun z => Or.inl z, fun z => z.elim id (fun z => absurd z.2.1 c5)⟩
end
end
section
/-! ENDINGS, the reference: the number of a state: sorting -/
section
variable {n F : Nat} {g h h0 : Hp} {o : Int32 × Hp} {x1 x2 x4 x5 : Int32} {m : Nat}
/-- man i of the row, with its square -/
abbrev rwU (n : Nat) (h : Hp) (i : Nat) : Int := 64 * (hI h (n + 600) i).toInt + (hI h (n + 601) i).toInt
def WSo (n a _i : Nat) : Prop := a = n + 600 ∨ a = n + 601
/-- all of the row within bounds -/
def RwB (n : Nat) (h : Hp) (m : Nat) : Prop := ∀ i, i < m → (1 ≤ (hI h (n + 600) i).toInt ∧ (hI h (n + 600) i).toInt ≤ 24) ∧ 0 ≤ (hI h (n + 601) i).toInt ∧ (hI h (n + 601) i).toInt ≤ 63
/-- the first i of u, with x put in its place p -/
theorem so_26 {K : Hp → Nat → Int32 → Int32 → Int32 → Option (Int32 × Hp)} {x3 : Int32} {i : Nat} {u : Nat → Int} (k0 : DyK n h0 h0) (i5 : i < 6) (e3 : x3.toInt = (i : Int)) (iv : 1 ≤ x4.toInt ∧ x4.toInt ≤ 24) (is : 0 ≤ x5.toInt ∧ x5.toInt ≤ 63) (us : ∀ a, a + 1 < i → u a < u (a + 1)) (ux : ∀ a, a < i → ¬ u a = 64 * x4.toInt + x5.toInt) : ∀ (f : Nat) {h : Hp} {x6 : Int32} {j : Nat}, DyK n g h → DyK n h0 h → FrW (WSo n) h0 h → x6.toInt = (j : Int) → j ≤ i → RwB n h j → (∀ a, j < a → a ≤ i → (1 ≤ (hI h (n + 600) a).toInt ∧ (hI h (n + 600) a).toInt ≤ 24) ∧ 0 ≤ (hI h (n + 601) a).toInt ∧ (hI h (n + 601) a).toInt ≤ 63) → (∀ a, a < j → rwU n h a = u a) → (∀ a, j < a → a ≤ i → rwU n h a = u (a - 1)) → (∀ a, j ≤ a → a < i → 64 * x4.toInt + x5.toInt < u a) → (∀ a, i < a → hI h (n + 600) a = hI h0 (n + 600) a ∧ hI h (n + 601) a = hI h0 (n + 601) a) → sX15_stateOf_26 F K f h (n + 513) x1 x2 x3 x4 x5 x6 = some o → ∃ (h' : Hp) (p : Nat), DyK n g h' ∧ DyK n h0 h' ∧ FrW (WSo n) h0 h' ∧ p ≤ i ∧ (∀ a, a < p → u a < 64 * x4.toInt + x5.toInt) ∧ (∀ a, p ≤ a → a < i → 64 * x4.toInt + x5.toInt < u a) ∧ RwB n h' (i + 1) ∧ (∀ a, a < i + 1 → rwU n h' a = inFx u p (64 * x4.toInt + x5.toInt) a) ∧ (∀ a, i < a → hI h' (n + 600) a = hI h0 (n + 600) a ∧ hI h' (n + 601) a = hI h0 (n + 601) a) ∧ K h' (n + 513) x1 x2 (x3 + (1 : Int32)) = some o := by
  have z1 : (1 : Int32).toInt = 1 := rfl
  have z0 : (0 : Int32).toInt = 0 := rfl
  have zm : (-1 : Int32).toInt = -1 := rfl
  intro f
  induction f with
  | zero => intro h x6 j _ _ _ _ _ _ _ _ _ _ _ e; exact absurd e (by rw [sX15_stateOf_26]; exact fun z => nomatch z)
  | succ f ih =>
    intro h x6 j kg kh Fr e6 ji rb ra lo hi gr up e
    rw [sX15_stateOf_26] at e
    have n6 : x6.toNatClampNeg = j := by have := nc_i (x := x6) (by omega); omega
    -- the man is put
    have put : (∀ a, a < j → u a < 64 * x4.toInt + x5.toInt) → sX15_stateOf_111 F K h (n + 513) x1 x2 x3 x4 x5 x6 = some o → ∃ (h' : Hp) (p : Nat), DyK n g h' ∧ DyK n h0 h' ∧ FrW (WSo n) h0 h' ∧ p ≤ i ∧ (∀ a, a < p → u a < 64 * x4.toInt + x5.toInt) ∧ (∀ a, p ≤ a → a < i → 64 * x4.toInt + x5.toInt < u a) ∧ RwB n h' (i + 1) ∧ (∀ a, a < i + 1 → rwU n h' a = inFx u p (64 * x4.toInt + x5.toInt) a) ∧ (∀ a, i < a → hI h' (n + 600) a = hI h0 (n + 600) a ∧ hI h' (n + 601) a = hI h0 (n + 601) a) ∧ K h' (n + 513) x1 x2 (x3 + (1 : Int32)) = some o := fun sm e => by
      unfold sX15_stateOf_111 at e
      replace e := ce_e (dk_e (a := 513) (f := 57) (b := 600) kh (by decide +kernel)) e
      replace e := gg_e e
      obtain ⟨h3, w3, e⟩ := nm_s e
      rw [n6] at w3
      have k3 : DyK n h0 h3 := by rw [w3]; exact dk_wI kh
      replace e := ce_e (dk_e (a := 513) (f := 58) (b := 601) k3 (by decide +kernel)) e
      replace e := gg_e e
      obtain ⟨h6, w6, e⟩ := nm_s e
      obtain ⟨v7, w7, e⟩ := nm_s e
      rw [n6] at w6
      rw [w7] at e
      have k6 : DyK n h0 h6 := by rw [w6]; exact dk_wI k3
      have k6g : DyK n g h6 := by rw [w6, w3]; exact dk_wI (dk_wI kg)
      have F6 : FrW (WSo n) h0 h6 := by rw [w6, w3]; exact fw_wI (fw_wI Fr (Or.inl rfl)) (Or.inr rfl)
      have c0 : ∀ a, hI h6 (n + 600) a = if a = j then x4 else hI h (n + 600) a := fun a => by
        rw [w6, rI_a (by omega), w3, r_I]
        by_cases y : a = j
        · rw [if_pos ⟨rfl, y⟩, if_pos y]
        · rw [if_neg (fun z => y z.2), if_neg y]
      have c1 : ∀ a, hI h6 (n + 601) a = if a = j then x5 else hI h (n + 601) a := fun a => by
        rw [w6, r_I]
        by_cases y : a = j
        · rw [if_pos ⟨rfl, y⟩, if_pos y]
        · rw [if_neg (fun z => y z.2), if_neg y, w3, rI_a (by omega)]
      refine ⟨h6, j, k6g, k6, F6, ji, sm, gr, fun a ha => ?_, fun a ha => ?_, fun a ha => ?_, e⟩
      · rw [c0, c1]
        by_cases y : a = j
        · rw [if_pos y, if_pos y]; exact ⟨iv, is⟩
        · rw [if_neg y, if_neg y]
          by_cases y2 : a < j
          · exact rb a y2
          · exact ra a (by omega) (by omega)
      · show 64 * (hI h6 (n + 600) a).toInt + (hI h6 (n + 601) a).toInt = _
        rw [c0, c1]
        unfold inFx
        by_cases y : a = j
        · rw [if_pos y, if_pos y, if_neg (by omega), if_pos y]
        · rw [if_neg y, if_neg y]
          by_cases y2 : a < j
          · rw [if_pos y2]; exact lo a y2
          · rw [if_neg y2, if_neg y]; exact hi a (by omega) (by omega)
      · rw [c0, c1, if_neg (by omega), if_neg (by omega)]
        exact up a ha
    rcases br_s e with ⟨c, e⟩ | ⟨c, e⟩
    · have c := le_i c
      exact put (fun a ha => by omega) e
    have c := nle_i c
    have j0 : 0 < j := by omega
    have x61 : (x6 - (1 : Int32)).toInt = ((j - 1 : Nat) : Int) := by rw [ts (by rw [z1]; omega), z1]; omega
    have n61 : (x6 - (1 : Int32)).toNatClampNeg = j - 1 := by have := nc_i (x := x6 - (1 : Int32)) (by omega); omega
    have e57 := dk_e (a := 513) (f := 57) (b := 600) kh (by decide +kernel)
    have e58 := dk_e (a := 513) (f := 58) (b := 601) kh (by decide +kernel)
    have b1 := rb (j - 1) (by omega)
    have l1 := lo (j - 1) (by omega)
    have l1 : 64 * (hI h (n + 600) (j - 1)).toInt + (hI h (n + 601) (j - 1)).toInt = u (j - 1) := l1
    have nx := ux (j - 1) (by omega)
    -- the man before is the greater
    have mov : 64 * x4.toInt + x5.toInt < u (j - 1) → sX15_stateOf_73 F K (sX15_stateOf_26 F K f) h (n + 513) x1 x2 x3 x4 x5 x6 = some o → ∃ (h' : Hp) (p : Nat), DyK n g h' ∧ DyK n h0 h' ∧ FrW (WSo n) h0 h' ∧ p ≤ i ∧ (∀ a, a < p → u a < 64 * x4.toInt + x5.toInt) ∧ (∀ a, p ≤ a → a < i → 64 * x4.toInt + x5.toInt < u a) ∧ RwB n h' (i + 1) ∧ (∀ a, a < i + 1 → rwU n h' a = inFx u p (64 * x4.toInt + x5.toInt) a) ∧ (∀ a, i < a → hI h' (n + 600) a = hI h0 (n + 600) a ∧ hI h' (n + 601) a = hI h0 (n + 601) a) ∧ K h' (n + 513) x1 x2 (x3 + (1 : Int32)) = some o := fun big e => by
      unfold sX15_stateOf_73 at e
      replace e := ce_e e57 e
      replace e := ce_e e57 e
      replace e := gg_e e
      replace e := gg_e e
      obtain ⟨h5, w5, e⟩ := nm_s e
      rw [n6, n61] at w5
      have k5 : DyK n h0 h5 := by rw [w5]; exact dk_wI kh
      replace e := ce_e (dk_e (a := 513) (f := 58) (b := 601) k5 (by decide +kernel)) e
      replace e := ce_e (dk_e (a := 513) (f := 58) (b := 601) k5 (by decide +kernel)) e
      replace e := gg_e e
      replace e := gg_e e
      obtain ⟨h10, w10, e⟩ := nm_s e
      obtain ⟨v11, w11, e⟩ := nm_s e
      rw [n6, n61] at w10
      have k10 : DyK n h0 h10 := by rw [w10]; exact dk_wI k5
      have k10g : DyK n g h10 := by rw [w10, w5]; exact dk_wI (dk_wI kg)
      have F10 : FrW (WSo n) h0 h10 := by rw [w10, w5]; exact fw_wI (fw_wI Fr (Or.inl rfl)) (Or.inr rfl)
      have c0 : ∀ a, hI h10 (n + 600) a = if a = j then hI h (n + 600) (j - 1) else hI h (n + 600) a := fun a => by
        rw [w10, rI_a (by omega), w5, r_I]
        by_cases y : a = j
        · rw [if_pos ⟨rfl, y⟩, if_pos y]
        · rw [if_neg (fun z => y z.2), if_neg y]
      have c1 : ∀ a, hI h10 (n + 601) a = if a = j then hI h (n + 601) (j - 1) else hI h (n + 601) a := fun a => by
        rw [w10, r_I]
        have z : hI h5 (n + 601) (j - 1) = hI h (n + 601) (j - 1) := by rw [w5, rI_a (by omega)]
        by_cases y : a = j
        · rw [if_pos ⟨rfl, y⟩, if_pos y, z]
        · rw [if_neg (fun z => y z.2), if_neg y, w5, rI_a (by omega)]
      have y11 : v11.toInt = ((j - 1 : Nat) : Int) := by rw [w11, ta (by rw [zm]; omega), zm]; omega
      refine ih k10g k10 F10 y11 (by omega) (fun a ha => ?_) (fun a h1 h2 => ?_) (fun a ha => ?_) (fun a h1 h2 => ?_) (fun a h1 h2 => ?_) (fun a ha => ?_) e
      · rw [c0, c1, if_neg (by omega), if_neg (by omega)]; exact rb a (by omega)
      · rw [c0, c1]
        by_cases y : a = j
        · rw [if_pos y, if_pos y]; exact b1
        · rw [if_neg y, if_neg y]; exact ra a (by omega) h2
      · show 64 * (hI h10 (n + 600) a).toInt + (hI h10 (n + 601) a).toInt = _
        rw [c0, c1, if_neg (by omega), if_neg (by omega)]; exact lo a (by omega)
      · show 64 * (hI h10 (n + 600) a).toInt + (hI h10 (n + 601) a).toInt = _
        rw [c0, c1]
        by_cases y : a = j
        · rw [if_pos y, if_pos y, y]; exact l1
        · rw [if_neg y, if_neg y]; exact hi a (by omega) h2
      · by_cases y : a = j - 1
        · rw [y]; exact big
        · exact gr a (by omega) h2
      · rw [c0, c1, if_neg (by omega), if_neg (by omega)]; exact up a ha
    have less : u (j - 1) < 64 * x4.toInt + x5.toInt → ∀ a, a < j → u a < 64 * x4.toInt + x5.toInt := fun z a ha => by
      have md : ∀ d, d < j → u (j - 1 - d) ≤ u (j - 1) := fun d => by
        induction d with
        | zero => intro _; exact Int.le_refl _
        | succ d ihd =>
          intro hd
          have h1 := ihd (by omega)
          have h2 := us (j - 1 - (d + 1)) (by omega)
          have e : j - 1 - (d + 1) + 1 = j - 1 - d := by omega
          rw [e] at h2
          omega
      have := md (j - 1 - a) (by omega)
      have e : j - 1 - (j - 1 - a) = a := by omega
      rw [e] at this
      omega
    replace e := ce_e e57 e
    replace e := gg_e e
    rcases br_s e with ⟨c1, e⟩ | ⟨c1, e⟩ <;> rw [n61] at c1
    · have c1 := lt_i c1
      have c1 : x4.toInt < (hI h (n + 600) (j - 1)).toInt := c1
      exact mov (by omega) e
    have c1 := nlt_i c1
    have c1 : (hI h (n + 600) (j - 1)).toInt ≤ x4.toInt := c1
    replace e := ce_e e57 e
    replace e := gg_e e
    rcases br_s e with ⟨c2, e⟩ | ⟨c2, e⟩ <;> rw [n61] at c2
    · have c2 : (hI h (n + 600) (j - 1)).toInt = x4.toInt := congrArg Int32.toInt c2
      replace e := ce_e e58 e
      replace e := gg_e e
      rcases br_s e with ⟨c3, e⟩ | ⟨c3, e⟩ <;> rw [n61] at c3
      · have c3 := le_i c3
        have c3 : (hI h (n + 601) (j - 1)).toInt ≤ x5.toInt := c3
        exact put (less (by omega)) e
      · have c3 := nle_i c3
        have c3 : x5.toInt < (hI h (n + 601) (j - 1)).toInt := c3
        exact mov (by omega) e
    · have c2 : ¬ (hI h (n + 600) (j - 1)).toInt = x4.toInt := fun z => c2 (Int32.toInt_inj.mp z)
      exact put (less (by omega)) e
end
end
section
/-! ENDINGS, the reference: the number of a state: the row sorted, its number -/
section
variable {n F : Nat} {g h h0 : Hp} {o : Int32 × Hp} {x1 x2 : Int32} {m : Nat}
/-- the first i of both rows are the same men -/
def SaM (n : Nat) (h0 h : Hp) (i : Nat) : Prop := (∀ a, a < i → ∃ b, b < i ∧ rwU n h a = rwU n h0 b) ∧ ∀ b, b < i → ∃ a, a < i ∧ rwU n h a = rwU n h0 b
theorem so_2 (k0 : DyK n h0 h0) (m5 : m ≤ 5) (e1 : x1.toInt = (m : Int)) (B0 : RwB n h0 m) (di : ∀ a b, a < b → b < m → ¬ rwU n h0 a = rwU n h0 b) : ∀ (f : Nat) {h : Hp} {x3 : Int32} {i : Nat}, DyK n g h → DyK n h0 h → FrW (WSo n) h0 h → x3.toInt = (i : Int) → 1 ≤ i → RwB n h m → (i ≤ m ∨ i = 1) → (i ≤ m → (∀ a, a + 1 < i → rwU n h a < rwU n h (a + 1)) ∧ SaM n h0 h i) → (∀ a, i ≤ a → hI h (n + 600) a = hI h0 (n + 600) a ∧ hI h (n + 601) a = hI h0 (n + 601) a) → sX15_stateOf_2 F f h (n + 513) x1 x2 x3 = some o → ∃ h', DyK n g h' ∧ DyK n h0 h' ∧ FrW (WSo n) h0 h' ∧ RwB n h' m ∧ (∀ a, a + 1 < m → rwU n h' a < rwU n h' (a + 1)) ∧ SaM n h0 h' m ∧ (cl (sX15_findSet F h' (n + 513) (n + 600) x1) fun o_3 => br (o_3.1 = (-1 : Int32)) (some ((-1 : Int32), o_3.2)) (nm (x1 - (1 : Int32)) fun v_5 => sX15_stateOf_160 F F o_3.2 (n + 513) x2 o_3.1 (0 : Int32) v_5)) = some o := by
  have z1 : (1 : Int32).toInt = 1 := rfl
  have s0 := dk_610 k0
  intro f
  induction f with
  | zero => intro h x3 i _ _ _ _ _ _ _ _ _ e; exact absurd e (by rw [sX15_stateOf_2]; exact fun z => nomatch z)
  | succ f ih =>
    intro h x3 i kg kh Fr e3 i1 B im so up e
    rw [sX15_stateOf_2] at e
    have e57 := dk_e (a := 513) (f := 57) (b := 600) kh (by decide +kernel)
    have e58 := dk_e (a := 513) (f := 58) (b := 601) kh (by decide +kernel)
    rcases br_s e with ⟨c, e⟩ | ⟨c, e⟩
    · have c := le_i c
      replace e := ce_e e57 e
      by_cases mi : i ≤ m
      · have : i = m := by omega
        rw [this] at so
        obtain ⟨a, b⟩ := so (Nat.le_refl _)
        exact ⟨h, kg, kh, Fr, B, a, b, e⟩
      · have : m = 0 := by omega
        refine ⟨h, kg, kh, Fr, B, fun a ha => by omega, ⟨fun a ha => by omega, fun a ha => by omega⟩, e⟩
    have c := nle_i c
    have im' : i < m := by omega
    obtain ⟨so1, so2⟩ := so (by omega)
    have n3 : x3.toNatClampNeg = i := by have := nc_i (x := x3) (by omega); omega
    replace e := ce_e e57 e
    replace e := gg_e e
    obtain ⟨v8, w8, e⟩ := nm_s e
    replace e := ce_e e58 e
    replace e := gg_e e
    obtain ⟨v11, w11, e⟩ := nm_s e
    rw [n3] at w8 w11
    have bi := B i im'
    have ui := up i (Nat.le_refl _)
    have xi : 64 * v8.toInt + v11.toInt = rwU n h0 i := by
      rw [w8, w11, ui.1, ui.2]
    obtain ⟨h', p, r1, r2, r3, r4, r5, r6, r7, r8, r9, e⟩ := so_26 (u := fun a => rwU n h a) k0 (by omega) e3 (by rw [w8]; exact bi.1) (by rw [w11]; exact bi.2) so1 (fun a ha z => by
      obtain ⟨b, hb, eb⟩ := so2.1 a ha
      have z : rwU n h a = 64 * v8.toInt + v11.toInt := z
      rw [eb, xi] at z
      exact di b i (by omega) im' z) F (j := i) kg kh Fr e3 (Nat.le_refl _) (fun a ha => B a (by omega)) (fun a h1 h2 => by omega) (fun a ha => rfl) (fun a h1 h2 => by omega) (fun a h1 h2 => by omega) (fun a ha => up a (by omega)) e
    rw [xi] at r5 r6 r8
    have pi : p ≤ i := r4
    have rr := ins_r (f := fun a => rwU n h a) (x := rwU n h0 i) (n := i) pi
    have y1 : (x3 + (1 : Int32)).toInt = ((i + 1 : Nat) : Int) := by rw [ta (by rw [z1]; omega), z1]; omega
    refine ih r1 r2 r3 y1 (by omega) (fun a ha => ?_) (Or.inl (by omega)) (fun _ => ⟨fun a ha => ?_, fun a ha => ?_, fun b hb => ?_⟩) (fun a ha => r9 a (by omega)) e
    · by_cases y : a < i + 1
      · exact r7 a y
      · have z := r9 a (by omega)
        rw [z.1, z.2]
        exact B0 a ha
    · rw [r8 a (by omega), r8 (a + 1) ha]
      exact ins_s (f := fun a => rwU n h a) (n := i) so1 pi r5 r6 a (by omega)
    · rw [r8 a ha]
      rcases rr.1 a ha with z | ⟨b, hb, z⟩
      · exact ⟨i, by omega, z⟩
      · obtain ⟨b', hb', eb⟩ := so2.1 b hb
        exact ⟨b', by omega, z.trans eb⟩
    · by_cases y : b = i
      · obtain ⟨a, ha, z⟩ := rr.2.1
        exact ⟨a, ha, by rw [r8 a ha, z, y]⟩
      · obtain ⟨a, ha, ea⟩ := so2.2 b (by omega)
        obtain ⟨a', ha', z⟩ := rr.2.2 a ha
        exact ⟨a', ha', by rw [r8 a' ha', z]; exact ea⟩
/-- the number of squares -/
theorem so_160 {q : Nat} {s : Nat → Nat} {k bk sd : Nat} {x3 : Int32} (kh : DyK n g h) (q64 : q ≤ 64) (q0 : 0 < q) (eq13 : (hI h (n + 513) 13).toInt = (q : Int)) (k12 : k < 4096) (e3 : x3.toInt = (k : Int)) (eb : (hI h (n + 594) k).toInt = (bk : Int)) (e2 : x2.toInt = (sd : Int)) (sd2 : sd < 2) (es : ∀ i, i < m → (hI h (n + 601) i).toInt = (s i : Int)) (sq : ∀ i, i < m → s i < q) (bb : bk + 2 * q ^ m ≤ 600000) (m5 : m ≤ 5) : ∀ (f : Nat) {x4 x5 : Int32} {j c : Nat}, x5.toInt = (j : Int) - 1 → j ≤ m → x4.toInt = (c : Int) → c * q ^ j + nmV q s j = nmV q s m → c < q ^ (m - j) → sX15_stateOf_160 F f h (n + 513) x2 x3 x4 x5 = some o → o.2 = h ∧ o.1.toInt = ((bk + 2 * nmV q s m + sd : Nat) : Int) := by
  have z1 : (1 : Int32).toInt = 1 := rfl
  have z2 : (2 : Int32).toInt = 2 := rfl
  have zm : (-1 : Int32).toInt = -1 := rfl
  have z0 : (0 : Int32).toInt = 0 := rfl
  have lt := nmv_lt (s := s) q0 m sq
  intro f
  induction f with
  | zero => intro x4 x5 j c _ _ _ _ _ e; exact absurd e (by rw [sX15_stateOf_160]; exact fun z => nomatch z)
  | succ f ih =>
    intro x4 x5 j c e5 jm e4 ev cl' e
    rw [sX15_stateOf_160] at e
    rcases br_s e with ⟨d, e⟩ | ⟨d, e⟩
    · have d := lt_i d
      rw [z0] at d
      have j0 : j = 0 := by omega
      rw [j0] at ev
      have ev : c * q ^ 0 + 0 = nmV q s m := ev
      rw [Nat.pow_zero] at ev
      have cv : c = nmV q s m := by omega
      have n3 : x3.toNatClampNeg = k := by have := nc_i (x := x3) (by omega); omega
      replace e := ce_e (dk_e (a := 513) (f := 48) (b := 594) kh (by decide +kernel)) e
      replace e := gg_e e
      rw [so_e e]
      refine ⟨rfl, ?_⟩
      show ((hI h (n + 594) x3.toNatClampNeg + (2 : Int32) * x4) + x2).toInt = _
      have t1 : ((2 : Int32) * x4).toInt = 2 * (nmV q s m : Int) := by rw [tm (by rw [z2]; omega), z2, e4, cv]
      have t2 : (hI h (n + 594) x3.toNatClampNeg + (2 : Int32) * x4).toInt = (bk : Int) + 2 * (nmV q s m : Int) := by rw [n3, ta (by rw [t1, eb]; omega), t1, eb]
      rw [ta (by rw [t2, e2]; omega), t2, e2]
      omega
    · have d := nlt_i d
      rw [z0] at d
      have j1 : 1 ≤ j := by omega
      have n5 : x5.toNatClampNeg = j - 1 := by have := nc_i (x := x5) (by omega); omega
      replace e := ce_e (dk_e (a := 513) (f := 58) (b := 601) kh (by decide +kernel)) e
      replace e := gg_e e
      obtain ⟨v6, w6, e⟩ := nm_s e
      obtain ⟨v7, w7, e⟩ := nm_s e
      rw [n5] at w6
      have sj := sq (j - 1) (by omega)
      have ej := es (j - 1) (by omega)
      have pe : q ^ (m - j) * q = q ^ (m - (j - 1)) := by
        rw [← Nat.pow_succ]
        congr 1
        omega
      have c1 : c * q + s (j - 1) < q ^ (m - (j - 1)) := by
        have a : (c + 1) * q ≤ q ^ (m - j) * q := Nat.mul_le_mul_right _ cl'
        rw [pe, Nat.add_mul, Nat.one_mul] at a
        omega
      have pm : q ^ (m - (j - 1)) ≤ q ^ m := Nat.pow_le_pow_right q0 (by omega)
      have cq : c * q ≤ 600000 := by omega
      have cq' : ((c * q : Nat) : Int) = (c : Int) * (q : Int) := by rw [Int.natCast_mul]
      have t1 : (x4 * hI h (n + 513) 13).toInt = ((c * q : Nat) : Int) := by rw [tm (by rw [e4, eq13, ← cq']; omega), e4, eq13, cq']
      have y6 : v6.toInt = ((c * q + s (j - 1) : Nat) : Int) := by
        rw [w6, ta (by rw [t1, ej]; omega), t1, ej]; omega
      have y7 : v7.toInt = ((j - 1 : Nat) : Int) - 1 := by rw [w7, ta (by rw [zm]; omega), zm]; omega
      refine ih y7 (by omega) y6 ?_ c1 e
      have e1 : q ^ j = q ^ (j - 1) * q := by
        rw [← Nat.pow_succ]
        congr 1
        omega
      have e2 : nmV q s j = nmV q s (j - 1) + s (j - 1) * q ^ (j - 1) := by
        have : j = (j - 1) + 1 := by omega
        rw [this]
        rfl
      rw [← ev, e1, e2, Nat.add_mul, Nat.mul_assoc c q, Nat.mul_comm q]
      omega
end
end
section
/-! ENDINGS, the reference: a SET is found; the number of a state -/
/-- the SETS of the reference, as they are found -/
def FmR (n : Nat) (h : Hp) (N : Nat) (nk : Nat → Nat) (rk : Nat → Nat → Int) (bk : Nat → Nat) (q : Nat) : Prop := (N ≤ 1024 ∧ ∀ k, k < N → RSt n h k (nk k) (rk k) ∧ nk k ≤ 5 ∧ (∀ i, i < nk k → 1 ≤ rk k i ∧ rk k i ≤ 24) ∧ (hI h (n + 594) k).toInt = (bk k : Int) ∧ bk k + 2 * q ^ nk k ≤ 600000) ∧ (∀ j k, j < k → k < N → bk j + 2 * q ^ nk j ≤ bk k) ∧ (∀ k, k < N → Fnd (n + 599) (n + 598) (pkF (fun i => hI h (n + 593) (5 * k + i)) (hI h (n + 592) k) (nk k)) h) ∧ (∀ j, 0 ≤ (hI h (n + 599) j).toInt ∧ (hI h (n + 599) j).toInt ≤ 4096) ∧ ∀ j, j < 16384 → 0 < (hI h (n + 599) j).toInt → (hI h (n + 599) j).toInt ≤ (N : Int) ∧ hI h (n + 598) j = pkF (fun i => hI h (n + 593) (5 * ((hI h (n + 599) j).toInt.toNat - 1) + i)) (hI h (n + 592) ((hI h (n + 599) j).toInt.toNat - 1)) (hI h (n + 592) ((hI h (n + 599) j).toInt.toNat - 1)).toNatClampNeg
section
variable {n F N q m : Nat} {g h h0 o' : Hp} {nk : Nat → Nat} {rk : Nat → Nat → Int} {bk : Nat → Nat} {o : Int32 × Hp} {x1 x2 : Int32} {L : Nat → Nat → Int}
theorem fnd_f {rs rk : Nat} {key : Int32} (a : ∀ i, hI o' rs i = hI h rs i) (b : ∀ i, hI o' rk i = hI h rk i) (f : Fnd rs rk key h) : Fnd rs rk key o' := by
  obtain ⟨j, f1, f2, f3⟩ := f
  exact ⟨j, fun j' hj => by rw [a]; exact f1 j' hj, by rw [a]; exact f2, by rw [b]; exact f3⟩
theorem fmr_f {W : Nat → Nat → Prop} (kk : DyK n h h) (Fr : FrW W h o') (w : ∀ j i, (592 ≤ j ∧ j ≤ 594) ∨ (598 ≤ j ∧ j ≤ 599) → ¬ W (n + j) i) (S : FmR n h N nk rk bk q) : FmR n o' N nk rk bk q := by
  have s6 := dk_610 kk
  have I : ∀ j i, (592 ≤ j ∧ j ≤ 594) ∨ (598 ≤ j ∧ j ≤ 599) → hI o' (n + j) i = hI h (n + j) i := fun j i hj => (Fr.2 _ _ (by omega) (w j i hj)).1
  obtain ⟨⟨a1, a2⟩, a3, a4, a5, a6⟩ := S
  have e3 : ∀ k, (fun i => hI o' (n + 593) (5 * k + i)) = (fun i => hI h (n + 593) (5 * k + i)) := fun k => funext fun i => I 593 _ (by omega)
  refine ⟨⟨a1, fun k hk => ?_⟩, a3, fun k hk => ?_, fun j => ?_, fun j hj p => ?_⟩
  · obtain ⟨b1, b2, b3, b4, b5⟩ := a2 k hk
    exact ⟨⟨by rw [I 592 _ (by omega)]; exact b1.1, fun i hi => by rw [I 593 _ (by omega)]; exact b1.2 i hi⟩, b2, b3, by rw [I 594 _ (by omega)]; exact b4, b5⟩
  · rw [e3, I 592 _ (by omega)]
    exact fnd_f (fun i => I 599 i (by omega)) (fun i => I 598 i (by omega)) (a4 k hk)
  · rw [I 599 _ (by omega)]; exact a5 j
  · rw [I 599 _ (by omega)] at p ⊢
    rw [I 598 _ (by omega), e3, I 592 _ (by omega)]
    exact a6 j hj p
/-- finding -/
theorem fst_x (hF : 700000 ≤ F) (kh : DyK n h h) (S : FmR n h N nk rk bk q) (dis : ∀ j k, j < N → k < N → nk j = nk k → (∀ i, i < nk j → rk j i = rk k i) → j = k) (l6 : hN h (n + 600) = 6) (m5 : m ≤ 5) (e1 : x1.toInt = (m : Int)) (B : RwB n h m) (e : sX15_findSet F h (n + 513) (n + 600) x1 = some o) : o.2 = h ∧ ((o.1 = (-1 : Int32) ∧ ∀ k, k < N → ¬ (nk k = m ∧ ∀ i, i < m → rk k i = (hI h (n + 600) i).toInt)) ∨ ∃ k, k < N ∧ o.1.toInt = (k : Int) ∧ nk k = m ∧ ∀ i, i < m → rk k i = (hI h (n + 600) i).toInt) := by
  have zm : (-1 : Int32).toInt = -1 := rfl
  obtain ⟨⟨a1, a2⟩, a3, a4, a5, a6⟩ := S
  have n1 : x1.toNatClampNeg = m := by have := nc_i (x := x1) (by omega); omega
  have e56 := dk_e (a := 513) (f := 56) (b := 599) kh (by decide +kernel)
  have e55 := dk_e (a := 513) (f := 55) (b := 598) kh (by decide +kernel)
  obtain ⟨p1, p2, p3⟩ := find_q hF l6 ⟨by omega, by omega⟩ a5 e56 e55 e
  refine ⟨p1, ?_⟩
  -- rows cut to what counts
  have cut : ∀ (f : Nat → Int32) (y : Int32) (c : Nat), pkF f y c = pkF (fun i => if i < c then f i else 0) y c := fun f y c => pkF_eq c (fun i hi => by rw [if_pos hi])
  have pk0 : pkN h (n + 600) 0 x1 x1.toNatClampNeg = pkF (fun i => hI h (n + 600) (0 + i)) x1 m := by rw [pkN_F, n1]
  have nke : ∀ k, k < N → (hI h (n + 592) k).toNatClampNeg = nk k := fun k hk => by
    have := (a2 k hk).1.1
    have := nc_i (x := hI h (n + 592) k) (by omega)
    omega
  have inj : ∀ k, k < N → pkF (fun i => hI h (n + 593) (5 * k + i)) (hI h (n + 592) k) (nk k) = pkF (fun i => hI h (n + 600) (0 + i)) x1 m → nk k = m ∧ ∀ i, i < m → rk k i = (hI h (n + 600) i).toInt := fun k hk ee => by
    have b := a2 k hk
    rw [cut _ _ (nk k), cut _ _ m] at ee
    have ee : pkF (fun i => if i < nk k then hI h (n + 593) (5 * k + i) else 0) (hI h (n + 592) k) (hI h (n + 592) k).toNatClampNeg = pkF (fun i => if i < m then hI h (n + 600) (0 + i) else 0) x1 x1.toNatClampNeg := by rw [nke k hk, n1]; exact ee
    obtain ⟨q1, q2⟩ := pkF_inj ⟨by rw [b.1.1]; omega, by rw [b.1.1]; omega⟩ ⟨by omega, by omega⟩ (fun j => by
      show Rg 0 31 (if j < nk k then hI h (n + 593) (5 * k + j) else 0)
      split
      · rename_i c
        have := b.1.2 j c
        have := b.2.2.1 j c
        exact ⟨by omega, by omega⟩
      · exact ⟨by decide, by decide⟩) (fun j => by
      show Rg 0 31 (if j < m then hI h (n + 600) (0 + j) else 0)
      split
      · rename_i c
        have := (B j c).1
        rw [Nat.zero_add]
        exact ⟨by omega, by omega⟩
      · exact ⟨by decide, by decide⟩) ee
    have nm' : nk k = m := by
      have := congrArg Int32.toInt q1
      rw [b.1.1, e1] at this
      omega
    refine ⟨nm', fun i hi => ?_⟩
    have := q2 i (by rw [nke k hk]; omega)
    rw [if_pos (by omega), if_pos hi, Nat.zero_add] at this
    rw [← this]
    exact (b.1.2 i (by omega)).symm
  have fnd : ∀ k, k < N → nk k = m → (∀ i, i < m → rk k i = (hI h (n + 600) i).toInt) → Fnd (n + 599) (n + 598) (pkN h (n + 600) 0 x1 x1.toNatClampNeg) h := fun k hk nm' rr => by
    have b := a2 k hk
    have f := a4 k hk
    have e2 : hI h (n + 592) k = x1 := Int32.toInt_inj.mp (by rw [b.1.1, e1, nm'])
    rw [pk0]
    rw [e2, nm'] at f
    have : pkF (fun i => hI h (n + 593) (5 * k + i)) x1 m = pkF (fun i => hI h (n + 600) (0 + i)) x1 m := pkF_eq m (fun i hi => Int32.toInt_inj.mp (by rw [Nat.zero_add, b.1.2 i (by omega)]; exact rr i hi))
    rw [← this]
    exact f
  by_cases c : o.1 = (-1 : Int32)
  · refine Or.inl ⟨c, fun k hk z => ?_⟩
    have := p2 (fnd k hk z.1 z.2)
    rw [c, zm] at this
    omega
  · obtain ⟨f0, ff⟩ := p3 c
    -- the slot that was found
    have sl' : ∃ j, j < 16384 ∧ (hI h (n + 599) j).toInt = o.1.toInt + 1 ∧ hI h (n + 598) j = pkF (fun i => hI h (n + 600) (0 + i)) x1 m := by
      unfold sX15_findSet at e
      replace e := ce_e e56 e
      obtain ⟨o1, e2, e⟩ := cl_s e
      obtain ⟨o1', e2', pv⟩ := packed_q (F := F) (h := h) (a := n + 600) (x1 := x1) hF l6 ⟨by omega, by omega⟩
      rw [e2] at e2'
      have oo := Option.some.inj e2'
      rw [← oo] at pv
      obtain ⟨o2, e3, e⟩ := cl_s e
      rw [pv.1] at e3
      obtain ⟨s1, s2, mm, s3, s4, s5⟩ := slot_q e56 e55 e3
      have s1 : o2.2 = h := s1
      replace e := gg_e e
      rw [s1] at e
      have eo := so_e e
      have e1' : o.1 = hI h (n + 599) o2.1.toNatClampNeg - 1 := by rw [eo]
      have key : o1.1 = pkF (fun i => hI h (n + 600) (0 + i)) x1 m := by rw [pv.2, pk0]
      have g5 := a5 o2.1.toNatClampNeg
      have z1 : (1 : Int32).toInt = 1 := rfl
      have v : o.1.toInt = (hI h (n + 599) o2.1.toNatClampNeg).toInt - 1 := by rw [e1', ts (by rw [z1]; omega), z1]
      refine ⟨o2.1.toNatClampNeg, by rw [s3]; exact Nat.mod_lt _ (by decide), by omega, ?_⟩
      rcases s5 with z | z
      · rw [← s3] at z
        omega
      · rw [s3, z, key]
    obtain ⟨j, j1, j2, j3⟩ := sl'
    obtain ⟨t1, t2⟩ := a6 j j1 (by omega)
    have kk : (hI h (n + 599) j).toInt.toNat - 1 = o.1.toInt.toNat := by omega
    have kN : o.1.toInt.toNat < N := by omega
    rw [kk, nke _ kN] at t2
    rw [j3] at t2
    obtain ⟨r1, r2⟩ := inj _ kN t2.symm
    exact Or.inr ⟨_, kN, by omega, r1, r2⟩
end
end
section
/-! ENDINGS, the reference: the number of a state, whole -/
section
variable {n F N q m sd : Nat} {g h : Hp} {nk : Nat → Nat} {rk : Nat → Nat → Int} {bk : Nat → Nat} {o : Int32 × Hp} {x1 x2 : Int32} {L : Nat → Nat → Int} {M : Nat → Int}
/-- a board's place among the SETS -/
def NdO (N : Nat) (nk : Nat → Nat) (rk : Nat → Nat → Int) (q : Nat) (M : Nat → Int) (k num : Nat) : Prop := k < N ∧ num < q ^ nk k ∧ StD (rk k) q num (nk k) ∧ ∀ s, s < 64 → lyM (rk k) q num (nk k) s = M s
/-- what stateOf answers -/
def StA (n : Nat) (N : Nat) (nk : Nat → Nat) (rk : Nat → Nat → Int) (bk : Nat → Nat) (q sd : Nat) (M : Nat → Int) (x : Int32) : Prop := (x = (-1 : Int32) ∧ ∀ k num, ¬ NdO N nk rk q M k num) ∨ ∃ k num, NdO N nk rk q M k num ∧ x.toInt = ((bk k + 2 * num + sd : Nat) : Int)
theorem sof_k (hF : 700000 ≤ F) (kh : DyK n h h) (kg : DyK n g h) (q0 : 0 < q) (q64 : q ≤ 64) (eq : (q : Int) = L 0 0 * L 1 0) (eq13 : (hI h (n + 513) 13).toInt = (q : Int)) (S : FmR n h N nk rk bk q) (Fm : Fam L N nk rk) (HM : MOk L M) (M0 : ∀ s, 0 ≤ M s) (m5 : m ≤ 5) (e1 : x1.toInt = (m : Int)) (e2 : x2.toInt = (sd : Int)) (sd2 : sd < 2) (B : RwB n h m) (di : ∀ a b, a < b → b < m → ¬ rwU n h a = rwU n h b) (ma : ∀ i, i < m → M (hI h (n + 601) i).toInt.toNat = (hI h (n + 600) i).toInt) (mb : ∀ s : Nat, s < 64 → 0 < M s → ∃ i, i < m ∧ rwU n h i = 64 * M s + (s : Int)) (e : sX15_stateOf F h (n + 513) x1 x2 = some o) : FrW (WSo n) h o.2 ∧ DyK n g o.2 ∧ DyK n h o.2 ∧ StA n N nk rk bk q sd M o.1 := by
  have z1 : (1 : Int32).toInt = 1 := rfl
  have s6 := dk_610 kh
  unfold sX15_stateOf at e
  obtain ⟨h', kg', kh', Fr, B', so, sm, e⟩ := so_2 kh m5 e1 B di F (i := 1) kg kh fw_0 rfl (Nat.le_refl _) B (Or.inr rfl) (fun _ => ⟨fun a ha => by omega, ⟨fun a ha => ⟨a, ha, rfl⟩, fun a ha => ⟨a, ha, rfl⟩⟩⟩) (fun a _ => ⟨rfl, rfl⟩) e
  have S' := fmr_f kh Fr (fun j i hj c => by unfold WSo at c; omega) S
  have q13 : (hI h' (n + 513) 13).toInt = (q : Int) := by rw [(Fr.2 (n + 513) 13 (by omega) (fun c => by unfold WSo at c; omega)).1]; exact eq13
  have l6 : hN h' (n + 600) = 6 := ln_d kh'.1 (a := 600) (w := 6) (by decide)
  have E : EnU M m (fun i => rwU n h' i) := by
    refine ⟨so, fun i hi => ?_, fun s hs ms => ?_⟩
    · obtain ⟨b, hb, eb⟩ := sm.1 i hi
      have bb := B b hb
      have mm := ma b hb
      refine ⟨(hI h (n + 601) b).toInt.toNat, by omega, by rw [mm]; omega, ?_⟩
      show rwU n h' i = _
      rw [eb, mm]
      show 64 * (hI h (n + 600) b).toInt + (hI h (n + 601) b).toInt = _
      omega
    · obtain ⟨b, hb, eb⟩ := mb s hs ms
      obtain ⟨a, ha, ea⟩ := sm.2 b hb
      exact ⟨a, ha, by show rwU n h' a = _; rw [ea, eb]⟩
  have rd : ∀ i, i < m → rwU n h' i / 64 = (hI h' (n + 600) i).toInt ∧ (rwU n h' i % 64).toNat = (hI h' (n + 601) i).toInt.toNat ∧ rwU n h' i % 64 = (hI h' (n + 601) i).toInt := fun i hi => by
    have b := B' i hi
    have e0 : rwU n h' i = 64 * (hI h' (n + 600) i).toInt + (hI h' (n + 601) i).toInt := rfl
    omega
  have sq : ∀ i, i < m → (rwU n h' i % 64).toNat < q := fun i hi => by
    obtain ⟨s, s64, ms, es⟩ := E.2.1 i hi
    have es : rwU n h' i = 64 * M s + (s : Int) := es
    have := ((HM s s64).2 ms).1
    omega
  obtain ⟨o3, e3, e⟩ := cl_s e
  obtain ⟨p3, r3⟩ := fst_x hF (dk_self kh') S' Fm.2.1 l6 m5 e1 B' e3
  rw [p3] at e
  rcases r3 with ⟨c, no⟩ | ⟨k, kN, ek, nm', rr⟩
  · replace e := bp_e c e
    rw [so_e e]
    refine ⟨Fr, kg', kh', Or.inl ⟨rfl, fun k num z => ?_⟩⟩
    obtain ⟨kN, b, St, em⟩ := z
    have E1 := enu_l q0 q64 (Fm.1 k kN) St
    have E2 : EnU M (nk k) (fun i => 64 * rk k i + (sqi q num i : Int)) := by
      refine ⟨E1.1, fun i hi => ?_, fun s hs ms => ?_⟩
      · obtain ⟨s, a, b, c⟩ := E1.2.1 i hi
        exact ⟨s, a, by rw [← em s a]; exact b, by rw [← em s a]; exact c⟩
      · rw [← em s hs] at ms ⊢
        exact E1.2.2 s hs ms
    obtain ⟨nn, ff⟩ := enu_u E E2
    refine no k kN ⟨nn.symm, fun i hi => ?_⟩
    have f1 := ff i hi
    have f1 : rwU n h' i = 64 * rk k i + (sqi q num i : Int) := f1
    have f2 := sqi_lt (num := num) (i := i) q0
    rw [← (rd i hi).1]
    omega
  · replace e := bn_e (fun z => by rw [z] at ek; have : (-1 : Int32).toInt = -1 := rfl; omega) e
    obtain ⟨v5, w5, e⟩ := nm_s e
    obtain ⟨⟨a1, a2⟩, _⟩ := S'
    obtain ⟨b1, b2, b3, b4, b5⟩ := a2 k kN
    have R := Fm.1 k kN
    have y5 : v5.toInt = (m : Int) - 1 := by rw [w5, ts (by rw [z1]; omega), z1, e1]
    rw [nm'] at R b5
    obtain ⟨c1, c2, c3⟩ := nd_ex q0 R E (fun i hi => by rw [(rd i hi).1]; exact (rr i hi).symm) sq M0
    obtain ⟨d1, d2⟩ := so_160 (s := fun i => (rwU n h' i % 64).toNat) kh' q64 q0 q13 (by omega) ek b4 e2 sd2 (fun i hi => by
      have := B' i hi
      show _ = (((rwU n h' i % 64).toNat : Nat) : Int)
      rw [(rd i hi).2.1]
      omega) sq b5 m5 F (j := m) (c := 0) y5 (Nat.le_refl _) rfl (by rw [Nat.zero_mul, Nat.zero_add]) (by rw [Nat.sub_self, Nat.pow_zero]; decide) e
    rw [← nm'] at c1 c2 c3 d2
    refine ⟨by rw [d1]; exact Fr, by rw [d1]; exact kg', by rw [d1]; exact kh', Or.inr ⟨k, _, ⟨kN, c2, c1, c3⟩, d2⟩⟩
end
end
