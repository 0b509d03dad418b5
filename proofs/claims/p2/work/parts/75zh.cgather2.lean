/-! sets gathered -/
abbrev GSL : List (Nat × Nat) := [(20, 999), (21, 999), (22, 999), (1, 9), (1, 18)]
section
variable {ρ : Nat → Nat} {c : Cm} {h o : Hp} {x0 ks pw st L F : Nat} {x1 : Int32}
theorem evp_k {E : List (Nat × Nat)} (T : TH ρ c h) (r0 : ρ x0 = 1) (K : Kf ρ E h o) (y1 : mS E 1 5 = false := by rfl) (y2 : ∀ i, mS E 21 i = false := by intro _; rfl) (P : EvP x0 h) : EvP x0 o := fun r er i => by
  rw [kfR 5 K r0 (by decide) y1] at er
  have qr : ρ r = 21 := rr T (thR T r0 (i := 5) (k2 := 21) rfl (by decide)) er
  rw [kfI i K qr (by decide) (y2 i)]
  exact P r er i
theorem gatherC_q (hF : 700000 ≤ F) (hA : pmA c GSL) (T : TH ρ c h) (r0 : ρ x0 = 1) (e0 : hR h x0 0 = some L) (e4 : hR h x0 4 = some ks) (e5 : hR h x0 5 = some st) (e6 : hR h x0 6 = some pw) (ky : KyX (hI h x0 14)) (E : EvP x0 h) : Sat (sX0_gatherSets F h x0) (fun o => TH ρ c o.2 ∧ Rg 0 1 o.1 ∧ (¬ o.1 = 0 → StP x0 ks pw st o.2 ∧ 0 ≤ (hJ o.2 x0 18).toInt ∧ (hJ o.2 x0 18).toInt ≤ 600000) ∧ (∀ i : Nat, i ≤ 5 → (hI o.2 pw i).toInt = (hI h L 2).toInt ^ i) ∧ EvP x0 o.2 ∧ Kf ρ GSL h o.2) := by
  have qL : ρ L = 2 := rr T (thR T r0 (i := 0) (k2 := 2) rfl (by decide)) e0
  have qk : ρ ks = 20 := rr T (thR T r0 (i := 4) (k2 := 20) rfl (by decide)) e4
  have qs : ρ st = 21 := rr T (thR T r0 (i := 5) (k2 := 21) rfl (by decide)) e5
  have qp : ρ pw = 22 := rr T (thR T r0 (i := 6) (k2 := 22) rfl (by decide)) e6
  have sq := thI T qL (k := 2) (i := 2) (lo := 0) (hi := 64) rfl
  have z0 : (0 : Int32).toInt = 0 := rfl
  have z1 : (1 : Int32).toInt = 1 := rfl
  -- the end
  have b104 : ∀ {g : Hp}, TH ρ c g → Kf ρ GSL h g → EvP x0 g → SumP x0 ks pw g → (∀ i : Nat, i ≤ 5 → (hI g pw i).toInt = (hI h L 2).toInt ^ i) → Sat (sX0_gatherSets_104 F g x0) (fun o => TH ρ c o.2 ∧ Rg 0 1 o.1 ∧ (¬ o.1 = 0 → StP x0 ks pw st o.2 ∧ 0 ≤ (hJ o.2 x0 18).toInt ∧ (hJ o.2 x0 18).toInt ≤ 600000) ∧ (∀ i : Nat, i ≤ 5 → (hI o.2 pw i).toInt = (hI h L 2).toInt ^ i) ∧ EvP x0 o.2 ∧ Kf ρ GSL h o.2) := fun {g} Tg Kg Eg Sg Pg => by
    unfold sX0_gatherSets_104
    refine s_br (fun l => ?_) (fun _ => s_some ⟨Tg, rg_m (rg_b rfl : Rg 0 0 (0 : Int32)) (by decide), fun n => absurd rfl n, Pg, Eg, Kg⟩)
    have lt : (hJ g x0 18).toInt ≤ 600000 := cmp_le (b := (600000 : Int64)) (fun w => absurd (le_i l) (by have := lt_i w; omega))
    have t0 : 0 ≤ (hJ g x0 18).toInt := Int.le_trans (sm_0 (f := fun i => gK g pw (hI g ks i)) (fun i => by
      have := (thI Tg qp (k := 22) (i := szI (hI g ks i).toInt) (lo := 0) (hi := 1073741824) rfl).1
      show 0 ≤ gK g pw (hI g ks i)
      unfold gK
      omega) _) Sg
    refine s_cl (s_imp (sortC_q (st := st) hF (pmA_s hA rfl) Tg r0 (by rw [kfR 4 Kg r0]; exact e4) (by rw [kfR 5 Kg r0]; exact e5) (by rw [kfR 6 Kg r0]; exact e6) (Int.le_trans Sg lt) Eg) (fun o2 ⟨T2, S2, E2, K2⟩ => ?_))
    exact s_some ⟨T2, rg_m (rg_b rfl : Rg 1 1 (1 : Int32)) (by decide), fun _ => ⟨S2, by show 0 ≤ (hJ o2 x0 18).toInt; rw [kfJ 18 K2 r0]; exact t0, by show (hJ o2 x0 18).toInt ≤ _; rw [kfJ 18 K2 r0]; exact lt⟩, fun i hi => by show (hI o2 pw i).toInt = _; rw [kfI i K2 qp]; exact Pg i hi, E2, kf_t Kg (kf_m K2 rfl)⟩
  -- set by set
  have l62 : ∀ (f : Nat) {g : Hp} {x1 : Int32}, TH ρ c g → Kf ρ GSL h g → EvP x0 g → SumP x0 ks pw g → 0 ≤ (hJ g x0 18).toInt → (∀ i : Nat, i ≤ 5 → (hI g pw i).toInt = (hI h L 2).toInt ^ i) → 0 ≤ x1.toInt → (1025 - x1.toInt).toNat < f → Sat (sX0_gatherSets_62 F f g x0 x1) (fun o => TH ρ c o.2 ∧ Rg 0 1 o.1 ∧ (¬ o.1 = 0 → StP x0 ks pw st o.2 ∧ 0 ≤ (hJ o.2 x0 18).toInt ∧ (hJ o.2 x0 18).toInt ≤ 600000) ∧ (∀ i : Nat, i ≤ 5 → (hI o.2 pw i).toInt = (hI h L 2).toInt ^ i) ∧ EvP x0 o.2 ∧ Kf ρ GSL h o.2) := by
    intro f
    induction f with
    | zero => intros; omega
    | succ f ih =>
      intro g x1 Tg Kg Eg Sg t0 Pg a1 hf
      rw [sX0_gatherSets_62]
      refine s_br (fun _ => b104 Tg Kg Eg Sg Pg) (fun _ => ?_)
      refine s_br (fun _ => b104 Tg Kg Eg Sg Pg) (fun n1 => ?_)
      have l1 := nle_i n1
      have z1024 : (1024 : Int32).toInt = 1024 := rfl
      rw [z1024] at l1
      refine s_br (fun _ => b104 Tg Kg Eg Sg Pg) (fun nt => ?_)
      have lt : (hJ g x0 18).toInt ≤ 600000 := cmp_le (b := (600000 : Int64)) nt
      have i1 : Rg 0 1023 x1 := ⟨a1, by omega⟩
      have e4g : hR g x0 4 = some ks := by rw [kfR 4 Kg r0]; exact e4
      refine s_ref e4g ?_
      refine s_gd (by rw [thN Tg qk (k := 20) (n := 1024) rfl (by decide)]; exact rg_inB i1 (by decide)) ?_
      refine s_cl (s_imp (addSets_q hF (pmA_s hA rfl) Tg r0 e4g (by rw [kfR 6 Kg r0]; exact e6) (thI Tg qk (k := 20) (lo := 0) (hi := 33554431) rfl) (thKy Tg qk) Sg t0 lt) (fun o6 ⟨T6, S6, t6, _, K6⟩ => ?_))
      refine s_q (fun y ey => ?_)
      have ey2 : y.toInt = x1.toInt + 1 := by rw [ey]; exact (nc_s i1 (by decide)).2
      clear ey
      exact ih T6 (kf_t Kg (kf_m K6 rfl)) (evp_k Tg r0 K6 (P := Eg)) S6 t6 (fun i hi => by rw [kfI i K6 qp]; exact Pg i hi) (by omega) (by omega)
  -- the powers
  have l9 : ∀ (f : Nat) {g : Hp} {x1 : Int32}, TH ρ c g → Kf ρ GSL h g → EvP x0 g → hI g x0 14 = hI h x0 14 → 1 ≤ x1.toInt → x1.toInt ≤ 6 → (∀ i : Nat, (i : Int) < x1.toInt → (hI g pw i).toInt = (hI h L 2).toInt ^ i) → (7 - x1.toInt).toNat < f → Sat (sX0_gatherSets_9 F f g x0 x1) (fun o => TH ρ c o.2 ∧ Rg 0 1 o.1 ∧ (¬ o.1 = 0 → StP x0 ks pw st o.2 ∧ 0 ≤ (hJ o.2 x0 18).toInt ∧ (hJ o.2 x0 18).toInt ≤ 600000) ∧ (∀ i : Nat, i ≤ 5 → (hI o.2 pw i).toInt = (hI h L 2).toInt ^ i) ∧ EvP x0 o.2 ∧ Kf ρ GSL h o.2) := by
    intro f
    induction f with
    | zero => intros; omega
    | succ f ih =>
      intro g x1 Tg Kg Eg k14 a1 b1 Pg hf
      rw [sX0_gatherSets_9]
      have e6g : hR g x0 6 = some pw := by rw [kfR 6 Kg r0]; exact e6
      refine s_br (fun l => ?_) (fun n1 => ?_)
      · have l := lt_i l
        have z5 : (5 : Int32).toInt = 5 := rfl
        rw [z5] at l
        refine s_hq (th_wI Tg r0 (k := 1) (i := 9) (lo := 0) (hi := 1024) rfl (rg_m (rg_b rfl : Rg 0 0 (0 : Int32)) (by decide)) (by decide) (by decide) (pm_a hA rfl)) (fun h2 T2 w2 => ?_)
        refine s_hq (th_wJ T2 (k := 1) (i := 18) r0 (by decide) (pm_a hA rfl)) (fun h3 T3 w3 => ?_)
        have K3 : Kf ρ KSL g h3 := kf_t (kf_wI w2 r0) (kf_wJ w3 r0)
        have x14 : hI h3 x0 14 = hI h x0 14 := by rw [kfI 14 K3 r0]; exact k14
        have j18 : hJ h3 x0 18 = 0 := by rw [w3, r_J, if_pos ⟨rfl, rfl⟩]
        have x9 : hI h3 x0 9 = 0 := by rw [w3]; show hI h2 x0 9 = 0; rw [w2, r_I, if_pos ⟨rfl, rfl⟩]
        have S3 : SumP x0 ks pw h3 := by unfold SumP; rw [x9, j18]; exact Int.le_refl _
        have P3 : ∀ i : Nat, i ≤ 5 → (hI h3 pw i).toInt = (hI h L 2).toInt ^ i := fun i hi => by rw [kfI i K3 qp]; exact Pg i (by omega)
        refine s_cl (s_imp (addC_q (B := 600000) hF (pmA_s hA rfl) T3 r0 (by rw [kfR 4 K3 r0, kfR 4 Kg r0]; exact e4) (by rw [kfR 6 K3 r0]; exact e6g) (thI T3 r0 (k := 1) (i := 14) (lo := 0) (hi := 33554431) rfl) (by rw [x14]; exact ky) S3 (by rw [j18]; decide) (by rw [j18]; decide) (by decide)) (fun o4 ⟨T4, S4, t4, _, K4⟩ => ?_))
        exact l62 F T4 (kf_t Kg (kf_m (kf_t K3 K4) rfl)) (evp_k T3 r0 K4 (P := evp_k Tg r0 K3 (P := Eg))) S4 t4 (fun i hi => by rw [kfI i K4 qp]; exact P3 i hi) (by decide) (by rw [z0]; omega)
      · have l1 := nlt_i n1
        have z5 : (5 : Int32).toInt = 5 := rfl
        rw [z5] at l1
        have i1 : Rg 1 5 x1 := ⟨a1, l1⟩
        have dd := rg_decs i1 (by decide)
        have id : Rg 0 4 (x1 - (1 : Int32)) := ⟨by omega, by omega⟩
        have cd := clamp_i id.1
        have c1 := clamp_i (v := x1) (by omega)
        refine s_ref e6g (s_ref e6g ?_)
        refine s_gd (by rw [thN Tg qp (k := 22) (n := 6) rfl (by decide)]; exact rg_inB (rg_m id (by decide) : Rg 0 5 _) (by decide)) ?_
        have e0g : hR g x0 0 = some L := by rw [kfR 0 Kg r0]; exact e0
        refine s_ref e0g ?_
        refine s_gd (by rw [thN Tg qp (k := 22) (n := 6) rfl (by decide)]; exact rg_inB (rg_m i1 (by decide) : Rg 0 5 x1) (by decide)) ?_
        have kl := kfI 2 Kg qL
        have pv := Pg (x1 - (1 : Int32)).toNatClampNeg (by omega)
        have en : x1.toNatClampNeg = (x1 - (1 : Int32)).toNatClampNeg + 1 := by omega
        have pw5 := pow_sq (s := (hI h L 2).toInt) sq.1 sq.2 x1.toNatClampNeg (by omega)
        have ev : ((hI g pw (x1 - (1 : Int32)).toNatClampNeg) * (hI g L 2)).toInt = (hI h L 2).toInt ^ x1.toNatClampNeg := by
          have e : (hI g pw (x1 - (1 : Int32)).toNatClampNeg).toInt * (hI g L 2).toInt = (hI h L 2).toInt ^ x1.toNatClampNeg := by rw [pv, kl, en, Int.pow_succ]
          rw [tm (by rw [e]; omega), e]
        refine s_hq (th_wI Tg qp (k := 22) (lo := 0) (hi := 1073741824) rfl ⟨by rw [ev]; exact pw5.1, by rw [ev]; exact pw5.2⟩ (by decide) (by decide) (pm_a hA rfl)) (fun h10 T10 w10 => ?_)
        refine s_q (fun y ey => ?_)
        have ey2 : y.toInt = x1.toInt + 1 := by rw [ey]; exact (nc_s (rg_m i1 (by decide) : Rg 0 5 x1) (by decide)).2
        clear ey
        have K10 : Kf ρ [(22, 999)] g h10 := kf_wI w10 qp
        refine ih T10 (kf_t Kg (kf_m K10 rfl)) (evp_k Tg r0 K10 (P := Eg)) (by rw [kfI 14 K10 r0]; exact k14) (by omega) (by omega) (fun i hi => ?_) (by omega)
        rw [w10, r_I]
        by_cases w : i = x1.toNatClampNeg
        · rw [if_pos ⟨rfl, w⟩, ev, w]
        · rw [if_neg (fun z => w z.2)]
          exact Pg i (by omega)
  unfold sX0_gatherSets
  refine s_ref e6 ?_
  refine s_gd (by rw [thN T qp (k := 22) (n := 6) rfl (by decide)]; exact rg_inB (rg_m (rg_b rfl : Rg 0 0 (0 : Int32)) (by decide) : Rg 0 5 (0 : Int32)) (by decide)) ?_
  refine s_hq (th_wI T qp (k := 22) (lo := 0) (hi := 1073741824) rfl (rg_m (rg_b rfl : Rg 1 1 (1 : Int32)) (by decide)) (by decide) (by decide) (pm_a hA rfl)) (fun h3 T3 w3 => ?_)
  have K3 : Kf ρ [(22, 999)] h h3 := kf_wI w3 qp
  refine l9 F T3 (kf_m K3 rfl) (evp_k T r0 K3 (P := E)) (kfI 14 K3 r0) (by decide) (by decide) (fun i hi => ?_) (by rw [z1]; omega)
  rw [z1] at hi
  have : i = 0 := by omega
  subst this
  rw [w3, r_I, if_pos ⟨rfl, rfl⟩, Int.pow_zero]
  rfl
end
