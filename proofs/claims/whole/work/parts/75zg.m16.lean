section
/-! sets sorted, and where each begins -/
theorem sm_up {f : Nat → Int32} {G : Int32 → Int} {k : Nat} {v : Int32} : ∀ n, k < n → sm (fun i => G (up f k v i)) n + G (f k) = sm (fun i => G (f i)) n + G v := by
  intro n
  induction n with
  | zero => intro h; omega
  | succ n ih =>
    intro h
    show sm (fun i => G (up f k v i)) n + G (up f k v n) + G (f k) = sm (fun i => G (f i)) n + G (f n) + G v
    by_cases z : k = n
    · subst z
      have : sm (fun i => G (up f k v i)) k = sm (fun i => G (f i)) k := sm_eq k (fun i hi => by show G (up f k v i) = G (f i); unfold up; rw [if_neg (by omega)])
      have e2 : up f k v k = v := by unfold up; rw [if_pos rfl]
      rw [this, e2]
      omega
    · have := ih (by omega)
      have e2 : up f k v n = f n := by unfold up; rw [if_neg (by omega)]
      rw [e2]
      omega
theorem sm_swap {f : Nat → Int32} {G : Int32 → Int} {k m : Nat} {v : Int32} (hk : k + 1 < m) : sm (fun i => G (up (up f (k + 1) (f k)) k v i)) m = sm (fun i => G (up f (k + 1) v i)) m := by
  have a := sm_up (f := up f (k + 1) (f k)) (G := G) (k := k) (v := v) m (by omega)
  have b := sm_up (f := f) (G := G) (k := k + 1) (v := f k) m hk
  have c := sm_up (f := f) (G := G) (k := k + 1) (v := v) m hk
  have e : up f (k + 1) (f k) k = f k := by unfold up; rw [if_neg (by omega)]
  rw [e] at a
  omega
abbrev SSL : List (Nat × Nat) := [(20, 999), (21, 999)]
/-- where each set begins -/
def StP (x0 ks pw st : Nat) (h : Hp) : Prop := sm (fun i => gK h pw (hI h ks i)) (hI h x0 9).toNatClampNeg ≤ 600000 ∧ ∀ i : Nat, i ≤ (hI h x0 9).toNatClampNeg → (hI h st i).toInt = sm (fun i => gK h pw (hI h ks i)) i
section
variable {ρ : Nat → Nat} {c : Cm} {h o : Hp} {x0 ks pw st F : Nat} {x1 : Int32}
theorem sortC_q (hF : 700000 ≤ F) (hA : pmA c SSL) (T : TH ρ c h) (r0 : ρ x0 = 1) (e4 : hR h x0 4 = some ks) (e5 : hR h x0 5 = some st) (e6 : hR h x0 6 = some pw) (S : sm (fun i => gK h pw (hI h ks i)) (hI h x0 9).toNatClampNeg ≤ 600000) (E : EvP x0 h) : Sat (sX0_sortSets F h x0) (fun o => TH ρ c o ∧ StP x0 ks pw st o ∧ EvP x0 o ∧ Kf ρ SSL h o) := by
  have qk : ρ ks = 20 := rr T (thR T r0 (i := 4) (k2 := 20) rfl (by decide)) e4
  have qs : ρ st = 21 := rr T (thR T r0 (i := 5) (k2 := 21) rfl (by decide)) e5
  have qp : ρ pw = 22 := rr T (thR T r0 (i := 6) (k2 := 22) rfl (by decide)) e6
  have i9 := thI T r0 (k := 1) (i := 9) (lo := 0) (hi := 1024) rfl
  have c9 := clamp_i i9.1
  have b9 := i9.2
  have z0 : (0 : Int32).toInt = 0 := rfl
  have z1 : (1 : Int32).toInt = 1 := rfl
  have gp : ∀ {g : Hp}, TH ρ c g → ∀ x, 0 ≤ gK g pw x := fun Tg x => by
    have := (thI Tg qp (k := 22) (i := szI x.toInt) (lo := 0) (hi := 1073741824) rfl).1
    unfold gK
    omega
  -- where each begins
  have l77 : ∀ (f : Nat) {g : Hp} {x1 : Int32}, TH ρ c g → Kf ρ SSL h g → EvP x0 g → sm (fun i => gK g pw (hI g ks i)) (hI h x0 9).toNatClampNeg ≤ 600000 → 0 ≤ x1.toInt → x1.toInt ≤ (hI h x0 9).toInt → (∀ i : Nat, (i : Int) ≤ x1.toInt → (hI g st i).toInt = sm (fun i => gK g pw (hI g ks i)) i) → (1025 - x1.toInt).toNat < f → Sat (sX0_sortSets_77 F f g x0 x1) (fun o => TH ρ c o ∧ StP x0 ks pw st o ∧ EvP x0 o ∧ Kf ρ SSL h o) := by
    intro f
    induction f with
    | zero => intros; omega
    | succ f ih =>
      intro g x1 Tg Kg Eg Sg a1 b1 B hf
      rw [sX0_sortSets_77]
      have k9 := kfI 9 Kg r0
      have c1 := clamp_i a1
      refine s_br (fun l => ?_) (fun n1 => ?_)
      · have l := le_i l
        rw [k9] at l
        exact s_some ⟨Tg, ⟨by rw [k9]; exact Sg, fun i hi => by rw [k9] at hi; exact B i (by omega)⟩, Eg, Kg⟩
      · have l1 := nle_i n1
        rw [k9] at l1
        have i1 : Rg 0 1023 x1 := ⟨a1, by omega⟩
        have ny := nc_s i1 (by decide)
        have e5g : hR g x0 5 = some st := by rw [kfR 5 Kg r0]; exact e5
        have e4g : hR g x0 4 = some ks := by rw [kfR 4 Kg r0]; exact e4
        have e6g : hR g x0 6 = some pw := by rw [kfR 6 Kg r0]; exact e6
        refine s_ref e5g (s_ref e5g ?_)
        refine s_gd (by rw [thN Tg qs (k := 21) (n := 1025) rfl (by decide)]; exact rg_inB (rg_m i1 (by decide) : Rg 0 1024 x1) (by decide)) ?_
        refine s_ref e6g (s_ref e4g ?_)
        refine s_gd (by rw [thN Tg qk (k := 20) (n := 1024) rfl (by decide)]; exact rg_inB i1 (by decide)) ?_
        have ik := thI Tg qk (k := 20) (i := x1.toNatClampNeg) (lo := 0) (hi := 33554431) rfl
        refine s_cl (s_imp (size_q hF ik.1) (fun o8 ⟨e8, v8⟩ => ?_))
        rw [e8, v8]
        have s5 := sz_le (hI g ks x1.toNatClampNeg).toInt
        have isz : Rg 0 5 (nI (szI (hI g ks x1.toNatClampNeg).toInt)) := ⟨by rw [z_toInt (by omega)]; exact Int.natCast_nonneg _, by rw [z_toInt (by omega)]; omega⟩
        have csz : (nI (szI (hI g ks x1.toNatClampNeg).toInt)).toNatClampNeg = szI (hI g ks x1.toNatClampNeg).toInt := by
          have := clamp_i isz.1
          rw [z_toInt (by omega)] at this
          omega
        refine s_gd (by rw [thN Tg qp (k := 22) (n := 6) rfl (by decide)]; exact rg_inB isz (by decide)) ?_
        refine s_gd (by rw [thN Tg qs (k := 21) (n := 1025) rfl (by decide)]; exact rg_inB (⟨by omega, by omega⟩ : Rg 0 1024 (x1 + (1 : Int32))) (by decide)) ?_
        rw [csz]
        have bx := B x1.toNatClampNeg (by omega)
        have sN : sm (fun i => gK g pw (hI g ks i)) (x1.toNatClampNeg + 1) ≤ 600000 := by
          have := sm_le (f := fun i => gK g pw (hI g ks i)) (fun i => gp Tg _) (x1.toNatClampNeg + 1) ((hI h x0 9).toNatClampNeg - (x1.toNatClampNeg + 1))
          have en : x1.toNatClampNeg + 1 + ((hI h x0 9).toNatClampNeg - (x1.toNatClampNeg + 1)) = (hI h x0 9).toNatClampNeg := by omega
          rw [en] at this
          omega
        have sn0 := sm_0 (f := fun i => gK g pw (hI g ks i)) (fun i => gp Tg _) x1.toNatClampNeg
        have g0 := gp Tg (hI g ks x1.toNatClampNeg)
        have sE : sm (fun i => gK g pw (hI g ks i)) (x1.toNatClampNeg + 1) = sm (fun i => gK g pw (hI g ks i)) x1.toNatClampNeg + gK g pw (hI g ks x1.toNatClampNeg) := rfl
        have gE : gK g pw (hI g ks x1.toNatClampNeg) = 2 * (hI g pw (szI (hI g ks x1.toNatClampNeg).toInt)).toInt := rfl
        have z2 : (2 : Int32).toInt = 2 := rfl
        have m2 : ((2 : Int32) * (hI g pw (szI (hI g ks x1.toNatClampNeg).toInt))).toInt = 2 * (hI g pw (szI (hI g ks x1.toNatClampNeg).toInt)).toInt := by rw [tm (by rw [z2]; omega), z2]
        have vv : ((hI g st x1.toNatClampNeg) + ((2 : Int32) * (hI g pw (szI (hI g ks x1.toNatClampNeg).toInt)))).toInt = sm (fun i => gK g pw (hI g ks i)) (x1.toNatClampNeg + 1) := by
          rw [ta (by rw [m2]; omega), m2, bx, sE, gE]
        refine s_hq (th_wI Tg qs (k := 21) (lo := 0) (hi := 600000) rfl ⟨by rw [vv]; omega, by rw [vv]; exact sN⟩ (by decide) (by decide) (pm_a hA rfl)) (fun h11 T11 w11 => ?_)
        refine s_q (fun y ey => ?_)
        have ey2 : y.toInt = x1.toInt + 1 := by rw [ey]; exact ny.2
        clear ey
        have K11 : Kf ρ SSL g h11 := kf_wI w11 qs
        have nks : ¬ ks = st := ne_r' qk qs (by decide)
        have kk : ∀ i, hI h11 ks i = hI g ks i := fun i => by rw [w11, r_I, if_neg (fun w => nks w.1)]
        have kp : ∀ i, hI h11 pw i = hI g pw i := fun i => kfI i K11 qp
        have gk : ∀ i, gK h11 pw (hI h11 ks i) = gK g pw (hI g ks i) := fun i => by unfold gK; rw [kk, kp]
        refine ih T11 (kf_t Kg K11) (fun r er i => ?_) (by rw [sm_eq (g := fun i => gK g pw (hI g ks i)) _ (fun i _ => gk i)]; exact Sg) (by omega) (by omega) (fun i hi => ?_) (by omega)
        · rw [kfR 5 K11 r0] at er
          have hz := r_eq e5g er
          subst hz
          rw [w11, r_I]
          split
          · rw [vv, sE, gE, ← bx]
            have := Eg r e5g x1.toNatClampNeg
            omega
          · exact Eg r e5g i
        · rw [sm_eq (f := fun i => gK h11 pw (hI h11 ks i)) (g := fun i => gK g pw (hI g ks i)) _ (fun i _ => gk i), w11, r_I, ny.1]
          by_cases w : i = x1.toNatClampNeg + 1
          · rw [if_pos ⟨rfl, w⟩, vv, w]
          · rw [if_neg (fun z => w z.2)]
            exact B i (by omega)
  -- in order
  have l2 : ∀ (f : Nat) {g : Hp} {x1 : Int32}, TH ρ c g → Kf ρ SSL h g → EvP x0 g → sm (fun i => gK h pw (hI g ks i)) (hI h x0 9).toNatClampNeg ≤ 600000 → 1 ≤ x1.toInt → (1025 - x1.toInt).toNat < f → Sat (sX0_sortSets_2 F f g x0 x1) (fun o => TH ρ c o ∧ StP x0 ks pw st o ∧ EvP x0 o ∧ Kf ρ SSL h o) := by
    intro f
    induction f with
    | zero => intros; omega
    | succ f ih =>
      intro g x1 Tg Kg Eg Sg a1 hf
      rw [sX0_sortSets_2]
      have k9 := kfI 9 Kg r0
      have e5g : hR g x0 5 = some st := by rw [kfR 5 Kg r0]; exact e5
      have e4g : hR g x0 4 = some ks := by rw [kfR 4 Kg r0]; exact e4
      have c1 := clamp_i (v := x1) (by omega)
      refine s_br (fun _ => ?_) (fun n1 => ?_)
      · refine s_ref e5g ?_
        refine s_gd (by rw [thN Tg qs (k := 21) (n := 1025) rfl (by decide)]; exact rg_inB (rg_m (rg_b rfl : Rg 0 0 (0 : Int32)) (by decide) : Rg 0 1024 (0 : Int32)) (by decide)) ?_
        refine s_hq (th_wI Tg qs (k := 21) (lo := 0) (hi := 600000) rfl (rg_m (rg_b rfl : Rg 0 0 (0 : Int32)) (by decide)) (by decide) (by decide) (pm_a hA rfl)) (fun h4 T4 w4 => ?_)
        have K4 : Kf ρ SSL g h4 := kf_wI w4 qs
        have nks : ¬ ks = st := ne_r' qk qs (by decide)
        have kk : ∀ i, hI h4 ks i = hI g ks i := fun i => by rw [w4, r_I, if_neg (fun w => nks w.1)]
        refine l77 F T4 (kf_t Kg K4) (fun r er i => ?_) ?_ (by decide) (by rw [z0]; exact i9.1) (fun i hi => ?_) (by rw [z0]; omega)
        · rw [kfR 5 K4 r0] at er
          have hz := r_eq e5g er
          subst hz
          rw [w4, r_I]
          split
          · decide
          · exact Eg r e5g i
        · rw [sm_eq (g := fun i => gK h pw (hI g ks i)) _ (fun i _ => by show gK h4 pw (hI h4 ks i) = _; unfold gK; rw [kk, kfI _ K4 qp, kfI _ Kg qp])]
          exact Sg
        · rw [z0] at hi
          have : i = 0 := by omega
          subst this
          rw [w4, r_I, if_pos ⟨rfl, rfl⟩]
          rfl
      · have l1 := nle_i n1
        rw [k9] at l1
        have i1 : Rg 0 1023 x1 := ⟨by omega, by omega⟩
        have ny := nc_s i1 (by decide)
        refine s_ref e4g ?_
        refine s_gd (by rw [thN Tg qk (k := 20) (n := 1024) rfl (by decide)]; exact rg_inB i1 (by decide)) ?_
        refine s_q (fun v ev => ?_)
        have iv : Rg 0 33554431 v := by rw [ev]; exact thI Tg qk (k := 20) (lo := 0) (hi := 33554431) rfl
        have kv : KyX v := by rw [ev]; exact thKy Tg qk
        have inn : ∀ (ff : Nat) {g : Hp} {x3 : Int32}, TH ρ c g → Kf ρ SSL h g → EvP x0 g → 0 ≤ x3.toInt → x3.toInt ≤ x1.toInt → sm (fun i => gK h pw (up (fun i => hI g ks i) x3.toNatClampNeg v i)) (hI h x0 9).toNatClampNeg ≤ 600000 → (1025 - (x1.toInt - x3.toInt)).toNat ≤ 1025 → x3.toInt.toNat < ff → Sat (sX0_sortSets_19 F (sX0_sortSets_2 F f) ff g x0 x1 v x3) (fun o => TH ρ c o ∧ StP x0 ks pw st o ∧ EvP x0 o ∧ Kf ρ SSL h o) := by
          intro ff
          induction ff with
          | zero => intros; omega
          | succ ff ih2 =>
            intro g x3 Tg Kg Eg a3 b3 Sg _ hf3
            rw [sX0_sortSets_19]
            have e4g : hR g x0 4 = some ks := by rw [kfR 4 Kg r0]; exact e4
            have c3 := clamp_i a3
            have i3 : Rg 0 1023 x3 := ⟨a3, by omega⟩
            have evw : ∀ {g2 : Hp} {j : Nat} {u : Int32}, g2 = wI g ks j u → EvP x0 g2 := fun {g2 j u} w r er i => by
              rw [w] at er
              have er' : hR g x0 5 = some r := er
              have qr : ρ r = 21 := rr Tg (thR Tg r0 (i := 5) (k2 := 21) rfl (by decide)) er'
              rw [w, r_I, if_neg (ne_r qr qk (by decide))]
              exact Eg r er' i
            have put : Sat (sX0_sortSets_55 F (sX0_sortSets_2 F f) g x0 x1 v x3) (fun o => TH ρ c o ∧ StP x0 ks pw st o ∧ EvP x0 o ∧ Kf ρ SSL h o) := by
              unfold sX0_sortSets_55
              refine s_ref e4g ?_
              refine s_gd (by rw [thN Tg qk (k := 20) (n := 1024) rfl (by decide)]; exact rg_inB i3 (by decide)) ?_
              refine s_hq (th_wI Tg qk (k := 20) (lo := 0) (hi := 33554431) rfl iv (by decide) (by decide) (pm_a hA rfl) (rpK kv)) (fun h3 T3 w3 => ?_)
              refine s_q (fun y ey => ?_)
              have ey2 : y.toInt = x1.toInt + 1 := by rw [ey]; exact ny.2
              clear ey
              refine ih T3 (kf_t Kg (kf_wI w3 qk)) (evw w3) ?_ (by omega) (by omega)
              rw [w3, sm_eq (g := fun i => gK h pw (up (fun i => hI g ks i) x3.toNatClampNeg v i)) _ (fun i _ => by show gK h pw (hI (wI g ks x3.toNatClampNeg v) ks i) = _; rw [show hI (wI g ks x3.toNatClampNeg v) ks i = up (fun i => hI g ks i) x3.toNatClampNeg v i from congrFun row_up i])]
              exact Sg
            refine s_br (fun _ => put) (fun n3 => ?_)
            have p3 := nle_i n3
            have i3' : Rg 1 1023 x3 := ⟨p3, by omega⟩
            have dd := rg_decs i3' (by decide)
            have id : Rg 0 1022 (x3 - (1 : Int32)) := ⟨by omega, by omega⟩
            have cd := clamp_i id.1
            have gd1 : inB (x3 - (1 : Int32)) (hN g ks) := by rw [thN Tg qk (k := 20) (n := 1024) rfl (by decide)]; exact rg_inB id (by decide)
            refine s_ref e4g (s_gd gd1 ?_)
            refine s_br (fun _ => put) (fun _ => ?_)
            refine s_ref e4g (s_ref e4g (s_gd gd1 ?_))
            refine s_gd (by rw [thN Tg qk (k := 20) (n := 1024) rfl (by decide)]; exact rg_inB i3 (by decide)) ?_
            refine s_hq (th_wI Tg qk (k := 20) (lo := 0) (hi := 33554431) rfl (thI Tg qk (k := 20) (lo := 0) (hi := 33554431) rfl) (by decide) (by decide) (pm_a hA rfl) (rpK (thKy Tg qk))) (fun h9 T9 w9 => ?_)
            refine s_q (fun y ey => ?_)
            have ey2 : y.toInt = x3.toInt - 1 := by rw [ey]; exact rg_dec i3' (by decide)
            clear ey
            have cy := clamp_i (v := y) (by omega)
            have en : x3.toNatClampNeg = y.toNatClampNeg + 1 := by omega
            have en2 : (x3 - (1 : Int32)).toNatClampNeg = y.toNatClampNeg := by omega
            rw [en, en2] at w9
            refine ih2 T9 (kf_t Kg (kf_wI w9 qk)) (evw w9) (by omega) (by omega) ?_ (by omega) (by omega)
            rw [w9, row_up, sm_swap (f := fun i => hI g ks i) (G := gK h pw) (by omega), ← en]
            exact Sg
        refine inn F Tg Kg Eg (by omega) (Int.le_refl _) ?_ (by omega) (by omega)
        rw [sm_eq (g := fun i => gK h pw (hI g ks i)) _ (fun i _ => by
          show gK h pw (up (fun i => hI g ks i) x1.toNatClampNeg v i) = _
          unfold up
          split
          · rename_i w; rw [ev, w]
          · rfl)]
        exact Sg
  unfold sX0_sortSets
  exact l2 F T kf_r E S (by decide) (by rw [z1]; omega)
end
end
section
/-! sets gathered -/
abbrev GSL : List (Nat × Nat) := [(20, 999), (21, 999), (22, 999), (1, 9), (1, 18)]
section
variable {ρ : Nat → Nat} {c : Cm} {h o : Hp} {x0 ks pw st L F : Nat} {x1 : Int32}
theorem evp_k {E : List (Nat × Nat)} (T : TH ρ c h) (r0 : ρ x0 = 1) (K : Kf ρ E h o) (y1 : mS E 1 5 = false := by rfl) (y2 : ∀ i, mS E 21 i = false := by intro _; rfl) (P : EvP x0 h) : EvP x0 o := fun r er i => by
  rw [kfR 5 K r0 (by decide) y1] at er
  have qr : ρ r = 21 := rr T (thR T r0 (i := 5) (k2 := 21) rfl (by decide)) er
  rw [kfI i K qr (by decide) (y2 i)]
  exact P r er i
theorem gatherC_q (hF : 700000 ≤ F) (hA : pmA c GSL) (T : TH ρ c h) (r0 : ρ x0 = 1) (e0 : hR h x0 0 = some L) (e4 : hR h x0 4 = some ks) (e5 : hR h x0 5 = some st) (e6 : hR h x0 6 = some pw) (ky : KyX (hI h x0 14)) (E : EvP x0 h) : Sat (sX0_gatherSets F h x0) (fun o => TH ρ c o.2 ∧ Rg 0 1 o.1 ∧ (¬ o.1 = 0 → StP x0 ks pw st o.2 ∧ 0 ≤ (hJ o.2 x0 18).toInt ∧ (hJ o.2 x0 18).toInt ≤ 600000) ∧ (∀ i : Nat, i ≤ 5 → (hI o.2 pw i).toInt = (hI h L 2).toInt ^ i) ∧ EvP x0 o.2 ∧ Kf ρ GSL h o.2) := by
  have qL : ρ L = 2 := rr T (thR T r0 (i := 0) (k2 := 2) rfl (by decide)) e0
  have qk : ρ ks = 20 := rr T (thR T r0 (i := 4) (k2 := 20) rfl (by decide)) e4
  have qs : ρ st = 21 := rr T (thR T r0 (i := 5) (k2 := 21) rfl (by decide)) e5
  have qp : ρ pw = 22 := rr T (thR T r0 (i := 6) (k2 := 22) rfl (by decide)) e6
  have sq := thI T qL (k := 2) (i := 2) (lo := 0) (hi := 64) rfl
  have z0 : (0 : Int32).toInt = 0 := rfl
  have z1 : (1 : Int32).toInt = 1 := rfl
  -- the end
  have b104 : ∀ {g : Hp}, TH ρ c g → Kf ρ GSL h g → EvP x0 g → SumP x0 ks pw g → (∀ i : Nat, i ≤ 5 → (hI g pw i).toInt = (hI h L 2).toInt ^ i) → Sat (sX0_gatherSets_104 F g x0) (fun o => TH ρ c o.2 ∧ Rg 0 1 o.1 ∧ (¬ o.1 = 0 → StP x0 ks pw st o.2 ∧ 0 ≤ (hJ o.2 x0 18).toInt ∧ (hJ o.2 x0 18).toInt ≤ 600000) ∧ (∀ i : Nat, i ≤ 5 → (hI o.2 pw i).toInt = (hI h L 2).toInt ^ i) ∧ EvP x0 o.2 ∧ Kf ρ GSL h o.2) := fun {g} Tg Kg Eg Sg Pg => by
    unfold sX0_gatherSets_104
    refine s_br (fun l => ?_) (fun _ => s_some ⟨Tg, rg_m (rg_b rfl : Rg 0 0 (0 : Int32)) (by decide), fun n => absurd rfl n, Pg, Eg, Kg⟩)
    have lt : (hJ g x0 18).toInt ≤ 600000 := cmp_le (b := (600000 : Int64)) (fun w => absurd (le_i l) (by have := lt_i w; omega))
    have t0 : 0 ≤ (hJ g x0 18).toInt := Int.le_trans (sm_0 (f := fun i => gK g pw (hI g ks i)) (fun i => by
      have := (thI Tg qp (k := 22) (i := szI (hI g ks i).toInt) (lo := 0) (hi := 1073741824) rfl).1
      show 0 ≤ gK g pw (hI g ks i)
      unfold gK
      omega) _) Sg
    refine s_cl (s_imp (sortC_q (st := st) hF (pmA_s hA rfl) Tg r0 (by rw [kfR 4 Kg r0]; exact e4) (by rw [kfR 5 Kg r0]; exact e5) (by rw [kfR 6 Kg r0]; exact e6) (Int.le_trans Sg lt) Eg) (fun o2 ⟨T2, S2, E2, K2⟩ => ?_))
    exact s_some ⟨T2, rg_m (rg_b rfl : Rg 1 1 (1 : Int32)) (by decide), fun _ => ⟨S2, by show 0 ≤ (hJ o2 x0 18).toInt; rw [kfJ 18 K2 r0]; exact t0, by show (hJ o2 x0 18).toInt ≤ _; rw [kfJ 18 K2 r0]; exact lt⟩, fun i hi => by show (hI o2 pw i).toInt = _; rw [kfI i K2 qp]; exact Pg i hi, E2, kf_t Kg (kf_m K2 rfl)⟩
  -- set by set
  have l62 : ∀ (f : Nat) {g : Hp} {x1 : Int32}, TH ρ c g → Kf ρ GSL h g → EvP x0 g → SumP x0 ks pw g → 0 ≤ (hJ g x0 18).toInt → (∀ i : Nat, i ≤ 5 → (hI g pw i).toInt = (hI h L 2).toInt ^ i) → 0 ≤ x1.toInt → (1025 - x1.toInt).toNat < f → Sat (sX0_gatherSets_62 F f g x0 x1) (fun o => TH ρ c o.2 ∧ Rg 0 1 o.1 ∧ (¬ o.1 = 0 → StP x0 ks pw st o.2 ∧ 0 ≤ (hJ o.2 x0 18).toInt ∧ (hJ o.2 x0 18).toInt ≤ 600000) ∧ (∀ i : Nat, i ≤ 5 → (hI o.2 pw i).toInt = (hI h L 2).toInt ^ i) ∧ EvP x0 o.2 ∧ Kf ρ GSL h o.2) := by
    intro f
    induction f with
    | zero => intros; omega
    | succ f ih =>
      intro g x1 Tg Kg Eg Sg t0 Pg a1 hf
      rw [sX0_gatherSets_62]
      refine s_br (fun _ => b104 Tg Kg Eg Sg Pg) (fun _ => ?_)
      refine s_br (fun _ => b104 Tg Kg Eg Sg Pg) (fun n1 => ?_)
      have l1 := nle_i n1
      have z1024 : (1024 : Int32).toInt = 1024 := rfl
      rw [z1024] at l1
      refine s_br (fun _ => b104 Tg Kg Eg Sg Pg) (fun nt => ?_)
      have lt : (hJ g x0 18).toInt ≤ 600000 := cmp_le (b := (600000 : Int64)) nt
      have i1 : Rg 0 1023 x1 := ⟨a1, by omega⟩
      have e4g : hR g x0 4 = some ks := by rw [kfR 4 Kg r0]; exact e4
      refine s_ref e4g ?_
      refine s_gd (by rw [thN Tg qk (k := 20) (n := 1024) rfl (by decide)]; exact rg_inB i1 (by decide)) ?_
      refine s_cl (s_imp (addSets_q hF (pmA_s hA rfl) Tg r0 e4g (by rw [kfR 6 Kg r0]; exact e6) (thI Tg qk (k := 20) (lo := 0) (hi := 33554431) rfl) (thKy Tg qk) Sg t0 lt) (fun o6 ⟨T6, S6, t6, _, K6⟩ => ?_))
      refine s_q (fun y ey => ?_)
      have ey2 : y.toInt = x1.toInt + 1 := by rw [ey]; exact (nc_s i1 (by decide)).2
      clear ey
      exact ih T6 (kf_t Kg (kf_m K6 rfl)) (evp_k Tg r0 K6 (P := Eg)) S6 t6 (fun i hi => by rw [kfI i K6 qp]; exact Pg i hi) (by omega) (by omega)
  -- the powers
  have l9 : ∀ (f : Nat) {g : Hp} {x1 : Int32}, TH ρ c g → Kf ρ GSL h g → EvP x0 g → hI g x0 14 = hI h x0 14 → 1 ≤ x1.toInt → x1.toInt ≤ 6 → (∀ i : Nat, (i : Int) < x1.toInt → (hI g pw i).toInt = (hI h L 2).toInt ^ i) → (7 - x1.toInt).toNat < f → Sat (sX0_gatherSets_9 F f g x0 x1) (fun o => TH ρ c o.2 ∧ Rg 0 1 o.1 ∧ (¬ o.1 = 0 → StP x0 ks pw st o.2 ∧ 0 ≤ (hJ o.2 x0 18).toInt ∧ (hJ o.2 x0 18).toInt ≤ 600000) ∧ (∀ i : Nat, i ≤ 5 → (hI o.2 pw i).toInt = (hI h L 2).toInt ^ i) ∧ EvP x0 o.2 ∧ Kf ρ GSL h o.2) := by
    intro f
    induction f with
    | zero => intros; omega
    | succ f ih =>
      intro g x1 Tg Kg Eg k14 a1 b1 Pg hf
      rw [sX0_gatherSets_9]
      have e6g : hR g x0 6 = some pw := by rw [kfR 6 Kg r0]; exact e6
      refine s_br (fun l => ?_) (fun n1 => ?_)
      · have l := lt_i l
        have z5 : (5 : Int32).toInt = 5 := rfl
        rw [z5] at l
        refine s_hq (th_wI Tg r0 (k := 1) (i := 9) (lo := 0) (hi := 1024) rfl (rg_m (rg_b rfl : Rg 0 0 (0 : Int32)) (by decide)) (by decide) (by decide) (pm_a hA rfl)) (fun h2 T2 w2 => ?_)
        refine s_hq (th_wJ T2 (k := 1) (i := 18) r0 (by decide) (pm_a hA rfl)) (fun h3 T3 w3 => ?_)
        have K3 : Kf ρ KSL g h3 := kf_t (kf_wI w2 r0) (kf_wJ w3 r0)
        have x14 : hI h3 x0 14 = hI h x0 14 := by rw [kfI 14 K3 r0]; exact k14
        have j18 : hJ h3 x0 18 = 0 := by rw [w3, r_J, if_pos ⟨rfl, rfl⟩]
        have x9 : hI h3 x0 9 = 0 := by rw [w3]; show hI h2 x0 9 = 0; rw [w2, r_I, if_pos ⟨rfl, rfl⟩]
        have S3 : SumP x0 ks pw h3 := by unfold SumP; rw [x9, j18]; exact Int.le_refl _
        have P3 : ∀ i : Nat, i ≤ 5 → (hI h3 pw i).toInt = (hI h L 2).toInt ^ i := fun i hi => by rw [kfI i K3 qp]; exact Pg i (by omega)
        refine s_cl (s_imp (addC_q (B := 600000) hF (pmA_s hA rfl) T3 r0 (by rw [kfR 4 K3 r0, kfR 4 Kg r0]; exact e4) (by rw [kfR 6 K3 r0]; exact e6g) (thI T3 r0 (k := 1) (i := 14) (lo := 0) (hi := 33554431) rfl) (by rw [x14]; exact ky) S3 (by rw [j18]; decide) (by rw [j18]; decide) (by decide)) (fun o4 ⟨T4, S4, t4, _, K4⟩ => ?_))
        exact l62 F T4 (kf_t Kg (kf_m (kf_t K3 K4) rfl)) (evp_k T3 r0 K4 (P := evp_k Tg r0 K3 (P := Eg))) S4 t4 (fun i hi => by rw [kfI i K4 qp]; exact P3 i hi) (by decide) (by rw [z0]; omega)
      · have l1 := nlt_i n1
        have z5 : (5 : Int32).toInt = 5 := rfl
        rw [z5] at l1
        have i1 : Rg 1 5 x1 := ⟨a1, l1⟩
        have dd := rg_decs i1 (by decide)
        have id : Rg 0 4 (x1 - (1 : Int32)) := ⟨by omega, by omega⟩
        have cd := clamp_i id.1
        have c1 := clamp_i (v := x1) (by omega)
        refine s_ref e6g (s_ref e6g ?_)
        refine s_gd (by rw [thN Tg qp (k := 22) (n := 6) rfl (by decide)]; exact rg_inB (rg_m id (by decide) : Rg 0 5 _) (by decide)) ?_
        have e0g : hR g x0 0 = some L := by rw [kfR 0 Kg r0]; exact e0
        refine s_ref e0g ?_
        refine s_gd (by rw [thN Tg qp (k := 22) (n := 6) rfl (by decide)]; exact rg_inB (rg_m i1 (by decide) : Rg 0 5 x1) (by decide)) ?_
        have kl := kfI 2 Kg qL
        have pv := Pg (x1 - (1 : Int32)).toNatClampNeg (by omega)
        have en : x1.toNatClampNeg = (x1 - (1 : Int32)).toNatClampNeg + 1 := by omega
        have pw5 := pow_sq (s := (hI h L 2).toInt) sq.1 sq.2 x1.toNatClampNeg (by omega)
        have ev : ((hI g pw (x1 - (1 : Int32)).toNatClampNeg) * (hI g L 2)).toInt = (hI h L 2).toInt ^ x1.toNatClampNeg := by
          have e : (hI g pw (x1 - (1 : Int32)).toNatClampNeg).toInt * (hI g L 2).toInt = (hI h L 2).toInt ^ x1.toNatClampNeg := by rw [pv, kl, en, Int.pow_succ]
          rw [tm (by rw [e]; omega), e]
        refine s_hq (th_wI Tg qp (k := 22) (lo := 0) (hi := 1073741824) rfl ⟨by rw [ev]; exact pw5.1, by rw [ev]; exact pw5.2⟩ (by decide) (by decide) (pm_a hA rfl)) (fun h10 T10 w10 => ?_)
        refine s_q (fun y ey => ?_)
        have ey2 : y.toInt = x1.toInt + 1 := by rw [ey]; exact (nc_s (rg_m i1 (by decide) : Rg 0 5 x1) (by decide)).2
        clear ey
        have K10 : Kf ρ [(22, 999)] g h10 := kf_wI w10 qp
        refine ih T10 (kf_t Kg (kf_m K10 rfl)) (evp_k Tg r0 K10 (P := Eg)) (by rw [kfI 14 K10 r0]; exact k14) (by omega) (by omega) (fun i hi => ?_) (by omega)
        rw [w10, r_I]
        by_cases w : i = x1.toNatClampNeg
        · rw [if_pos ⟨rfl, w⟩, ev, w]
        · rw [if_neg (fun z => w z.2)]
          exact Pg i (by omega)
  unfold sX0_gatherSets
  refine s_ref e6 ?_
  refine s_gd (by rw [thN T qp (k := 22) (n := 6) rfl (by decide)]; exact rg_inB (rg_m (rg_b rfl : Rg 0 0 (0 : Int32)) (by decide) : Rg 0 5 (0 : Int32)) (by decide)) ?_
  refine s_hq (th_wI T qp (k := 22) (lo := 0) (hi := 1073741824) rfl (rg_m (rg_b rfl : Rg 1 1 (1 : Int32)) (by decide)) (by decide) (by decide) (pm_a hA rfl)) (fun h3 T3 w3 => ?_)
  have K3 : Kf ρ [(22, 999)] h h3 := kf_wI w3 qp
  refine l9 F T3 (kf_m K3 rfl) (evp_k T r0 K3 (P := E)) (kfI 14 K3 r0) (by decide) (by decide) (fun i hi => ?_) (by rw [z1]; omega)
  rw [z1] at hi
  have : i = 0 := by omega
  subst this
  rw [w3, r_I, if_pos ⟨rfl, rfl⟩, Int.pow_zero]
  rfl
end
end
section
/-! a key read letter by letter -/
def WiB (x o : Int) : Prop := (x ≤ 0 → o ≤ 31) ∧ (x ≤ 31 → o ≤ 1023) ∧ (x ≤ 1023 → o ≤ 32767) ∧ (x ≤ 32767 → o ≤ 1048575)
section
variable {ρ : Nat → Nat} {c : Cm} {h : Hp} {x x1 : Int32} {F : Nat}
/-- with: a key of one man more, and no larger than it must be -/
theorem with2_q (hF : 700000 ≤ F) (a : 0 ≤ x.toInt) (b : x.toInt ≤ 1048575) (K : KyX x) (i : Rg 0 23 x1) : Sat (sX0_with F h x x1) (fun o => o.2 = h ∧ Rg 0 33554431 o.1 ∧ KyX o.1 ∧ WiB x.toInt o.1.toInt) := by
  obtain ⟨d0, d1, d2, d3, d4, h0, h1, h2, h3, h4, ex⟩ := ky_dig a (by omega) ((ky_i a).mp K)
  have i0 := i.1
  have i1 := i.2
  have z1 : (1 : Int32).toInt = 1 := rfl
  have ev : (x1 + (1 : Int32)).toInt = x1.toInt + 1 := by rw [ta (by rw [z1]; omega), z1]
  have iv : Rg 0 31 (x1 + (1 : Int32)) := ⟨by omega, by omega⟩
  have fin : ∀ {z : Int32} {B : Int}, z.toInt = B → 0 ≤ B → B ≤ 33554431 → KyI B → WiB x.toInt B → Rg 0 33554431 z ∧ KyX z ∧ WiB x.toInt z.toInt := fun {z B} e b0 b1 kb wb => ⟨⟨by omega, by omega⟩, (ky_i (by omega)).mpr (by rw [e]; exact kb), by rw [e]; exact wb⟩
  have b35 : ∀ s : Int32, (s = 0 ∨ (s = 5 ∧ 1 ≤ x.toInt) ∨ (s = 10 ∧ 32 ≤ x.toInt) ∨ (s = 15 ∧ 1024 ≤ x.toInt) ∨ (s = 20 ∧ 32768 ≤ x.toInt)) → Sat (sX0_with_35 F h x x1 s) (fun o => o.2 = h ∧ Rg 0 33554431 o.1 ∧ KyX o.1 ∧ WiB x.toInt o.1.toInt) := by
    intro s hs
    unfold sX0_with_35
    refine s_q (fun v e1 => s_some ⟨rfl, ?_⟩)
    rcases hs with w | ⟨w, lx⟩ | ⟨w, lx⟩ | ⟨w, lx⟩ | ⟨w, lx⟩ <;> subst w <;> subst e1
    · have e := wi_one (x := x) (v := x1 + (1 : Int32)) (m := 0) (s := 0) (s5 := (0 : Int32) + (5 : Int32)) rfl rfl (by decide) rfl a (by omega) iv
      rw [ev] at e
      exact fin e (by show 0 ≤ x.toInt % 1 + (x1.toInt + 1) * 1 + x.toInt / 1 * 32; omega) (by show x.toInt % 1 + (x1.toInt + 1) * 1 + x.toInt / 1 * 32 ≤ _; omega) (ky_sum (e0 := x1.toInt + 1) ⟨by omega, by omega⟩ h0 h1 h2 h3 (by show x.toInt % 1 + (x1.toInt + 1) * 1 + x.toInt / 1 * 32 = _; omega)) (by show WiB x.toInt (x.toInt % 1 + (x1.toInt + 1) * 1 + x.toInt / 1 * 32); unfold WiB; omega)
    · have e := wi_one (x := x) (v := x1 + (1 : Int32)) (m := 5) (s := 5) (s5 := (5 : Int32) + (5 : Int32)) rfl rfl (by decide) rfl a (by omega) iv
      rw [ev] at e
      exact fin e (by show 0 ≤ x.toInt % 32 + (x1.toInt + 1) * 32 + x.toInt / 32 * 1024; omega) (by show x.toInt % 32 + (x1.toInt + 1) * 32 + x.toInt / 32 * 1024 ≤ _; omega) (ky_sum (e1 := x1.toInt + 1) h0 ⟨by omega, by omega⟩ h1 h2 h3 (by show x.toInt % 32 + (x1.toInt + 1) * 32 + x.toInt / 32 * 1024 = _; omega)) (by show WiB x.toInt (x.toInt % 32 + (x1.toInt + 1) * 32 + x.toInt / 32 * 1024); unfold WiB; omega)
    · have e := wi_one (x := x) (v := x1 + (1 : Int32)) (m := 10) (s := 10) (s5 := (10 : Int32) + (5 : Int32)) rfl rfl (by decide) rfl a (by omega) iv
      rw [ev] at e
      exact fin e (by show 0 ≤ x.toInt % 1024 + (x1.toInt + 1) * 1024 + x.toInt / 1024 * 32768; omega) (by show x.toInt % 1024 + (x1.toInt + 1) * 1024 + x.toInt / 1024 * 32768 ≤ _; omega) (ky_sum (e2 := x1.toInt + 1) h0 h1 ⟨by omega, by omega⟩ h2 h3 (by show x.toInt % 1024 + (x1.toInt + 1) * 1024 + x.toInt / 1024 * 32768 = _; omega)) (by show WiB x.toInt (x.toInt % 1024 + (x1.toInt + 1) * 1024 + x.toInt / 1024 * 32768); unfold WiB; omega)
    · have e := wi_one (x := x) (v := x1 + (1 : Int32)) (m := 15) (s := 15) (s5 := (15 : Int32) + (5 : Int32)) rfl rfl (by decide) rfl a (by omega) iv
      rw [ev] at e
      exact fin e (by show 0 ≤ x.toInt % 32768 + (x1.toInt + 1) * 32768 + x.toInt / 32768 * 1048576; omega) (by show x.toInt % 32768 + (x1.toInt + 1) * 32768 + x.toInt / 32768 * 1048576 ≤ _; omega) (ky_sum (e3 := x1.toInt + 1) h0 h1 h2 ⟨by omega, by omega⟩ h3 (by show x.toInt % 32768 + (x1.toInt + 1) * 32768 + x.toInt / 32768 * 1048576 = _; omega)) (by show WiB x.toInt (x.toInt % 32768 + (x1.toInt + 1) * 32768 + x.toInt / 32768 * 1048576); unfold WiB; omega)
    · have e := wi_one (x := x) (v := x1 + (1 : Int32)) (m := 20) (s := 20) (s5 := (20 : Int32) + (5 : Int32)) rfl rfl (by decide) rfl a (by omega) iv
      rw [ev] at e
      exact fin e (by show 0 ≤ x.toInt % 1048576 + (x1.toInt + 1) * 1048576 + x.toInt / 1048576 * 33554432; omega) (by show x.toInt % 1048576 + (x1.toInt + 1) * 1048576 + x.toInt / 1048576 * 33554432 ≤ _; omega) (ky_sum (e4 := x1.toInt + 1) h0 h1 h2 h3 ⟨by omega, by omega⟩ (by show x.toInt % 1048576 + (x1.toInt + 1) * 1048576 + x.toInt / 1048576 * 33554432 = _; omega)) (by show WiB x.toInt (x.toInt % 1048576 + (x1.toInt + 1) * 1048576 + x.toInt / 1048576 * 33554432); unfold WiB; omega)
  obtain ⟨F, rfl⟩ : ∃ G, F = G + 6 := ⟨F - 6, by omega⟩
  have st : ∀ (f : Nat) (s : Int32), (s = 0 ∨ (s = 5 ∧ 1 ≤ x.toInt) ∨ (s = 10 ∧ 32 ≤ x.toInt) ∨ (s = 15 ∧ 1024 ≤ x.toInt) ∨ (s = 20 ∧ 32768 ≤ x.toInt)) → (¬ ((x >>> (s &&& 31)) &&& (31 : Int32)).toInt = 0 → Sat (sX0_with_2 (F + 6) f h x x1 (s + (5 : Int32))) (fun o => o.2 = h ∧ Rg 0 33554431 o.1 ∧ KyX o.1 ∧ WiB x.toInt o.1.toInt)) → Sat (sX0_with_2 (F + 6) (f + 1) h x x1 s) (fun o => o.2 = h ∧ Rg 0 33554431 o.1 ∧ KyX o.1 ∧ WiB x.toInt o.1.toInt) := by
    intro f s hs nx
    rw [sX0_with_2]
    refine s_br (fun _ => b35 s hs) (fun _ => s_br (fun _ => b35 s hs) (fun nd => s_br (fun _ => b35 s hs) (fun _ => s_q (fun y ey => ?_))))
    rw [ey]
    exact nx (fun w => nd (Int32.toInt_inj.mp w))
  have d0 := dig_i a 0 (0 : Int32) rfl
  have d1 : ((x >>> ((5 : Int32) &&& 31)) &&& (31 : Int32)).toInt = x.toInt / 32 % 32 := dig_i a 5 (5 : Int32) rfl
  have d2 : ((x >>> ((10 : Int32) &&& 31)) &&& (31 : Int32)).toInt = x.toInt / 1024 % 32 := dig_i a 10 (10 : Int32) rfl
  have d3 : ((x >>> ((15 : Int32) &&& 31)) &&& (31 : Int32)).toInt = x.toInt / 32768 % 32 := dig_i a 15 (15 : Int32) rfl
  have d4 : ((x >>> ((20 : Int32) &&& 31)) &&& (31 : Int32)).toInt = x.toInt / 1048576 % 32 := dig_i a 20 (20 : Int32) rfl
  have e0 : x.toInt / ((2 ^ 0 : Nat) : Int) % 32 = x.toInt % 32 := by show x.toInt / 1 % 32 = _; omega
  rw [e0] at d0
  unfold sX0_with
  refine st _ 0 (Or.inl rfl) (fun n0 => ?_)
  refine st _ 5 (Or.inr (Or.inl ⟨rfl, by rw [d0] at n0; omega⟩)) (fun n1 => ?_)
  refine st _ 10 (Or.inr (Or.inr (Or.inl ⟨rfl, by rw [d1] at n1; omega⟩))) (fun n2 => ?_)
  refine st _ 15 (Or.inr (Or.inr (Or.inr (Or.inl ⟨rfl, by rw [d2] at n2; omega⟩)))) (fun n3 => ?_)
  refine st _ 20 (Or.inr (Or.inr (Or.inr (Or.inr ⟨rfl, by rw [d3] at n3; omega⟩)))) (fun n4 => ?_)
  rw [d4] at n4
  omega
/-- keys of so many letters -/
def KyN (n k : Int) : Prop := (n ≤ 0 → k ≤ 0) ∧ (n ≤ 1 → k ≤ 31) ∧ (n ≤ 2 → k ≤ 1023) ∧ (n ≤ 3 → k ≤ 32767) ∧ (n ≤ 4 → k ≤ 1048575) ∧ k ≤ 33554431
theorem readC_q {x0 x1 : Nat} (hF : 700000 ≤ F) (hA : pmA c [(1, 14)]) (T : TH ρ c h) (r0 : ρ x0 = 1) (r1 : ρ x1 = 10) (il : Rg 0 1201 (hI h x1 1)) : Sat (sX0_read F h x0 x1) (fun o => TH ρ c o.2 ∧ (o.1 = (-1 : Int32) → KyX (hI o.2 x0 14)) ∧ Kf ρ [(1, 14)] h o.2) := by
  have n01 : ¬ x1 = x0 := ne_r' r1 r0 (by decide)
  have lp : ∀ (f : Nat) {x2 x3 x4 : Int32}, 0 ≤ x4.toInt → 0 ≤ x3.toInt → KyN x4.toInt x3.toInt → KyX x3 → x4.toInt ≤ 5 → (6 - x4.toInt).toNat < f → Sat (sX0_read_7 F f h x0 x1 x2 x3 x4) (fun o => TH ρ c o.2 ∧ (o.1 = (-1 : Int32) → KyX (hI o.2 x0 14)) ∧ Kf ρ [(1, 14)] h o.2) := by
    intro f
    induction f with
    | zero => intros; omega
    | succ f ih =>
      intro x2 x3 x4 a4 a3 kn ky b4 hf
      have out : ∀ v : Int32, 0 ≤ v.toInt → TH ρ c h ∧ (v = (-1 : Int32) → KyX (hI h x0 14)) ∧ Kf ρ [(1, 14)] h h := fun v v0 => ⟨T, fun w => by rw [w] at v0; exact absurd v0 (by decide), kf_r⟩
      rw [sX0_read_7]
      unfold sX0_read_117 sX0_read_43 sX0_read_83
      refine s_br (fun _ => ?_) (fun _ => ?_)
      · refine s_hq (th_wI T r0 (k := 1) (i := 14) (lo := 0) (hi := 33554431) rfl ⟨a3, kn.2.2.2.2.2⟩ (by decide) (by decide) (pm_a hA rfl)) (fun h2 T2 w2 => ?_)
        have kh : KyX (hI h2 x0 14) := by rw [w2, r_I, if_pos ⟨rfl, rfl⟩]; exact ky
        exact s_br (fun _ => s_some ⟨T2, fun _ => kh, kf_wI w2 r0⟩) (fun _ => s_some ⟨T2, fun _ => kh, kf_wI w2 r0⟩)
      · obtain ⟨L, eL, qL⟩ := thR T r0 (i := 0) (k2 := 2) rfl (by decide)
        refine s_ref eL ?_
        refine s_cl (s_imp (zX9_byteAt hF T r1 (rg_top _)) (fun o5 w5 => ?_))
        obtain ⟨e5, i5, _⟩ := w5
        rw [e5]
        refine s_cI0q (zX1_codeOf hF T qL i5) (fun o6 e6 i6 _ => ?_)
        rw [e6]
        refine s_br (fun _ => s_some (out _ a4)) (fun n5 => ?_)
        have l5 := nle_i n5
        have z5 : (5 : Int32).toInt = 5 := rfl
        rw [z5] at l5
        have i4 : Rg 0 4 x4 := ⟨a4, by omega⟩
        refine s_br (fun _ => s_some (out _ a4)) (fun nc => ?_)
        have ic : Rg 0 23 o6.1 := rg_nlo nc i6 (rg_b rfl : Rg (-1) (-1) (-1 : Int32))
        have go : ∀ u : Int32, Sat (cl (sX0_with F h x3 o6.1) fun o_1 => nm (x4 + (1 : Int32)) fun v_2 => sX0_read_7 F f o_1.2 x0 x1 u o_1.1 v_2) (fun o => TH ρ c o.2 ∧ (o.1 = (-1 : Int32) → KyX (hI o.2 x0 14)) ∧ Kf ρ [(1, 14)] h o.2) := fun u => by
          refine s_cl (s_imp (with2_q hF a3 (kn.2.2.2.2.1 (by omega)) ky ic) (fun o1 ⟨e1, i1', k1, wb⟩ => ?_))
          rw [e1]
          refine s_q (fun y ey => ?_)
          have ey2 : y.toInt = x4.toInt + 1 := by rw [ey]; exact (nc_s i4 (by decide)).2
          clear ey
          refine ih (by omega) i1'.1 ?_ k1 (by omega) (by omega)
          obtain ⟨k0, k1', k2, k3, k4, k5⟩ := kn
          obtain ⟨w0, w1, w2, w3⟩ := wb
          have u5 := i1'.2
          rw [ey2]
          exact ⟨fun z => by omega, fun z => w0 (k0 (by omega)), fun z => w1 (k1' (by omega)), fun z => w2 (k2 (by omega)), fun z => w3 (k3 (by omega)), u5⟩
        refine s_ref eL ?_
        refine s_br (fun _ => ?_) (fun _ => go _)
        refine s_br (fun _ => ?_) (fun _ => s_some (out _ a4))
        exact s_q (fun u _ => go u)
  unfold sX0_read
  have z0 : (0 : Int32).toInt = 0 := rfl
  exact lp F (by decide) (by decide) ⟨fun _ => by decide, fun _ => by decide, fun _ => by decide, fun _ => by decide, fun _ => by decide, by decide⟩ ((ky_i (x := 0) (by decide)).mpr (ky_sum (e0 := 0) (e1 := 0) (e2 := 0) (e3 := 0) (e4 := 0) (by decide) (by decide) (by decide) (by decide) (by decide) rfl)) (by decide) (by rw [z0]; omega)
end
end
section
/-! rows of a solution of the class are made -/
theorem newR24 {ρ : Nat → Nat} {c : Cm} {h h2 : Hp} {a k z : Nat} (T : TH ρ c h) (ea : a = hS h) (eh : h2 = nC h k 600000 z) : ∃ ρ' c', Ext ρ c ρ' c' ∧ TH ρ' c' h2 ∧ ρ' a = 24 ∧ Old h h2 ∧ hN h2 a = 600000 := by
  have t1 : h.1 = c.1 := T.1.1
  have lt : ∀ b, ρ b ≠ 0 → b < h.1.1 := fun b hb => by rw [t1]; exact T.2.1.2.2.1 b hb
  have z0 : ∀ b, h.1.1 ≤ b → ρ b = 0 := fun b hb => by
    by_cases q : ρ b = 0
    · exact q
    · have := lt b q; omega
  have eS : hS h = h.1.1 := rfl
  have ea' : a = h.1.1 := ea
  have O : Old h h2 := fun b hb => by
    have nb : ¬ b = hS h := by rw [eS]; omega
    rw [eh]
    exact ⟨fun i => by rw [nC_I, if_neg nb], fun i => by rw [nC_J, if_neg nb], fun i => by rw [nC_R, if_neg nb], by rw [nC_N, if_neg nb]⟩
  have o1 : h2.1.1 = h.1.1 + 1 := by rw [eh]; rfl
  let ρ' : Nat → Nat := fun b => if b = h.1.1 then 24 else ρ b
  have ro : ∀ b, b < h.1.1 → ρ' b = ρ b := fun b hb => if_neg (by omega)
  have rn : ρ' h.1.1 = 24 := if_pos rfl
  have rc : ∀ b, h.1.1 ≤ b → ρ' b = 24 ∨ ρ' b = 0 := fun b hb => by
    by_cases q : b = h.1.1
    · exact Or.inl (if_pos q)
    · exact Or.inr ((if_neg q).trans (z0 b hb))
  have hz : ∀ b, h.1.1 ≤ b → ρ' b = 24 → b = h.1.1 := fun b hb q => by
    by_cases y : b = h.1.1
    · exact y
    · have : ρ' b = 0 := (if_neg y).trans (z0 b hb)
      rw [this] at q; exact absurd q (by decide)
  have TT := adopt T O ρ' (cw c) (by omega) ro (fun b hb => (if_neg (by omega)).trans (z0 b (by omega))) (fun _ _ => rfl)
    (fun b i hb => by
      rcases rc b hb with q | q
      · rw [q, eh, nC_I, if_pos (show b = hS h from hz b hb q)]; exact ⟨(rg_m (rg_b rfl : Rg 0 0 (0 : Int32)) (by decide) : Rg (-4000000) 4000000 (0 : Int32)), rp0 rfl⟩
      · rw [q]; exact ⟨rg_top _, rp0 rfl⟩)
    (fun b i hb hk => by rcases rc b hb with q | q <;> rw [q] at hk <;> exact absurd rfl hk)
    (fun b i hb => by rcases rc b hb with q | q <;> rw [q] <;> rfl)
    (fun b hb hk => by
      rcases rc b hb with q | q
      · rw [q] at hk; exact absurd rfl hk
      · rw [q] at hk; exact absurd rfl hk)
    (fun b hb => by rcases rc b hb with q | q <;> rw [q] <;> decide)
    (fun p i r hb hp => by rcases rc p hb with q | q <;> rw [q] at hp <;> exact absurd hp (by decide))
    (fun p q i r hb _ hp => by rcases rc p hb with q | q <;> rw [q] at hp <;> exact absurd hp (by decide))
    (fun b i hb => by rcases rc b hb with q | q <;> rw [q] <;> rfl)
    (fun b hb => by rcases rc b hb with q | q <;> rw [q] <;> rfl)
    (fun b i r hb hi => by rcases rc b hb with q | q <;> rw [q] at hi <;> exact absurd hi (by decide))
    (fun b i hb => by rcases rc b hb with q | q <;> rw [q] <;> rfl)
    (fun b i r hb h0 hr => by
      rcases rc b hb with q | q
      · rw [eh, nC_R, if_pos (show b = hS h from hz b hb q)] at hr
        exact absurd hr (by simp)
      · exact absurd q h0)
  refine ⟨ρ', (h2.1, (c.2.1, (cw c, c.2.2.2))), ⟨fun b hb => ⟨ro b (lt b hb), rfl⟩, rfl, rfl, ?_, fun b hb => ro b (by rw [t1]; exact hb)⟩, TT, by rw [ea']; exact rn, O, by rw [eh, nC_N, if_pos ea]⟩
  show c.1.1 ≤ h2.1.1
  rw [o1, ← t1]; omega
theorem newR25 {ρ : Nat → Nat} {c : Cm} {h h2 : Hp} {a k z : Nat} (T : TH ρ c h) (ea : a = hS h) (eh : h2 = nC h k 600000 z) : ∃ ρ' c', Ext ρ c ρ' c' ∧ TH ρ' c' h2 ∧ ρ' a = 25 ∧ Old h h2 ∧ hN h2 a = 600000 := by
  have t1 : h.1 = c.1 := T.1.1
  have lt : ∀ b, ρ b ≠ 0 → b < h.1.1 := fun b hb => by rw [t1]; exact T.2.1.2.2.1 b hb
  have z0 : ∀ b, h.1.1 ≤ b → ρ b = 0 := fun b hb => by
    by_cases q : ρ b = 0
    · exact q
    · have := lt b q; omega
  have eS : hS h = h.1.1 := rfl
  have ea' : a = h.1.1 := ea
  have O : Old h h2 := fun b hb => by
    have nb : ¬ b = hS h := by rw [eS]; omega
    rw [eh]
    exact ⟨fun i => by rw [nC_I, if_neg nb], fun i => by rw [nC_J, if_neg nb], fun i => by rw [nC_R, if_neg nb], by rw [nC_N, if_neg nb]⟩
  have o1 : h2.1.1 = h.1.1 + 1 := by rw [eh]; rfl
  let ρ' : Nat → Nat := fun b => if b = h.1.1 then 25 else ρ b
  have ro : ∀ b, b < h.1.1 → ρ' b = ρ b := fun b hb => if_neg (by omega)
  have rn : ρ' h.1.1 = 25 := if_pos rfl
  have rc : ∀ b, h.1.1 ≤ b → ρ' b = 25 ∨ ρ' b = 0 := fun b hb => by
    by_cases q : b = h.1.1
    · exact Or.inl (if_pos q)
    · exact Or.inr ((if_neg q).trans (z0 b hb))
  have hz : ∀ b, h.1.1 ≤ b → ρ' b = 25 → b = h.1.1 := fun b hb q => by
    by_cases y : b = h.1.1
    · exact y
    · have : ρ' b = 0 := (if_neg y).trans (z0 b hb)
      rw [this] at q; exact absurd q (by decide)
  have TT := adopt T O ρ' (cw c) (by omega) ro (fun b hb => (if_neg (by omega)).trans (z0 b (by omega))) (fun _ _ => rfl)
    (fun b i hb => by rcases rc b hb with q | q <;> rw [q] <;> exact ⟨rg_top _, rp0 rfl⟩)
    (fun b i hb hk => by rcases rc b hb with q | q <;> rw [q] at hk <;> exact absurd rfl hk)
    (fun b i hb => by rcases rc b hb with q | q <;> rw [q] <;> rfl)
    (fun b hb hk => by
      rcases rc b hb with q | q
      · rw [q] at hk; exact absurd rfl hk
      · rw [q] at hk; exact absurd rfl hk)
    (fun b hb => by rcases rc b hb with q | q <;> rw [q] <;> decide)
    (fun p i r hb hp => by rcases rc p hb with q | q <;> rw [q] at hp <;> exact absurd hp (by decide))
    (fun p q i r hb _ hp => by rcases rc p hb with q | q <;> rw [q] at hp <;> exact absurd hp (by decide))
    (fun b i hb => by rcases rc b hb with q | q <;> rw [q] <;> rfl)
    (fun b hb => by rcases rc b hb with q | q <;> rw [q] <;> rfl)
    (fun b i r hb hi => by rcases rc b hb with q | q <;> rw [q] at hi <;> exact absurd hi (by decide))
    (fun b i hb => by rcases rc b hb with q | q <;> rw [q] <;> rfl)
    (fun b i r hb h0 hr => by
      rcases rc b hb with q | q
      · rw [eh, nC_R, if_pos (show b = hS h from hz b hb q)] at hr
        exact absurd hr (by simp)
      · exact absurd q h0)
  refine ⟨ρ', (h2.1, (c.2.1, (cw c, c.2.2.2))), ⟨fun b hb => ⟨ro b (lt b hb), rfl⟩, rfl, rfl, ?_, fun b hb => ro b (by rw [t1]; exact hb)⟩, TT, by rw [ea']; exact rn, O, by rw [eh, nC_N, if_pos ea]⟩
  show c.1.1 ≤ h2.1.1
  rw [o1, ← t1]; omega
theorem newR26 {ρ : Nat → Nat} {c : Cm} {h h2 : Hp} {a k z : Nat} (T : TH ρ c h) (ea : a = hS h) (eh : h2 = nC h k 600000 z) : ∃ ρ' c', Ext ρ c ρ' c' ∧ TH ρ' c' h2 ∧ ρ' a = 26 ∧ Old h h2 ∧ hN h2 a = 600000 := by
  have t1 : h.1 = c.1 := T.1.1
  have lt : ∀ b, ρ b ≠ 0 → b < h.1.1 := fun b hb => by rw [t1]; exact T.2.1.2.2.1 b hb
  have z0 : ∀ b, h.1.1 ≤ b → ρ b = 0 := fun b hb => by
    by_cases q : ρ b = 0
    · exact q
    · have := lt b q; omega
  have eS : hS h = h.1.1 := rfl
  have ea' : a = h.1.1 := ea
  have O : Old h h2 := fun b hb => by
    have nb : ¬ b = hS h := by rw [eS]; omega
    rw [eh]
    exact ⟨fun i => by rw [nC_I, if_neg nb], fun i => by rw [nC_J, if_neg nb], fun i => by rw [nC_R, if_neg nb], by rw [nC_N, if_neg nb]⟩
  have o1 : h2.1.1 = h.1.1 + 1 := by rw [eh]; rfl
  let ρ' : Nat → Nat := fun b => if b = h.1.1 then 26 else ρ b
  have ro : ∀ b, b < h.1.1 → ρ' b = ρ b := fun b hb => if_neg (by omega)
  have rn : ρ' h.1.1 = 26 := if_pos rfl
  have rc : ∀ b, h.1.1 ≤ b → ρ' b = 26 ∨ ρ' b = 0 := fun b hb => by
    by_cases q : b = h.1.1
    · exact Or.inl (if_pos q)
    · exact Or.inr ((if_neg q).trans (z0 b hb))
  have hz : ∀ b, h.1.1 ≤ b → ρ' b = 26 → b = h.1.1 := fun b hb q => by
    by_cases y : b = h.1.1
    · exact y
    · have : ρ' b = 0 := (if_neg y).trans (z0 b hb)
      rw [this] at q; exact absurd q (by decide)
  have TT := adopt T O ρ' (cw c) (by omega) ro (fun b hb => (if_neg (by omega)).trans (z0 b (by omega))) (fun _ _ => rfl)
    (fun b i hb => by
      rcases rc b hb with q | q
      · rw [q, eh, nC_I, if_pos (show b = hS h from hz b hb q)]; exact ⟨(rg_m (rg_b rfl : Rg 0 0 (0 : Int32)) (by decide) : Rg 0 599999 (0 : Int32)), rp0 rfl⟩
      · rw [q]; exact ⟨rg_top _, rp0 rfl⟩)
    (fun b i hb hk => by rcases rc b hb with q | q <;> rw [q] at hk <;> exact absurd rfl hk)
    (fun b i hb => by rcases rc b hb with q | q <;> rw [q] <;> rfl)
    (fun b hb hk => by
      rcases rc b hb with q | q
      · rw [q] at hk; exact absurd rfl hk
      · rw [q] at hk; exact absurd rfl hk)
    (fun b hb => by rcases rc b hb with q | q <;> rw [q] <;> decide)
    (fun p i r hb hp => by rcases rc p hb with q | q <;> rw [q] at hp <;> exact absurd hp (by decide))
    (fun p q i r hb _ hp => by rcases rc p hb with q | q <;> rw [q] at hp <;> exact absurd hp (by decide))
    (fun b i hb => by rcases rc b hb with q | q <;> rw [q] <;> rfl)
    (fun b hb => by rcases rc b hb with q | q <;> rw [q] <;> rfl)
    (fun b i r hb hi => by rcases rc b hb with q | q <;> rw [q] at hi <;> exact absurd hi (by decide))
    (fun b i hb => by rcases rc b hb with q | q <;> rw [q] <;> rfl)
    (fun b i r hb h0 hr => by
      rcases rc b hb with q | q
      · rw [eh, nC_R, if_pos (show b = hS h from hz b hb q)] at hr
        exact absurd hr (by simp)
      · exact absurd q h0)
  refine ⟨ρ', (h2.1, (c.2.1, (cw c, c.2.2.2))), ⟨fun b hb => ⟨ro b (lt b hb), rfl⟩, rfl, rfl, ?_, fun b hb => ro b (by rw [t1]; exact hb)⟩, TT, by rw [ea']; exact rn, O, by rw [eh, nC_N, if_pos ea]⟩
  show c.1.1 ≤ h2.1.1
  rw [o1, ← t1]; omega
section
variable {ρ : Nat → Nat} {c : Cm} {h o : Hp} {x0 : Nat}
abbrev MRL : List (Nat × Nat) := [(1, 11), (1, 12), (1, 13)]
/-- the rows are not there yet, or they are whole -/
def LnI (x0 : Nat) (h : Hp) : Prop := ∀ a, hR h x0 11 = some a → hN h a = 0 ∨ LenP x0 h
theorem kf_new {ρ1 : Nat → Nat} {a q i : Nat} {h1 h2 : Hp} (T : TH ρ c h) (r0 : ρ x0 = 1) (O : Old h h1) (w : h2 = wR h1 x0 i (some q)) (y : mS MRL 1 i = true) : Kf ρ MRL h h2 ∧ ∀ b, ρ b ≠ 0 → hN h2 b = hN h b := by
  have lt : ∀ b, ρ b ≠ 0 → b < h.1.1 := fun b hb => by rw [T.1.1]; exact T.2.1.2.2.1 b hb
  refine ⟨fun b j n x => ?_, fun b n => ?_⟩
  · obtain ⟨q1, q2, q3, _⟩ := O b (lt b n)
    rw [w]
    refine ⟨q1 j, q2 j, ?_⟩
    rw [r_R, if_neg]
    · exact q3 j
    · rintro ⟨q5, q6⟩
      subst q5; subst q6
      rw [r0, y] at x
      exact absurd x (by decide)
  · rw [w]; exact (O b (lt b n)).2.2.2
theorem makeRoom_q (hA : pmA c MRL) (T : TH ρ c h) (r0 : ρ x0 = 1) (N : LnI x0 h) : Sat (sX0_makeRoom h x0) (MkV ρ c (fun o => LenP x0 o ∧ Kf ρ MRL h o)) := by
  unfold sX0_makeRoom sX0_makeRoom_15 sX0_makeRoom_23 sX0_makeRoom_31 sX0_makeRoom_34
  obtain ⟨r1, e1, q1⟩ := thR T r0 (i := 11) (k2 := 24) rfl (by decide)
  refine s_ref e1 ?_
  refine s_br (fun l => ?_) (fun _ => ?_)
  · have l := le_i l
    rcases N r1 e1 with w | w
    · rw [w] at l
      exact absurd l (by decide)
    · exact s_some ⟨ρ, c, ex_0, T, w, kf_r⟩
  · refine s_q (fun a3 ea3 => s_q (fun h4 eh4 => ?_))
    obtain ⟨ρ1, c1, X1, T4, qa3, O4, n4⟩ := newR24 T ea3 eh4
    have r1' := ex_r X1 r0 (by decide)
    refine s_hq (th_wRk T4 r1' (i := 11) (k2 := 24) rfl (by decide) qa3 (by decide) (by decide) rfl rfl rfl rfl (pm_a (ex_A X1 hA) rfl)) (fun h5 T5 w5 => ?_)
    obtain ⟨K5, M5⟩ := kf_new (a := a3) (ρ1 := ρ1) T r0 O4 w5 rfl
    have a5 : hR h5 x0 11 = some a3 := by rw [w5, r_R, if_pos ⟨rfl, rfl⟩]
    have m5 : hN h5 a3 = 600000 := by rw [w5]; exact n4
    refine s_q (fun a6 ea6 => s_q (fun h7 eh7 => ?_))
    obtain ⟨ρ2, c2, X2, T7, qa6, O7, n7⟩ := newR25 T5 ea6 eh7
    have r2' := ex_r X2 r1' (by decide)
    refine s_hq (th_wRk T7 r2' (i := 12) (k2 := 25) rfl (by decide) qa6 (by decide) (by decide) rfl rfl rfl rfl (pm_a (ex_A (ex_t X1 X2) hA) rfl)) (fun h8 T8 w8 => ?_)
    obtain ⟨K8, M8⟩ := kf_new (a := a6) (ρ1 := ρ2) T5 r1' O7 w8 rfl
    have lt5 : x0 < h5.1.1 := by rw [T5.1.1]; exact T5.2.1.2.2.1 x0 (by rw [r1']; decide)
    have a8 : hR h8 x0 11 = some a3 := by rw [w8, r_R, if_neg (fun w => absurd w.2 (by decide)), (O7 x0 lt5).2.2.1]; exact a5
    have b8 : hR h8 x0 12 = some a6 := by rw [w8, r_R, if_pos ⟨rfl, rfl⟩]
    have m8 : hN h8 a3 = 600000 := by rw [M8 a3 (by rw [qa3]; decide)]; exact m5
    have p8 : hN h8 a6 = 600000 := by rw [w8]; exact n7
    refine s_q (fun a9 ea9 => s_q (fun h10 eh10 => ?_))
    obtain ⟨ρ3, c3, X3, T10, qa9, O10, n10⟩ := newR26 T8 ea9 eh10
    have r3' := ex_r X3 r2' (by decide)
    refine s_hq (th_wRk T10 r3' (i := 13) (k2 := 26) rfl (by decide) qa9 (by decide) (by decide) rfl rfl rfl rfl (pm_a (ex_A (ex_t X1 (ex_t X2 X3)) hA) rfl)) (fun h11 T11 w11 => ?_)
    obtain ⟨K11, M11⟩ := kf_new (a := a9) (ρ1 := ρ3) T8 r2' O10 w11 rfl
    have lt8 : x0 < h8.1.1 := by rw [T8.1.1]; exact T8.2.1.2.2.1 x0 (by rw [r2']; decide)
    have a11 : hR h11 x0 11 = some a3 := by rw [w11, r_R, if_neg (fun w => absurd w.2 (by decide)), (O10 x0 lt8).2.2.1]; exact a8
    have b11 : hR h11 x0 12 = some a6 := by rw [w11, r_R, if_neg (fun w => absurd w.2 (by decide)), (O10 x0 lt8).2.2.1]; exact b8
    have c11 : hR h11 x0 13 = some a9 := by rw [w11, r_R, if_pos ⟨rfl, rfl⟩]
    have q24 : ρ2 a3 = 24 := ex_r X2 qa3 (by decide)
    refine s_some ⟨ρ3, c3, ex_t X1 (ex_t X2 X3), T11, fun i a hi er => ?_, fun b j n x => ?_⟩
    · rcases hi with w | w | w <;> subst w
      · have hz := r_eq a11 er
        subst hz
        rw [M11 a (by rw [q24]; decide)]; exact m8
      · have hz := r_eq b11 er
        subst hz
        rw [M11 a (by rw [qa6]; decide)]; exact p8
      · have hz := r_eq c11 er
        subst hz
        rw [w11]; exact n10
    · have k1 := X1.1 b n
      have n1 : ρ1 b ≠ 0 := by rw [k1.1]; exact n
      have k2 := X2.1 b n1
      have n2 : ρ2 b ≠ 0 := by rw [k2.1]; exact n1
      have u1 := K5 b j n x
      have u2 := K8 b j n1 (by rw [k1.1]; exact x)
      have u3 := K11 b j n2 (by rw [k2.1, k1.1]; exact x)
      exact ⟨u3.1.trans (u2.1.trans u1.1), u3.2.1.trans (u2.2.1.trans u1.2.1), u3.2.2.trans (u2.2.2.trans u1.2.2)⟩
end
end
section
/-! the number of a row's squares -/
theorem num_s {sq n d : Int} {k : Nat} (s1 : 1 ≤ sq) (n0 : 0 ≤ n) (nl : n + 1 ≤ sq ^ k) (d0 : 0 ≤ d) (dl : d < sq) : 0 ≤ n + d * sq ^ k ∧ n + d * sq ^ k + 1 ≤ sq ^ (k + 1) := by
  have p0 : 0 ≤ sq ^ k := Int.pow_nonneg (by omega)
  have m1 : (d + 1) * sq ^ k ≤ sq * sq ^ k := Int.mul_le_mul_of_nonneg_right (by omega) p0
  have m0 : 0 ≤ d * sq ^ k := Int.mul_nonneg d0 p0
  rw [Int.add_mul, Int.one_mul] at m1
  rw [Int.pow_succ, Int.mul_comm (sq ^ k) sq]
  omega
section
variable {ρ : Nat → Nat} {c : Cm} {h : Hp} {x0 pw ro F : Nat} {x1 : Int32} {sq : Int}
theorem number_q (hF : 700000 ≤ F) (T : TH ρ c h) (r0 : ρ x0 = 1) (e6 : hR h x0 6 = some pw) (e7 : hR h x0 7 = some ro) (s1 : 1 ≤ sq) (s64 : sq ≤ 64) (Pw : ∀ i : Nat, i ≤ 5 → (hI h pw i).toInt = sq ^ i) (Rw : ∀ i : Nat, (i : Int) < (hI h x0 8).toInt → ((hI h ro i) &&& (63 : Int32)).toInt < sq) (mx : ¬ x1 = (-1 : Int32) → (x1 &&& (63 : Int32)).toInt < sq ∧ (hI h x0 8).toInt ≤ 4) {q : Nat} (eq : q = if x1 = (-1 : Int32) then 0 else 1) : Sat (sX0_numberOf F h x0 x1) (fun o => o.2 = h ∧ 0 ≤ o.1.toInt ∧ o.1.toInt + 1 ≤ sq ^ ((hI h x0 8).toNatClampNeg + q)) := by
  have qp : ρ pw = 22 := rr T (thR T r0 (i := 6) (k2 := 22) rfl (by decide)) e6
  have qo : ρ ro = 23 := rr T (thR T r0 (i := 7) (k2 := 23) rfl (by decide)) e7
  have i8 := thI T r0 (k := 1) (i := 8) (lo := 0) (hi := 5) rfl
  have c8 := clamp_i i8.1
  have b8 := i8.2
  have m63 : ∀ y : Int32, 0 ≤ (y &&& (63 : Int32)).toInt := fun y => (rg_and (rg_b rfl : Rg 63 63 (63 : Int32)) (by decide) : Rg 0 63 (y &&& (63 : Int32))).1
  have z0 : (0 : Int32).toInt = 0 := rfl
  -- one digit more
  have add1 : ∀ {x2 y : Int32} {k : Nat}, k ≤ 4 → 0 ≤ x2.toInt → x2.toInt + 1 ≤ sq ^ k → (y &&& (63 : Int32)).toInt < sq → (x2 + ((y &&& (63 : Int32)) * (hI h pw k))).toInt = x2.toInt + (y &&& (63 : Int32)).toInt * sq ^ k := fun {x2 y k} hk a b l => by
    have st := num_s s1 a b (m63 y) l
    have pb := (pow_sq (s := sq) (by omega) s64 (k + 1) (by omega)).2
    have n0 : 0 ≤ (y &&& (63 : Int32)).toInt * sq ^ k := Int.mul_nonneg (m63 y) (Int.pow_nonneg (by omega))
    have e : ((y &&& (63 : Int32)) * (hI h pw k)).toInt = (y &&& (63 : Int32)).toInt * sq ^ k := by rw [tm (by rw [Pw k (by omega)]; omega), Pw k (by omega)]
    rw [ta (by rw [e]; omega), e]
  have lp : ∀ (f : Nat) {x2 x3 x4 x5 : Int32}, 0 ≤ x5.toInt → x5.toInt ≤ (hI h x0 8).toInt → 0 ≤ x2.toInt → 0 ≤ x3.toInt → x2.toInt + 1 ≤ sq ^ x3.toNatClampNeg → (x4 = 0 → ¬ x1 = (-1 : Int32) ∧ x3.toInt = x5.toInt) → (¬ x4 = 0 → x3.toInt = x5.toInt + (q : Int)) → (6 - x5.toInt).toNat < f → Sat (sX0_numberOf_19 F f h x0 x1 x2 x3 x4 x5) (fun o => o.2 = h ∧ 0 ≤ o.1.toInt ∧ o.1.toInt + 1 ≤ sq ^ ((hI h x0 8).toNatClampNeg + q)) := by
    intro f
    induction f with
    | zero => intros; omega
    | succ f ih =>
      intro x2 x3 x4 x5 a5 b5 a2 a3 b2 p1 p2 hf
      rw [sX0_numberOf_19]
      unfold sX0_numberOf_115
      have c3 := clamp_i a3
      have c5 := clamp_i a5
      have q1 : q ≤ 1 := by rw [eq]; split <;> omega
      refine s_br (fun l => ?_) (fun n1 => ?_)
      · have l := le_i l
        refine s_br (fun z4 => ?_) (fun n4 => s_some ⟨rfl, a2, ?_⟩)
        · obtain ⟨nm1, e3⟩ := p1 z4
          obtain ⟨mx1, mx2⟩ := mx nm1
          have q1' : q = 1 := by rw [eq, if_neg nm1]
          refine s_ref e6 ?_
          refine s_gd (by rw [thN T qp (k := 22) (n := 6) rfl (by decide)]; exact rg_inB (⟨a3, by omega⟩ : Rg 0 5 x3) (by decide)) ?_
          have e := add1 (x2 := x2) (y := x1) (k := x3.toNatClampNeg) (by omega) a2 b2 mx1
          have st := num_s s1 a2 b2 (m63 x1) mx1
          have en : (hI h x0 8).toNatClampNeg + q = x3.toNatClampNeg + 1 := by omega
          refine s_some ⟨rfl, ?_, ?_⟩
          · show 0 ≤ (x2 + ((x1 &&& (63 : Int32)) * (hI h pw x3.toNatClampNeg))).toInt
            rw [e]; exact st.1
          · show (x2 + ((x1 &&& (63 : Int32)) * (hI h pw x3.toNatClampNeg))).toInt + 1 ≤ _
            rw [e, en]; exact st.2
        · have e3 := p2 n4
          have en : (hI h x0 8).toNatClampNeg + q = x3.toNatClampNeg := by omega
          rw [en]; exact b2
      · have l5 := nle_i n1
        have i5 : Rg 0 4 x5 := ⟨a5, by omega⟩
        have ny := nc_s i5 (by decide)
        have rl := Rw x5.toNatClampNeg (by omega)
        have gr : inB x5 (hN h ro) := by rw [thN T qo (k := 23) (n := 5) rfl (by decide)]; exact rg_inB i5 (by decide)
        -- the row's man
        have b64 : ∀ {y2 y3 y4 : Int32}, 0 ≤ y2.toInt → 0 ≤ y3.toInt → y3.toInt ≤ 4 → y2.toInt + 1 ≤ sq ^ y3.toNatClampNeg → (y4 = 0 → ¬ x1 = (-1 : Int32) ∧ y3.toInt = x5.toInt) → (¬ y4 = 0 → y3.toInt = x5.toInt + (q : Int)) → Sat (sX0_numberOf_64 F (sX0_numberOf_19 F f) h x0 x1 y2 y3 y4 x5) (fun o => o.2 = h ∧ 0 ≤ o.1.toInt ∧ o.1.toInt + 1 ≤ sq ^ ((hI h x0 8).toNatClampNeg + q)) := fun {y2 y3 y4} u2 u3 v3 w2 w1 w4 => by
          unfold sX0_numberOf_64
          have k3 := clamp_i u3
          have i3 : Rg 0 4 y3 := ⟨u3, v3⟩
          have n3 := nc_s i3 (by decide)
          refine s_ref e7 (s_gd gr (s_ref e6 ?_))
          refine s_gd (by rw [thN T qp (k := 22) (n := 6) rfl (by decide)]; exact rg_inB (rg_m i3 (by decide) : Rg 0 5 y3) (by decide)) ?_
          have e := add1 (x2 := y2) (y := hI h ro x5.toNatClampNeg) (k := y3.toNatClampNeg) (by omega) u2 w2 rl
          have st := num_s s1 u2 w2 (m63 (hI h ro x5.toNatClampNeg)) rl
          refine s_q (fun v5 e5 => s_q (fun v6 ev6 => s_q (fun v7 ev7 => ?_)))
          have t5 : v5.toInt = y2.toInt + ((hI h ro x5.toNatClampNeg) &&& (63 : Int32)).toInt * sq ^ y3.toNatClampNeg := by rw [e5]; exact e
          have t6 : v6.toInt = y3.toInt + 1 := by rw [ev6]; exact n3.2
          have t6n : v6.toNatClampNeg = y3.toNatClampNeg + 1 := by rw [ev6]; exact n3.1
          have t7 : v7.toInt = x5.toInt + 1 := by rw [ev7]; exact ny.2
          clear e5 ev6 ev7
          exact ih (by omega) (by omega) (by rw [t5]; exact st.1) (by omega) (by rw [t5, t6n]; exact st.2) (fun z => ⟨(w1 z).1, by have := (w1 z).2; omega⟩) (fun z => by have := w4 z; omega) (by omega)
        have e8n : ∀ {P : Prop}, (¬ x1 = (-1 : Int32) → P) → (x1 = (-1 : Int32) → P) → P := fun a b => by
          by_cases z : x1 = (-1 : Int32)
          · exact b z
          · exact a z
        refine s_br (fun z4 => ?_) (fun n4 => ?_)
        · obtain ⟨nm1, e3⟩ := p1 z4
          obtain ⟨mx1, mx2⟩ := mx nm1
          have q1' : q = 1 := by rw [eq, if_neg nm1]
          refine s_ref e7 (s_gd gr ?_)
          refine s_br (fun _ => b64 a2 a3 (by omega) b2 p1 p2) (fun _ => ?_)
          refine s_ref e6 ?_
          have i3 : Rg 0 3 x3 := ⟨a3, by omega⟩
          have n3 := nc_s i3 (by decide)
          refine s_gd (by rw [thN T qp (k := 22) (n := 6) rfl (by decide)]; exact rg_inB (rg_m i3 (by decide) : Rg 0 5 x3) (by decide)) ?_
          have e := add1 (x2 := x2) (y := x1) (k := x3.toNatClampNeg) (by omega) a2 b2 mx1
          have st := num_s s1 a2 b2 (m63 x1) mx1
          refine s_q (fun v11 e11 => s_q (fun v12 e12 => ?_))
          have t11 : v11.toInt = x2.toInt + (x1 &&& (63 : Int32)).toInt * sq ^ x3.toNatClampNeg := by rw [e11]; exact e
          have t12 : v12.toInt = x3.toInt + 1 := by rw [e12]; exact n3.2
          have t12n : v12.toNatClampNeg = x3.toNatClampNeg + 1 := by rw [e12]; exact n3.1
          clear e11 e12
          exact b64 (by rw [t11]; exact st.1) (by omega) (by omega) (by rw [t11, t12n]; exact st.2) (fun z => absurd z (by decide)) (fun _ => by omega)
        · have e3 := p2 n4
          refine b64 a2 a3 ?_ b2 p1 p2
          rw [e3]
          by_cases z : x1 = (-1 : Int32)
          · have : q = 0 := by rw [eq, if_pos z]
            omega
          · have := (mx z).2
            omega
  unfold sX0_numberOf sX0_numberOf_14
  have one : (0 : Int32).toInt + 1 ≤ sq ^ (0 : Int32).toNatClampNeg := by show (0 : Int) + 1 ≤ sq ^ 0; rw [Int.pow_zero]; decide
  refine s_br (fun z => ?_) (fun z => ?_)
  · have q0 : q = 0 := by rw [eq, if_pos z]
    exact lp F (by decide) (by rw [z0]; exact i8.1) (by decide) (by decide) one (fun w => absurd w (by decide)) (fun _ => by rw [q0]; rfl) (by rw [z0]; omega)
  · exact lp F (by decide) (by rw [z0]; exact i8.1) (by decide) (by decide) one (fun _ => ⟨z, rfl⟩) (fun w => absurd rfl w) (by rw [z0]; omega)
end
end
section
/-! a man more: a digit more -/
theorem sz_sum {e0 e1 e2 e3 e4 B : Int} (h0 : 0 ≤ e0 ∧ e0 ≤ 24) (h1 : 0 ≤ e1 ∧ e1 ≤ 24) (h2 : 0 ≤ e2 ∧ e2 ≤ 24) (h3 : 0 ≤ e3 ∧ e3 ≤ 24) (h4 : 0 ≤ e4 ∧ e4 ≤ 24) (e : B = e0 + 32 * e1 + 1024 * e2 + 32768 * e3 + 1048576 * e4) : szI B = if e0 = 0 then 0 else if e1 = 0 then 1 else if e2 = 0 then 2 else if e3 = 0 then 3 else if e4 = 0 then 4 else 5 := by
  subst e
  have a0 : (e0 + 32 * e1 + 1024 * e2 + 32768 * e3 + 1048576 * e4) % 32 = e0 := by omega
  have a1 : (e0 + 32 * e1 + 1024 * e2 + 32768 * e3 + 1048576 * e4) / 32 = e1 + 32 * e2 + 1024 * e3 + 32768 * e4 := by omega
  have b1 : (e1 + 32 * e2 + 1024 * e3 + 32768 * e4) % 32 = e1 := by omega
  have a2 : (e0 + 32 * e1 + 1024 * e2 + 32768 * e3 + 1048576 * e4) / 1024 = e2 + 32 * e3 + 1024 * e4 := by omega
  have b2 : (e2 + 32 * e3 + 1024 * e4) % 32 = e2 := by omega
  have a3 : (e0 + 32 * e1 + 1024 * e2 + 32768 * e3 + 1048576 * e4) / 32768 = e3 + 32 * e4 := by omega
  have b3 : (e3 + 32 * e4) % 32 = e3 := by omega
  have a4 : (e0 + 32 * e1 + 1024 * e2 + 32768 * e3 + 1048576 * e4) / 1048576 = e4 := by omega
  have b4 : e4 % 32 = e4 := by omega
  unfold szI
  rw [a0, a1, b1, a2, b2, a3, b3, a4, b4]
section
variable {ρ : Nat → Nat} {c : Cm} {h : Hp} {x x1 : Int32} {F : Nat}
/-- with makes a key one digit longer -/
theorem with3_q (hF : 700000 ≤ F) (a : 0 ≤ x.toInt) (b : x.toInt ≤ 1048575) (K : KyX x) (i : Rg 0 23 x1) : Sat (sX0_with F h x x1) (fun o => o.2 = h ∧ Rg 0 33554431 o.1 ∧ KyX o.1 ∧ szI x.toInt + 1 ≤ szI o.1.toInt) := by
  obtain ⟨d0, d1, d2, d3, d4, h0, h1, h2, h3, h4, ex⟩ := ky_dig a (by omega) ((ky_i a).mp K)
  have z4 : d4 = 0 := by omega
  subst z4
  have i0 := i.1
  have i1 := i.2
  have z1 : (1 : Int32).toInt = 1 := rfl
  have ev : (x1 + (1 : Int32)).toInt = x1.toInt + 1 := by rw [ta (by rw [z1]; omega), z1]
  have iv : Rg 0 31 (x1 + (1 : Int32)) := ⟨by omega, by omega⟩
  have hv : 0 ≤ x1.toInt + 1 ∧ x1.toInt + 1 ≤ 24 := ⟨by omega, by omega⟩
  have sx := sz_sum h0 h1 h2 h3 h4 ex
  have fin : ∀ {z : Int32} {e0 e1 e2 e3 e4 : Int}, (0 ≤ e0 ∧ e0 ≤ 24) → (0 ≤ e1 ∧ e1 ≤ 24) → (0 ≤ e2 ∧ e2 ≤ 24) → (0 ≤ e3 ∧ e3 ≤ 24) → (0 ≤ e4 ∧ e4 ≤ 24) → z.toInt = e0 + 32 * e1 + 1024 * e2 + 32768 * e3 + 1048576 * e4 → szI x.toInt + 1 ≤ (if e0 = 0 then 0 else if e1 = 0 then 1 else if e2 = 0 then 2 else if e3 = 0 then 3 else if e4 = 0 then 4 else 5) → Rg 0 33554431 z ∧ KyX z ∧ szI x.toInt + 1 ≤ szI z.toInt := fun {z e0 e1 e2 e3 e4} q0 q1 q2 q3 q4 e w => ⟨⟨by omega, by omega⟩, (ky_i (by omega)).mpr (ky_sum q0 q1 q2 q3 q4 e), by rw [sz_sum q0 q1 q2 q3 q4 e]; exact w⟩
  have b35 : ∀ s : Int32, (s = 0 ∨ (s = 5 ∧ ¬ d0 = 0) ∨ (s = 10 ∧ ¬ d0 = 0 ∧ ¬ d1 = 0) ∨ (s = 15 ∧ ¬ d0 = 0 ∧ ¬ d1 = 0 ∧ ¬ d2 = 0) ∨ (s = 20 ∧ ¬ d0 = 0 ∧ ¬ d1 = 0 ∧ ¬ d2 = 0 ∧ ¬ d3 = 0)) → Sat (sX0_with_35 F h x x1 s) (fun o => o.2 = h ∧ Rg 0 33554431 o.1 ∧ KyX o.1 ∧ szI x.toInt + 1 ≤ szI o.1.toInt) := by
    intro s hs
    unfold sX0_with_35
    refine s_q (fun v e1 => s_some ⟨rfl, ?_⟩)
    rcases hs with w | ⟨w, n0⟩ | ⟨w, n0, n1⟩ | ⟨w, n0, n1, n2⟩ | ⟨w, n0, n1, n2, n3⟩ <;> subst w <;> subst e1
    · have e := wi_one (x := x) (v := x1 + (1 : Int32)) (m := 0) (s := 0) (s5 := (0 : Int32) + (5 : Int32)) rfl rfl (by decide) rfl a (by omega) iv
      rw [ev] at e
      have e : _ = x.toInt % 1 + (x1.toInt + 1) * 1 + x.toInt / 1 * 32 := e
      refine fin (e0 := x1.toInt + 1) (e1 := d0) (e2 := d1) (e3 := d2) (e4 := d3) hv h0 h1 h2 h3 (by rw [e]; omega) ?_
      rw [sx, if_neg (show ¬ x1.toInt + 1 = 0 by omega)]
      repeat' split
      all_goals omega
    · have e := wi_one (x := x) (v := x1 + (1 : Int32)) (m := 5) (s := 5) (s5 := (5 : Int32) + (5 : Int32)) rfl rfl (by decide) rfl a (by omega) iv
      rw [ev] at e
      have e : _ = x.toInt % 32 + (x1.toInt + 1) * 32 + x.toInt / 32 * 1024 := e
      refine fin (e0 := d0) (e1 := x1.toInt + 1) (e2 := d1) (e3 := d2) (e4 := d3) h0 hv h1 h2 h3 (by rw [e]; omega) ?_
      rw [sx, if_neg n0, if_neg n0, if_neg (show ¬ x1.toInt + 1 = 0 by omega)]
      repeat' split
      all_goals omega
    · have e := wi_one (x := x) (v := x1 + (1 : Int32)) (m := 10) (s := 10) (s5 := (10 : Int32) + (5 : Int32)) rfl rfl (by decide) rfl a (by omega) iv
      rw [ev] at e
      have e : _ = x.toInt % 1024 + (x1.toInt + 1) * 1024 + x.toInt / 1024 * 32768 := e
      refine fin (e0 := d0) (e1 := d1) (e2 := x1.toInt + 1) (e3 := d2) (e4 := d3) h0 h1 hv h2 h3 (by rw [e]; omega) ?_
      rw [sx, if_neg n0, if_neg n1, if_neg n0, if_neg n1, if_neg (show ¬ x1.toInt + 1 = 0 by omega)]
      repeat' split
      all_goals omega
    · have e := wi_one (x := x) (v := x1 + (1 : Int32)) (m := 15) (s := 15) (s5 := (15 : Int32) + (5 : Int32)) rfl rfl (by decide) rfl a (by omega) iv
      rw [ev] at e
      have e : _ = x.toInt % 32768 + (x1.toInt + 1) * 32768 + x.toInt / 32768 * 1048576 := e
      refine fin (e0 := d0) (e1 := d1) (e2 := d2) (e3 := x1.toInt + 1) (e4 := d3) h0 h1 h2 hv h3 (by rw [e]; omega) ?_
      rw [sx, if_neg n0, if_neg n1, if_neg n2, if_neg n0, if_neg n1, if_neg n2, if_neg (show ¬ x1.toInt + 1 = 0 by omega)]
      repeat' split
      all_goals omega
    · have e := wi_one (x := x) (v := x1 + (1 : Int32)) (m := 20) (s := 20) (s5 := (20 : Int32) + (5 : Int32)) rfl rfl (by decide) rfl a (by omega) iv
      rw [ev] at e
      have e : _ = x.toInt % 1048576 + (x1.toInt + 1) * 1048576 + x.toInt / 1048576 * 33554432 := e
      refine fin (e0 := d0) (e1 := d1) (e2 := d2) (e3 := d3) (e4 := x1.toInt + 1) h0 h1 h2 h3 hv (by rw [e]; omega) ?_
      rw [sx, if_neg n0, if_neg n1, if_neg n2, if_neg n3, if_pos rfl, if_neg n0, if_neg n1, if_neg n2, if_neg n3, if_neg (show ¬ x1.toInt + 1 = 0 by omega)]
      omega
  obtain ⟨F, rfl⟩ : ∃ G, F = G + 6 := ⟨F - 6, by omega⟩
  have st : ∀ (f : Nat) (s : Int32), (s = 0 ∨ (s = 5 ∧ ¬ d0 = 0) ∨ (s = 10 ∧ ¬ d0 = 0 ∧ ¬ d1 = 0) ∨ (s = 15 ∧ ¬ d0 = 0 ∧ ¬ d1 = 0 ∧ ¬ d2 = 0) ∨ (s = 20 ∧ ¬ d0 = 0 ∧ ¬ d1 = 0 ∧ ¬ d2 = 0 ∧ ¬ d3 = 0)) → (¬ ((x >>> (s &&& 31)) &&& (31 : Int32)).toInt = 0 → Sat (sX0_with_2 (F + 6) f h x x1 (s + (5 : Int32))) (fun o => o.2 = h ∧ Rg 0 33554431 o.1 ∧ KyX o.1 ∧ szI x.toInt + 1 ≤ szI o.1.toInt)) → Sat (sX0_with_2 (F + 6) (f + 1) h x x1 s) (fun o => o.2 = h ∧ Rg 0 33554431 o.1 ∧ KyX o.1 ∧ szI x.toInt + 1 ≤ szI o.1.toInt) := by
    intro f s hs nx
    rw [sX0_with_2]
    refine s_br (fun _ => b35 s hs) (fun _ => s_br (fun _ => b35 s hs) (fun nd => s_br (fun _ => b35 s hs) (fun _ => s_q (fun y ey => ?_))))
    rw [ey]
    exact nx (fun w => nd (Int32.toInt_inj.mp w))
  have g0 : ((x >>> ((0 : Int32) &&& 31)) &&& (31 : Int32)).toInt = d0 := by rw [dig_i a 0 (0 : Int32) rfl]; show x.toInt / 1 % 32 = d0; omega
  have g1 : ((x >>> ((5 : Int32) &&& 31)) &&& (31 : Int32)).toInt = d1 := by
    rw [dig_i a 5 (5 : Int32) rfl]; show x.toInt / 32 % 32 = d1
    have : x.toInt / 32 = d1 + 32 * d2 + 1024 * d3 := by omega
    rw [this]; omega
  have g2 : ((x >>> ((10 : Int32) &&& 31)) &&& (31 : Int32)).toInt = d2 := by
    rw [dig_i a 10 (10 : Int32) rfl]; show x.toInt / 1024 % 32 = d2
    have : x.toInt / 1024 = d2 + 32 * d3 := by omega
    rw [this]; omega
  have g3 : ((x >>> ((15 : Int32) &&& 31)) &&& (31 : Int32)).toInt = d3 := by
    rw [dig_i a 15 (15 : Int32) rfl]; show x.toInt / 32768 % 32 = d3
    have : x.toInt / 32768 = d3 := by omega
    rw [this]; omega
  have g4 : ((x >>> ((20 : Int32) &&& 31)) &&& (31 : Int32)).toInt = 0 := by
    rw [dig_i a 20 (20 : Int32) rfl]; show x.toInt / 1048576 % 32 = 0
    omega
  unfold sX0_with
  refine st _ 0 (Or.inl rfl) (fun n0 => ?_)
  rw [g0] at n0
  refine st _ 5 (Or.inr (Or.inl ⟨rfl, n0⟩)) (fun n1 => ?_)
  rw [g1] at n1
  refine st _ 10 (Or.inr (Or.inr (Or.inl ⟨rfl, n0, n1⟩))) (fun n2 => ?_)
  rw [g2] at n2
  refine st _ 15 (Or.inr (Or.inr (Or.inr (Or.inl ⟨rfl, n0, n1, n2⟩)))) (fun n3 => ?_)
  rw [g3] at n3
  refine st _ 20 (Or.inr (Or.inr (Or.inr (Or.inr ⟨rfl, n0, n1, n2, n3⟩)))) (fun n4 => ?_)
  exact absurd g4 n4
end
end
