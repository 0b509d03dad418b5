/-! sets sorted, and where each begins -/
theorem sm_up {f : Nat → Int32} {G : Int32 → Int} {k : Nat} {v : Int32} : ∀ n, k < n → sm (fun i => G (up f k v i)) n + G (f k) = sm (fun i => G (f i)) n + G v := by
  intro n
  induction n with
  | zero => intro h; omega
  | succ n ih =>
    intro h
    show sm (fun i => G (up f k v i)) n + G (up f k v n) + G (f k) = sm (fun i => G (f i)) n + G (f n) + G v
    by_cases z : k = n
    · subst z
      have : sm (fun i => G (up f k v i)) k = sm (fun i => G (f i)) k := sm_eq k (fun i hi => by show G (up f k v i) = G (f i); unfold up; rw [if_neg (by omega)])
      have e2 : up f k v k = v := by unfold up; rw [if_pos rfl]
      rw [this, e2]
      omega
    · have := ih (by omega)
      have e2 : up f k v n = f n := by unfold up; rw [if_neg (by omega)]
      rw [e2]
      omega
theorem sm_swap {f : Nat → Int32} {G : Int32 → Int} {k m : Nat} {v : Int32} (hk : k + 1 < m) : sm (fun i => G (up (up f (k + 1) (f k)) k v i)) m = sm (fun i => G (up f (k + 1) v i)) m := by
  have a := sm_up (f := up f (k + 1) (f k)) (G := G) (k := k) (v := v) m (by omega)
  have b := sm_up (f := f) (G := G) (k := k + 1) (v := f k) m hk
  have c := sm_up (f := f) (G := G) (k := k + 1) (v := v) m hk
  have e : up f (k + 1) (f k) k = f k := by unfold up; rw [if_neg (by omega)]
  rw [e] at a
  omega
abbrev SSL : List (Nat × Nat) := [(20, 999), (21, 999)]
/-- where each set begins -/
def StP (x0 ks pw st : Nat) (h : Hp) : Prop := sm (fun i => gK h pw (hI h ks i)) (hI h x0 9).toNatClampNeg ≤ 600000 ∧ ∀ i : Nat, i ≤ (hI h x0 9).toNatClampNeg → (hI h st i).toInt = sm (fun i => gK h pw (hI h ks i)) i
section
variable {ρ : Nat → Nat} {c : Cm} {h o : Hp} {x0 ks pw st F : Nat} {x1 : Int32}
theorem sortC_q (hF : 700000 ≤ F) (hA : pmA c SSL) (T : TH ρ c h) (r0 : ρ x0 = 1) (e4 : hR h x0 4 = some ks) (e5 : hR h x0 5 = some st) (e6 : hR h x0 6 = some pw) (S : sm (fun i => gK h pw (hI h ks i)) (hI h x0 9).toNatClampNeg ≤ 600000) (E : EvP x0 h) : Sat (sX0_sortSets F h x0) (fun o => TH ρ c o ∧ StP x0 ks pw st o ∧ EvP x0 o ∧ Kf ρ SSL h o) := by
  have qk : ρ ks = 20 := rr T (thR T r0 (i := 4) (k2 := 20) rfl (by decide)) e4
  have qs : ρ st = 21 := rr T (thR T r0 (i := 5) (k2 := 21) rfl (by decide)) e5
  have qp : ρ pw = 22 := rr T (thR T r0 (i := 6) (k2 := 22) rfl (by decide)) e6
  have i9 := thI T r0 (k := 1) (i := 9) (lo := 0) (hi := 1024) rfl
  have c9 := clamp_i i9.1
  have b9 := i9.2
  have z0 : (0 : Int32).toInt = 0 := rfl
  have z1 : (1 : Int32).toInt = 1 := rfl
  have gp : ∀ {g : Hp}, TH ρ c g → ∀ x, 0 ≤ gK g pw x := fun Tg x => by
    have := (thI Tg qp (k := 22) (i := szI x.toInt) (lo := 0) (hi := 1073741824) rfl).1
    unfold gK
    omega
  -- where each begins
  have l77 : ∀ (f : Nat) {g : Hp} {x1 : Int32}, TH ρ c g → Kf ρ SSL h g → EvP x0 g → sm (fun i => gK g pw (hI g ks i)) (hI h x0 9).toNatClampNeg ≤ 600000 → 0 ≤ x1.toInt → x1.toInt ≤ (hI h x0 9).toInt → (∀ i : Nat, (i : Int) ≤ x1.toInt → (hI g st i).toInt = sm (fun i => gK g pw (hI g ks i)) i) → (1025 - x1.toInt).toNat < f → Sat (sX0_sortSets_77 F f g x0 x1) (fun o => TH ρ c o ∧ StP x0 ks pw st o ∧ EvP x0 o ∧ Kf ρ SSL h o) := by
    intro f
    induction f with
    | zero => intros; omega
    | succ f ih =>
      intro g x1 Tg Kg Eg Sg a1 b1 B hf
      rw [sX0_sortSets_77]
      have k9 := kfI 9 Kg r0
      have c1 := clamp_i a1
      refine s_br (fun l => ?_) (fun n1 => ?_)
      · have l := le_i l
        rw [k9] at l
        exact s_some ⟨Tg, ⟨by rw [k9]; exact Sg, fun i hi => by rw [k9] at hi; exact B i (by omega)⟩, Eg, Kg⟩
      · have l1 := nle_i n1
        rw [k9] at l1
        have i1 : Rg 0 1023 x1 := ⟨a1, by omega⟩
        have ny := nc_s i1 (by decide)
        have e5g : hR g x0 5 = some st := by rw [kfR 5 Kg r0]; exact e5
        have e4g : hR g x0 4 = some ks := by rw [kfR 4 Kg r0]; exact e4
        have e6g : hR g x0 6 = some pw := by rw [kfR 6 Kg r0]; exact e6
        refine s_ref e5g (s_ref e5g ?_)
        refine s_gd (by rw [thN Tg qs (k := 21) (n := 1025) rfl (by decide)]; exact rg_inB (rg_m i1 (by decide) : Rg 0 1024 x1) (by decide)) ?_
        refine s_ref e6g (s_ref e4g ?_)
        refine s_gd (by rw [thN Tg qk (k := 20) (n := 1024) rfl (by decide)]; exact rg_inB i1 (by decide)) ?_
        have ik := thI Tg qk (k := 20) (i := x1.toNatClampNeg) (lo := 0) (hi := 33554431) rfl
        refine s_cl (s_imp (size_q hF ik.1) (fun o8 ⟨e8, v8⟩ => ?_))
        rw [e8, v8]
        have s5 := sz_le (hI g ks x1.toNatClampNeg).toInt
        have isz : Rg 0 5 (nI (szI (hI g ks x1.toNatClampNeg).toInt)) := ⟨by rw [z_toInt (by omega)]; exact Int.natCast_nonneg _, by rw [z_toInt (by omega)]; omega⟩
        have csz : (nI (szI (hI g ks x1.toNatClampNeg).toInt)).toNatClampNeg = szI (hI g ks x1.toNatClampNeg).toInt := by
          have := clamp_i isz.1
          rw [z_toInt (by omega)] at this
          omega
        refine s_gd (by rw [thN Tg qp (k := 22) (n := 6) rfl (by decide)]; exact rg_inB isz (by decide)) ?_
        refine s_gd (by rw [thN Tg qs (k := 21) (n := 1025) rfl (by decide)]; exact rg_inB (⟨by omega, by omega⟩ : Rg 0 1024 (x1 + (1 : Int32))) (by decide)) ?_
        rw [csz]
        have bx := B x1.toNatClampNeg (by omega)
        have sN : sm (fun i => gK g pw (hI g ks i)) (x1.toNatClampNeg + 1) ≤ 600000 := by
          have := sm_le (f := fun i => gK g pw (hI g ks i)) (fun i => gp Tg _) (x1.toNatClampNeg + 1) ((hI h x0 9).toNatClampNeg - (x1.toNatClampNeg + 1))
          have en : x1.toNatClampNeg + 1 + ((hI h x0 9).toNatClampNeg - (x1.toNatClampNeg + 1)) = (hI h x0 9).toNatClampNeg := by omega
          rw [en] at this
          omega
        have sn0 := sm_0 (f := fun i => gK g pw (hI g ks i)) (fun i => gp Tg _) x1.toNatClampNeg
        have g0 := gp Tg (hI g ks x1.toNatClampNeg)
        have sE : sm (fun i => gK g pw (hI g ks i)) (x1.toNatClampNeg + 1) = sm (fun i => gK g pw (hI g ks i)) x1.toNatClampNeg + gK g pw (hI g ks x1.toNatClampNeg) := rfl
        have gE : gK g pw (hI g ks x1.toNatClampNeg) = 2 * (hI g pw (szI (hI g ks x1.toNatClampNeg).toInt)).toInt := rfl
        have z2 : (2 : Int32).toInt = 2 := rfl
        have m2 : ((2 : Int32) * (hI g pw (szI (hI g ks x1.toNatClampNeg).toInt))).toInt = 2 * (hI g pw (szI (hI g ks x1.toNatClampNeg).toInt)).toInt := by rw [tm (by rw [z2]; omega), z2]
        have vv : ((hI g st x1.toNatClampNeg) + ((2 : Int32) * (hI g pw (szI (hI g ks x1.toNatClampNeg).toInt)))).toInt = sm (fun i => gK g pw (hI g ks i)) (x1.toNatClampNeg + 1) := by
          rw [ta (by rw [m2]; omega), m2, bx, sE, gE]
        refine s_hq (th_wI Tg qs (k := 21) (lo := 0) (hi := 600000) rfl ⟨by rw [vv]; omega, by rw [vv]; exact sN⟩ (by decide) (by decide) (pm_a hA rfl)) (fun h11 T11 w11 => ?_)
        refine s_q (fun y ey => ?_)
        have ey2 : y.toInt = x1.toInt + 1 := by rw [ey]; exact ny.2
        clear ey
        have K11 : Kf ρ SSL g h11 := kf_wI w11 qs
        have nks : ¬ ks = st := ne_r' qk qs (by decide)
        have kk : ∀ i, hI h11 ks i = hI g ks i := fun i => by rw [w11, r_I, if_neg (fun w => nks w.1)]
        have kp : ∀ i, hI h11 pw i = hI g pw i := fun i => kfI i K11 qp
        have gk : ∀ i, gK h11 pw (hI h11 ks i) = gK g pw (hI g ks i) := fun i => by unfold gK; rw [kk, kp]
        refine ih T11 (kf_t Kg K11) (fun r er i => ?_) (by rw [sm_eq (g := fun i => gK g pw (hI g ks i)) _ (fun i _ => gk i)]; exact Sg) (by omega) (by omega) (fun i hi => ?_) (by omega)
        · rw [kfR 5 K11 r0] at er
          have hz := r_eq e5g er
          subst hz
          rw [w11, r_I]
          split
          · rw [vv, sE, gE, ← bx]
            have := Eg r e5g x1.toNatClampNeg
            omega
          · exact Eg r e5g i
        · rw [sm_eq (f := fun i => gK h11 pw (hI h11 ks i)) (g := fun i => gK g pw (hI g ks i)) _ (fun i _ => gk i), w11, r_I, ny.1]
          by_cases w : i = x1.toNatClampNeg + 1
          · rw [if_pos ⟨rfl, w⟩, vv, w]
          · rw [if_neg (fun z => w z.2)]
            exact B i (by omega)
  -- in order
  have l2 : ∀ (f : Nat) {g : Hp} {x1 : Int32}, TH ρ c g → Kf ρ SSL h g → EvP x0 g → sm (fun i => gK h pw (hI g ks i)) (hI h x0 9).toNatClampNeg ≤ 600000 → 1 ≤ x1.toInt → (1025 - x1.toInt).toNat < f → Sat (sX0_sortSets_2 F f g x0 x1) (fun o => TH ρ c o ∧ StP x0 ks pw st o ∧ EvP x0 o ∧ Kf ρ SSL h o) := by
    intro f
    induction f with
    | zero => intros; omega
    | succ f ih =>
      intro g x1 Tg Kg Eg Sg a1 hf
      rw [sX0_sortSets_2]
      have k9 := kfI 9 Kg r0
      have e5g : hR g x0 5 = some st := by rw [kfR 5 Kg r0]; exact e5
      have e4g : hR g x0 4 = some ks := by rw [kfR 4 Kg r0]; exact e4
      have c1 := clamp_i (v := x1) (by omega)
      refine s_br (fun _ => ?_) (fun n1 => ?_)
      · refine s_ref e5g ?_
        refine s_gd (by rw [thN Tg qs (k := 21) (n := 1025) rfl (by decide)]; exact rg_inB (rg_m (rg_b rfl : Rg 0 0 (0 : Int32)) (by decide) : Rg 0 1024 (0 : Int32)) (by decide)) ?_
        refine s_hq (th_wI Tg qs (k := 21) (lo := 0) (hi := 600000) rfl (rg_m (rg_b rfl : Rg 0 0 (0 : Int32)) (by decide)) (by decide) (by decide) (pm_a hA rfl)) (fun h4 T4 w4 => ?_)
        have K4 : Kf ρ SSL g h4 := kf_wI w4 qs
        have nks : ¬ ks = st := ne_r' qk qs (by decide)
        have kk : ∀ i, hI h4 ks i = hI g ks i := fun i => by rw [w4, r_I, if_neg (fun w => nks w.1)]
        refine l77 F T4 (kf_t Kg K4) (fun r er i => ?_) ?_ (by decide) (by rw [z0]; exact i9.1) (fun i hi => ?_) (by rw [z0]; omega)
        · rw [kfR 5 K4 r0] at er
          have hz := r_eq e5g er
          subst hz
          rw [w4, r_I]
          split
          · decide
          · exact Eg r e5g i
        · rw [sm_eq (g := fun i => gK h pw (hI g ks i)) _ (fun i _ => by show gK h4 pw (hI h4 ks i) = _; unfold gK; rw [kk, kfI _ K4 qp, kfI _ Kg qp])]
          exact Sg
        · rw [z0] at hi
          have : i = 0 := by omega
          subst this
          rw [w4, r_I, if_pos ⟨rfl, rfl⟩]
          rfl
      · have l1 := nle_i n1
        rw [k9] at l1
        have i1 : Rg 0 1023 x1 := ⟨by omega, by omega⟩
        have ny := nc_s i1 (by decide)
        refine s_ref e4g ?_
        refine s_gd (by rw [thN Tg qk (k := 20) (n := 1024) rfl (by decide)]; exact rg_inB i1 (by decide)) ?_
        refine s_q (fun v ev => ?_)
        have iv : Rg 0 33554431 v := by rw [ev]; exact thI Tg qk (k := 20) (lo := 0) (hi := 33554431) rfl
        have kv : KyX v := by rw [ev]; exact thKy Tg qk
        have inn : ∀ (ff : Nat) {g : Hp} {x3 : Int32}, TH ρ c g → Kf ρ SSL h g → EvP x0 g → 0 ≤ x3.toInt → x3.toInt ≤ x1.toInt → sm (fun i => gK h pw (up (fun i => hI g ks i) x3.toNatClampNeg v i)) (hI h x0 9).toNatClampNeg ≤ 600000 → (1025 - (x1.toInt - x3.toInt)).toNat ≤ 1025 → x3.toInt.toNat < ff → Sat (sX0_sortSets_19 F (sX0_sortSets_2 F f) ff g x0 x1 v x3) (fun o => TH ρ c o ∧ StP x0 ks pw st o ∧ EvP x0 o ∧ Kf ρ SSL h o) := by
          intro ff
          induction ff with
          | zero => intros; omega
          | succ ff ih2 =>
            intro g x3 Tg Kg Eg a3 b3 Sg _ hf3
            rw [sX0_sortSets_19]
            have e4g : hR g x0 4 = some ks := by rw [kfR 4 Kg r0]; exact e4
            have c3 := clamp_i a3
            have i3 : Rg 0 1023 x3 := ⟨a3, by omega⟩
            have evw : ∀ {g2 : Hp} {j : Nat} {u : Int32}, g2 = wI g ks j u → EvP x0 g2 := fun {g2 j u} w r er i => by
              rw [w] at er
              have er' : hR g x0 5 = some r := er
              have qr : ρ r = 21 := rr Tg (thR Tg r0 (i := 5) (k2 := 21) rfl (by decide)) er'
              rw [w, r_I, if_neg (ne_r qr qk (by decide))]
              exact Eg r er' i
            have put : Sat (sX0_sortSets_55 F (sX0_sortSets_2 F f) g x0 x1 v x3) (fun o => TH ρ c o ∧ StP x0 ks pw st o ∧ EvP x0 o ∧ Kf ρ SSL h o) := by
              unfold sX0_sortSets_55
              refine s_ref e4g ?_
              refine s_gd (by rw [thN Tg qk (k := 20) (n := 1024) rfl (by decide)]; exact rg_inB i3 (by decide)) ?_
              refine s_hq (th_wI Tg qk (k := 20) (lo := 0) (hi := 33554431) rfl iv (by decide) (by decide) (pm_a hA rfl) (rpK kv)) (fun h3 T3 w3 => ?_)
              refine s_q (fun y ey => ?_)
              have ey2 : y.toInt = x1.toInt + 1 := by rw [ey]; exact ny.2
              clear ey
              refine ih T3 (kf_t Kg (kf_wI w3 qk)) (evw w3) ?_ (by omega) (by omega)
              rw [w3, sm_eq (g := fun i => gK h pw (up (fun i => hI g ks i) x3.toNatClampNeg v i)) _ (fun i _ => by show gK h pw (hI (wI g ks x3.toNatClampNeg v) ks i) = _; rw [show hI (wI g ks x3.toNatClampNeg v) ks i = up (fun i => hI g ks i) x3.toNatClampNeg v i from congrFun row_up i])]
              exact Sg
            refine s_br (fun _ => put) (fun n3 => ?_)
            have p3 := nle_i n3
            have i3' : Rg 1 1023 x3 := ⟨p3, by omega⟩
            have dd := rg_decs i3' (by decide)
            have id : Rg 0 1022 (x3 - (1 : Int32)) := ⟨by omega, by omega⟩
            have cd := clamp_i id.1
            have gd1 : inB (x3 - (1 : Int32)) (hN g ks) := by rw [thN Tg qk (k := 20) (n := 1024) rfl (by decide)]; exact rg_inB id (by decide)
            refine s_ref e4g (s_gd gd1 ?_)
            refine s_br (fun _ => put) (fun _ => ?_)
            refine s_ref e4g (s_ref e4g (s_gd gd1 ?_))
            refine s_gd (by rw [thN Tg qk (k := 20) (n := 1024) rfl (by decide)]; exact rg_inB i3 (by decide)) ?_
            refine s_hq (th_wI Tg qk (k := 20) (lo := 0) (hi := 33554431) rfl (thI Tg qk (k := 20) (lo := 0) (hi := 33554431) rfl) (by decide) (by decide) (pm_a hA rfl) (rpK (thKy Tg qk))) (fun h9 T9 w9 => ?_)
            refine s_q (fun y ey => ?_)
            have ey2 : y.toInt = x3.toInt - 1 := by rw [ey]; exact rg_dec i3' (by decide)
            clear ey
            have cy := clamp_i (v := y) (by omega)
            have en : x3.toNatClampNeg = y.toNatClampNeg + 1 := by omega
            have en2 : (x3 - (1 : Int32)).toNatClampNeg = y.toNatClampNeg := by omega
            rw [en, en2] at w9
            refine ih2 T9 (kf_t Kg (kf_wI w9 qk)) (evw w9) (by omega) (by omega) ?_ (by omega) (by omega)
            rw [w9, row_up, sm_swap (f := fun i => hI g ks i) (G := gK h pw) (by omega), ← en]
            exact Sg
        refine inn F Tg Kg Eg (by omega) (Int.le_refl _) ?_ (by omega) (by omega)
        rw [sm_eq (g := fun i => gK h pw (hI g ks i)) _ (fun i _ => by
          show gK h pw (up (fun i => hI g ks i) x1.toNatClampNeg v i) = _
          unfold up
          split
          · rename_i w; rw [ev, w]
          · rfl)]
        exact Sg
  unfold sX0_sortSets
  exact l2 F T kf_r E S (by decide) (by rw [z1]; omega)
end
