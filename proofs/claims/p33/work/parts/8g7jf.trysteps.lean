/-! the reference: moves by STEPS to one square -/
section
variable {F : Nat} {V : Nat → Nat} {L : Nat → Nat → Int} {M : Nat → Int} {h o : Hp}
theorem lw_80 (P : RWd V h L M) (i : Nat) : (hI h (V 80) i).toInt = L 80 i ∧ (hI h (V 81) i).toInt = L 81 i ∧ (hI h (V 73) i).toInt = L 73 i := by
  rw [← P.2.1.1]
  exact ⟨rfl, rfl, rfl⟩
theorem beo_v {x : Int32} {o : Int32 × Hp} (W : RWd V h L M) (e : sX15_becomesOthers h (V 16) x = some o) : o.2 = h ∧ ((o.1 = 0 ∧ ¬ 0 < L 81 x.toNatClampNeg) ∨ (o.1 = 1 ∧ 0 < L 81 x.toNatClampNeg)) := by
  have z0 : (0 : Int32).toInt = 0 := rfl
  have l81 := (lw_80 W x.toNatClampNeg).2.1
  unfold sX15_becomesOthers sX15_becomesOthers_17 at e
  replace e := ce_e W.1.1 e
  replace e := ce_e W.1.2.2.2.2.2.2.2.2.2 e
  replace e := gg_e e
  rcases br_s e with ⟨c, e⟩ | ⟨c, e⟩
  · have c := le_i c
    rw [z0, l81] at c
    rw [so_e (gg_e e)]
    exact ⟨rfl, Or.inl ⟨rfl, by omega⟩⟩
  · have c := nle_i c
    rw [z0, l81] at c
    rw [so_e (gg_e e)]
    exact ⟨rfl, Or.inr ⟨rfl, c⟩⟩
theorem rkf_v {s sd : Int32} {o : Int32 × Hp} (H : LOk L) (W : RWd V h L M) (is : 0 ≤ s.toInt) (sL : s.toInt < L 0 0 * L 1 0) (e : sX15_rankFor h (V 16) s sd = some o) : o.2 = h ∧ o.1.toInt = rkF L s.toNatClampNeg sd.toInt := by
  have z1 : (1 : Int32).toInt = 1 := rfl
  have v := rk_val e
  obtain ⟨_, ⟨g1, g2, g3, g4⟩, _⟩ := W
  have fi := H.1
  have ra := H.2.1
  have sq := sq_64 H
  have cs := nc_i is
  have iS : Rg 0 63 s := ⟨is, by omega⟩
  have iA : Rg 3 8 (hI h (V 16) 11) := ⟨by omega, by omega⟩
  have dv := td iS iA ⟨by decide, by decide⟩
  have dr := rg_divv iS iA ⟨by decide, by decide⟩
  have dr0 := dr.1
  have dr1 := dr.2
  rw [v]
  refine ⟨rfl, ?_⟩
  show (rkV (hI h (V 16) 11) (hI h (V 16) 12) s sd).toInt = _
  unfold rkV rkF
  rw [cs]
  by_cases c : sd = 0
  · rw [if_pos c, if_pos (by rw [c]; rfl), ta (by rw [z1]; omega), z1, dv, g2]
  · rw [if_neg c, if_neg (fun z => c (Int32.toInt_inj.mp (by rw [z]; rfl))), ts (by omega), dv, g2, g3]
theorem rwd_m (D : VD V) {g : Hp} (P : RWd V h L M) (A : FrV V (wl wml) h g) : RWd V g L M := rwd_f D P A (by decide) (by decide) rfl rfl rfl
theorem range_s {α : Type} (f : Nat → α) (n : Nat) : (List.range (n + 1)).map f = (List.range n).map f ++ [f n] := by
  rw [List.range_succ, List.map_append]
  rfl
/-- all men that he may become -/
theorem ts_152 (D : VD V) {x2 x3 x4 x6 x7 x8 : Int32} {m : Nat} {ms : List MvT} (em : x4.toInt = (m : Int)) (m12 : m < 12) (b81 : L 81 m ≤ 6) : ∀ (f : Nat) {h : Hp} {x9 : Int32} {n : Nat}, x9.toInt = (n : Int) → (n : Int) ≤ L 81 m → RWd V h L M → WMf V h → RLs V h (ms ++ (List.range n).map (fun q => (x2.toInt, x3.toInt, (m : Int), L 80 (6 * m + q), x6.toInt, x8.toInt, x7.toInt))) → ms.length < 100000 → sX15_trySteps_152 F f h (V 16) x2 x3 x4 (V 14) x6 x7 x8 x9 = some o → FrV V (wl wml) h o ∧ RLs V o (ms ++ (List.range (L 81 m).toNat).map (fun q => (x2.toInt, x3.toInt, (m : Int), L 80 (6 * m + q), x6.toInt, x8.toInt, x7.toInt))) := by
  have z1 : (1 : Int32).toInt = 1 := rfl
  have z6 : (6 : Int32).toInt = 6 := rfl
  have c4 : x4.toNatClampNeg = m := by have := nc_i (x := x4) (by omega); omega
  intro f
  induction f with
  | zero => intro h x9 n _ _ _ _ _ _ e; exact absurd e (by rw [sX15_trySteps_152]; exact fun z => nomatch z)
  | succ f ih =>
    intro h x9 n i9 bn W WM R lm e
    rw [sX15_trySteps_152] at e
    unfold sX15_trySteps_223 at e
    replace e := ce_e W.1.1 e
    replace e := ce_e W.1.2.2.2.2.2.2.2.2.2 e
    replace e := gg_e e
    rw [c4] at e
    have l81 := (lw_80 W m).2.1
    rcases br_s e with ⟨l, e⟩ | ⟨l, e⟩
    · have l := le_i l
      rw [l81, i9] at l
      rw [so_e e, show (L 81 m).toNat = n by omega]
      exact ⟨fv_0, R⟩
    have l := nle_i l
    rw [l81, i9] at l
    have m6 : ((6 : Int32) * x4).toInt = 6 * (m : Int) := by rw [tm (by rw [z6, em]; omega), z6, em]
    have ix : (((6 : Int32) * x4) + x9).toNatClampNeg = 6 * m + n := by
      have a : (((6 : Int32) * x4) + x9).toInt = 6 * (m : Int) + n := by rw [ta (by rw [m6, i9]; omega), m6, i9]
      have := nc_i (x := ((6 : Int32) * x4) + x9) (by omega)
      omega
    replace e := ce_e W.1.1 e
    replace e := ce_e W.1.2.2.2.2.2.2.2.2.1 e
    replace e := gg_e e
    rw [ix] at e
    replace e := cl_s e; obtain ⟨g, eg, e⟩ := e
    obtain ⟨A, R'⟩ := add_r D WM R (by
      rw [List.length_append, List.length_map, List.length_range]; omega) eg
    rw [(lw_80 W (6 * m + n)).1, em, List.append_assoc] at R'
    obtain ⟨r1, r2⟩ := ih (n := n + 1) (by rw [ta (by rw [z1]; omega), z1]; omega) (by omega) (rwd_m D W A) (wmf_f WM A) (by rw [range_s]; exact R') lm (nx_e e)
    exact ⟨fv_t A r1, r2⟩
/-- moves to one square -/
theorem ts_r (D : VD V) {x2 x3 x4 : Int32} {s t m j p0 : Nat} {k sd : Int} {by' : Bool} {ms : List MvT} (H : LOk L) (HM : MOk L M) (W : RWd V h L M) (WM : WMf V h) (w86 : hR h (V 16) 25 = some (V 86)) (w87 : hR h (V 16) 26 = some (V 87)) (w88 : hR h (V 16) 27 = some (V 88)) (w4 : hR h (V 13) 4 = some (V 63)) (R : RLs V h ms) (lm : ms.length < 100000) (e2 : x2.toInt = (s : Int)) (e3 : x3.toInt = (t : Int)) (tL : (t : Int) < L 0 0 * L 1 0) (e4 : x4.toInt = (m : Int)) (m12 : m < 12) (b81 : 0 ≤ L 81 m ∧ L 81 m ≤ 6) (J : StR L j) (r86 : (hI h (V 86) t).toInt = (j : Int)) (r87 : (hI h (V 87) t).toInt = k) (r88 : (hI h (V 88) t = 0 ∧ by' = false) ∨ (hI h (V 88) t = 1 ∧ by' = true)) (rp : by' = true → (hI h (V 63) 0).toInt = (p0 : Int) ∧ p0 < 64 ∧ 0 < M p0) (esd : (hI h (V 13) 1).toInt = sd) (k7 : 1 ≤ k ∧ k ≤ 7) (e : sX15_trySteps F h (V 16) (V 13) x2 x3 x4 (V 14) = some o) : FrV V (wl wml) h o ∧ RLs V o (ms ++ mvL L M p0 sd m s t j k by') := by
  have z0 : (0 : Int32).toInt = 0 := rfl
  have z1 : (1 : Int32).toInt = 1 := rfl
  have zm : (-1 : Int32).toInt = -1 := by decide
  have sq := sq_64 H
  have L2 := H.2.2.1
  have c3 : x3.toNatClampNeg = t := by have := nc_i (x := x3) (by omega); omega
  have c4 : x4.toNatClampNeg = m := by have := nc_i (x := x4) (by omega); omega
  have bM := W.2.2.1
  have mM : ∀ q, (hI h (V 62) q).toInt = M q := fun q => by rw [← W.2.2.2]; rfl
  -- a man's number
  have man : ∀ {v : Int32} {q : Nat}, q < 64 → v.toInt = M q → 0 < M q → ((v - (1 : Int32)) >>> ((1 : Int32) &&& 31)).toInt = ((mnO (M q) : Nat) : Int) := fun {v q} hq hv hp => by
    have m2 := ((HM q hq).2 hp).2
    have tv : (v - (1 : Int32)).toInt = M q - 1 := by rw [ts (by rw [z1]; omega), z1, hv]
    rw [shr_i 1 (by decide), tv, (mno_lt (L := L) hp m2).2]
    rfl
  -- behind: what he becomes
  have k106 : ∀ {ta' far kd : Int32}, ta'.toInt = tkV M p0 t by' → far.toInt = (if fbt (L 75 j) 4 = true ∧ 1 < k then k else 0) → kd.toInt = (if by' = true then 1 else 0) → sX15_trySteps_106 F h (V 16) (V 13) x2 x3 x4 (V 14) ta' far kd = some o → FrV V (wl wml) h o ∧ RLs V o (ms ++ mvL L M p0 sd m s t j k by') := fun {ta' far kd} hta hfar hkd u => by
    unfold sX15_trySteps_106 sX15_trySteps_149 sX15_trySteps_207 sX15_trySteps_223 at u
    have one : (¬ (0 < L 81 m ∧ rkF L t sd = L 1 0 ∧ ¬ (¬ L 18 0 = 0 ∧ ¬ tkV M p0 t by' = -1))) → (cl (sX13_add h (V 14) x2 x3 x4 (-1 : Int32) ta' kd far) fun o_1 => some o_1) = some o → FrV V (wl wml) h o ∧ RLs V o (ms ++ mvL L M p0 sd m s t j k by') := fun no v => by
      replace v := cl_s v; obtain ⟨g, eg, v⟩ := v
      rw [so_e v]
      obtain ⟨A, R'⟩ := add_r D WM R (by omega) eg
      refine ⟨A, ?_⟩
      unfold mvL
      rw [if_neg no]
      rw [e2, e3, e4, zm, hta, hfar, hkd] at R'
      exact R'
    have many : (0 < L 81 m ∧ rkF L t sd = L 1 0 ∧ ¬ (¬ L 18 0 = 0 ∧ ¬ tkV M p0 t by' = -1)) → sX15_trySteps_152 F F h (V 16) x2 x3 x4 (V 14) ta' far kd (0 : Int32) = some o → FrV V (wl wml) h o ∧ RLs V o (ms ++ mvL L M p0 sd m s t j k by') := fun yes v => by
      obtain ⟨A, R'⟩ := ts_152 D e4 m12 b81.2 F (n := 0) rfl (by omega) W WM (by
        rw [List.range_zero, List.map_nil, List.append_nil]; exact R) lm v
      refine ⟨A, ?_⟩
      unfold mvL
      rw [if_pos yes]
      rw [e2, e3, hta, hfar, hkd] at R'
      exact R'
    replace u := cl_s u; obtain ⟨o1, eo1, u⟩ := u
    obtain ⟨w1, v1⟩ := beo_v W eo1
    rw [w1] at u
    rw [c4] at v1
    rcases br_s u with ⟨c, u⟩ | ⟨c, u⟩
    · refine one (fun z => ?_) u
      rcases v1 with ⟨_, y⟩ | ⟨y, _⟩
      · exact y z.1
      · rw [y] at c; exact absurd c (by decide)
    have b0 : 0 < L 81 m := by
      rcases v1 with ⟨y, _⟩ | ⟨_, y⟩
      · exact absurd y c
      · exact y
    replace u := cl_s u; obtain ⟨o3, eo3, u⟩ := u
    obtain ⟨w3, v3⟩ := rkf_v H W (by omega) (by omega) eo3
    rw [w3] at u
    rw [c3, esd] at v3
    have g3 := W.2.1.2.2.1
    rcases br_s u with ⟨c', u⟩ | ⟨c', u⟩
    rotate_left
    · exact one (fun z => c' (Int32.toInt_inj.mp (by rw [v3, z.2.1, g3]))) u
    have rk : rkF L t sd = L 1 0 := by rw [← v3, c', g3]
    replace u := ce_e W.1.1 u
    have l18 := lw_0 W (k := 18) (by decide) 0
    rcases br_s u with ⟨bl, u⟩ | ⟨bl, u⟩
    · refine many ⟨b0, rk, fun z => z.1 ?_⟩ u
      rw [← l18, bl]; rfl
    have bl' : ¬ L 18 0 = 0 := fun z => bl (Int32.toInt_inj.mp (by rw [l18, z]; rfl))
    rcases br_s u with ⟨tn, u⟩ | ⟨tn, u⟩
    · refine many ⟨b0, rk, fun z => z.2 ?_⟩ u
      rw [← hta, tn, zm]
    · refine one (fun z => z.2.2 ⟨bl', fun y => tn (Int32.toInt_inj.mp ?_)⟩) u
      rw [hta, y, zm]
  -- its kind
  have k90 : ∀ {ta' far : Int32}, ta'.toInt = tkV M p0 t by' → far.toInt = (if fbt (L 75 j) 4 = true ∧ 1 < k then k else 0) → sX15_trySteps_90 F h (V 16) (V 13) x2 x3 x4 (V 14) ta' far = some o → FrV V (wl wml) h o ∧ RLs V o (ms ++ mvL L M p0 sd m s t j k by') := fun {ta' far} hta hfar u => by
    unfold sX15_trySteps_90 at u
    replace u := ce_e w88 u
    replace u := gg_e u
    rcases br_s u with ⟨c, u⟩ | ⟨c, u⟩ <;> rw [c3] at c
    · refine k106 hta hfar ?_ u
      rcases r88 with ⟨_, y⟩ | ⟨y, _⟩
      · rw [y]; rfl
      · rw [y] at c; exact absurd c (by decide)
    · refine k106 hta hfar ?_ u
      rcases r88 with ⟨y, _⟩ | ⟨_, y⟩
      · exact absurd y c
      · rw [y]; rfl
  have k48 : ∀ {ta' : Int32}, ta'.toInt = tkV M p0 t by' → sX15_trySteps_48 F h (V 16) (V 13) x2 x3 x4 (V 14) ta' = some o → FrV V (wl wml) h o ∧ RLs V o (ms ++ mvL L M p0 sd m s t j k by') := fun {ta'} hta u => by
    unfold sX15_trySteps_48 sX15_trySteps_89 at u
    replace u := ce_e W.1.1 u
    replace u := ce_e W.1.2.2.2.1 u
    replace u := ce_e w86 u
    replace u := gg_e u
    replace u := gg_e u
    have cj : (hI h (V 86) t).toNatClampNeg = j := by have := nc_i (x := hI h (V 86) t) (by omega); omega
    have l75 := (lw_75 W j).1
    have fb := (fb_e (x := hI h (V 75) j) ⟨by rw [l75]; exact J.1.1, by rw [l75]; exact J.1.2⟩).2.2.2.2.1
    rw [l75] at fb
    rcases br_s u with ⟨c, u⟩ | ⟨c, u⟩ <;> rw [c3, cj] at c
    · exact k90 hta (by rw [if_neg (fun z => by rw [fb.mp c] at z; exact absurd z.1 (by decide))]; rfl) u
    have f4 : fbt (L 75 j) 4 = true := by
      cases y : fbt (L 75 j) 4 with
      | true => rfl
      | false => exact absurd (fb.mpr y) c
    replace u := ce_e w87 u
    replace u := gg_e u
    rcases br_s u with ⟨d, u⟩ | ⟨d, u⟩ <;> rw [c3] at d
    · have d := le_i d
      rw [r87, z1] at d
      exact k90 hta (by rw [if_neg (fun z => by omega)]; rfl) u
    · have d := nle_i d
      rw [r87, z1] at d
      replace u := ce_e w87 u
      replace u := gg_e u
      rw [c3] at u
      exact k90 hta (by rw [if_pos ⟨f4, d⟩, r87]) u
  unfold sX15_trySteps at e
  replace e := ce_e w88 e
  replace e := gg_e e
  rcases br_s e with ⟨c, e⟩ | ⟨c, e⟩ <;> rw [c3] at c
  · have bf : by' = false := by
      rcases r88 with ⟨_, y⟩ | ⟨y, _⟩
      · exact y
      · rw [y] at c; exact absurd c (by decide)
    replace e := ce_e bM e
    replace e := gg_e e
    rcases br_s e with ⟨d, e⟩ | ⟨d, e⟩ <;> rw [c3] at d
    · have d := le_i d
      rw [mM, z0] at d
      refine k48 ?_ e
      unfold tkV
      rw [if_neg (by rw [bf]; decide), if_neg (by omega), zm]
    · have d := nle_i d
      rw [mM, z0] at d
      replace e := ce_e bM e
      replace e := gg_e e
      unfold sX15_manOf at e
      replace e := cl_s e; obtain ⟨o9, eo9, e⟩ := e
      rw [so_e eo9] at e
      rw [c3] at e
      refine k48 ?_ e
      unfold tkV
      rw [if_neg (by rw [bf]; decide), if_pos d]
      exact man (by omega) (mM t) d
  · have bt : by' = true := by
      rcases r88 with ⟨y, _⟩ | ⟨_, y⟩
      · exact absurd y c
      · exact y
    obtain ⟨q1, q2, q3⟩ := rp bt
    replace e := ce_e bM e
    replace e := ce_e w4 e
    replace e := gg_e e
    replace e := gg_e e
    have n0 : (0 : Int32).toNatClampNeg = 0 := rfl
    have cp : (hI h (V 63) (0 : Int32).toNatClampNeg).toNatClampNeg = p0 := by
      rw [n0]
      have := nc_i (x := hI h (V 63) 0) (by omega)
      omega
    unfold sX15_manOf at e
    replace e := cl_s e; obtain ⟨o14, eo14, e⟩ := e
    rw [so_e eo14] at e
    rw [cp] at e
    refine k48 ?_ e
    unfold tkV
    rw [if_pos bt]
    exact man q2 (mM p0) q3
end
